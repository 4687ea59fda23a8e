section CQ13
variable {p : Program} {l : Launch} {e : Env} {s : State} {m : MethodId} {args : Array Value} {below : List Frame} {meth : Method} {c : Code} {D : cl_D} {c0 : Nat}
abbrev cX10_takeApart : ByteArray := prog_12_method_17_code
def yX10_takeApart : MethodName := ⟨RX10, "takeApart", "(LPartHouse$Term;)V"⟩
theorem dX10_takeApart_0 : decode cX10_takeApart 0 = .ok (.aload_n 1, 1) := by decide +kernel
theorem dX10_takeApart_1 : decode cX10_takeApart 1 = .ok (.getfield 131, 3) := by decide +kernel
theorem dX10_takeApart_4 : decode cX10_takeApart 4 = .ok (.iconst 1, 1) := by decide +kernel
theorem dX10_takeApart_5 : decode cX10_takeApart 5 = .ok (.iadd, 1) := by decide +kernel
theorem dX10_takeApart_6 : decode cX10_takeApart 6 = .ok (.istore_n 2, 1) := by decide +kernel
theorem dX10_takeApart_7 : decode cX10_takeApart 7 = .ok (.aload_n 1, 1) := by decide +kernel
theorem dX10_takeApart_8 : decode cX10_takeApart 8 = .ok (.getfield 67, 3) := by decide +kernel
theorem dX10_takeApart_11 : decode cX10_takeApart 11 = .ok (.iconst 3, 1) := by decide +kernel
theorem dX10_takeApart_12 : decode cX10_takeApart 12 = .ok (.if_icmp .ne 24, 3) := by decide +kernel
theorem dX10_takeApart_15 : decode cX10_takeApart 15 = .ok (.aload_n 0, 1) := by decide +kernel
theorem dX10_takeApart_16 : decode cX10_takeApart 16 = .ok (.aload_n 1, 1) := by decide +kernel
theorem dX10_takeApart_17 : decode cX10_takeApart 17 = .ok (.getfield 24, 3) := by decide +kernel
theorem dX10_takeApart_20 : decode cX10_takeApart 20 = .ok (.iload_n 2, 1) := by decide +kernel
theorem dX10_takeApart_21 : decode cX10_takeApart 21 = .ok (.invokevirtual 146, 3) := by decide +kernel
theorem dX10_takeApart_24 : decode cX10_takeApart 24 = .ok (.aload_n 0, 1) := by decide +kernel
theorem dX10_takeApart_25 : decode cX10_takeApart 25 = .ok (.aload_n 1, 1) := by decide +kernel
theorem dX10_takeApart_26 : decode cX10_takeApart 26 = .ok (.getfield 27, 3) := by decide +kernel
theorem dX10_takeApart_29 : decode cX10_takeApart 29 = .ok (.iload_n 2, 1) := by decide +kernel
theorem dX10_takeApart_30 : decode cX10_takeApart 30 = .ok (.invokevirtual 146, 3) := by decide +kernel
theorem dX10_takeApart_33 : decode cX10_takeApart 33 = .ok (.goto 66, 3) := by decide +kernel
theorem dX10_takeApart_36 : decode cX10_takeApart 36 = .ok (.aload_n 1, 1) := by decide +kernel
theorem dX10_takeApart_37 : decode cX10_takeApart 37 = .ok (.getfield 67, 3) := by decide +kernel
theorem dX10_takeApart_40 : decode cX10_takeApart 40 = .ok (.bipush 7, 2) := by decide +kernel
theorem dX10_takeApart_42 : decode cX10_takeApart 42 = .ok (.if_icmp .ne 15, 3) := by decide +kernel
theorem dX10_takeApart_45 : decode cX10_takeApart 45 = .ok (.aload_n 0, 1) := by decide +kernel
theorem dX10_takeApart_46 : decode cX10_takeApart 46 = .ok (.aload_n 1, 1) := by decide +kernel
theorem dX10_takeApart_47 : decode cX10_takeApart 47 = .ok (.getfield 27, 3) := by decide +kernel
theorem dX10_takeApart_50 : decode cX10_takeApart 50 = .ok (.iload_n 2, 1) := by decide +kernel
theorem dX10_takeApart_51 : decode cX10_takeApart 51 = .ok (.invokevirtual 146, 3) := by decide +kernel
theorem dX10_takeApart_54 : decode cX10_takeApart 54 = .ok (.goto 45, 3) := by decide +kernel
theorem dX10_takeApart_57 : decode cX10_takeApart 57 = .ok (.aload_n 1, 1) := by decide +kernel
theorem dX10_takeApart_58 : decode cX10_takeApart 58 = .ok (.getfield 67, 3) := by decide +kernel
theorem dX10_takeApart_61 : decode cX10_takeApart 61 = .ok (.bipush 8, 2) := by decide +kernel
theorem dX10_takeApart_63 : decode cX10_takeApart 63 = .ok (.if_icmp .ne 36, 3) := by decide +kernel
theorem dX10_takeApart_66 : decode cX10_takeApart 66 = .ok (.aload_n 0, 1) := by decide +kernel
theorem dX10_takeApart_67 : decode cX10_takeApart 67 = .ok (.aload_n 1, 1) := by decide +kernel
theorem dX10_takeApart_68 : decode cX10_takeApart 68 = .ok (.getfield 27, 3) := by decide +kernel
theorem dX10_takeApart_71 : decode cX10_takeApart 71 = .ok (.iload_n 2, 1) := by decide +kernel
theorem dX10_takeApart_72 : decode cX10_takeApart 72 = .ok (.invokevirtual 146, 3) := by decide +kernel
theorem dX10_takeApart_75 : decode cX10_takeApart 75 = .ok (.aload_n 0, 1) := by decide +kernel
theorem dX10_takeApart_76 : decode cX10_takeApart 76 = .ok (.aload_n 1, 1) := by decide +kernel
theorem dX10_takeApart_77 : decode cX10_takeApart 77 = .ok (.getfield 24, 3) := by decide +kernel
theorem dX10_takeApart_80 : decode cX10_takeApart 80 = .ok (.aload_n 1, 1) := by decide +kernel
theorem dX10_takeApart_81 : decode cX10_takeApart 81 = .ok (.getfield 131, 3) := by decide +kernel
theorem dX10_takeApart_84 : decode cX10_takeApart 84 = .ok (.invokevirtual 156, 3) := by decide +kernel
theorem dX10_takeApart_87 : decode cX10_takeApart 87 = .ok (.ifCond .eq 12, 3) := by decide +kernel
theorem dX10_takeApart_90 : decode cX10_takeApart 90 = .ok (.aload_n 0, 1) := by decide +kernel
theorem dX10_takeApart_91 : decode cX10_takeApart 91 = .ok (.aload_n 1, 1) := by decide +kernel
theorem dX10_takeApart_92 : decode cX10_takeApart 92 = .ok (.getfield 30, 3) := by decide +kernel
theorem dX10_takeApart_95 : decode cX10_takeApart 95 = .ok (.iload_n 2, 1) := by decide +kernel
theorem dX10_takeApart_96 : decode cX10_takeApart 96 = .ok (.invokevirtual 146, 3) := by decide +kernel
theorem dX10_takeApart_99 : decode cX10_takeApart 99 = .ok (.return_, 1) := by decide +kernel
theorem cc_X10_takeApart : Cond.code yX10_takeApart cX10_takeApart 3 none ∈ rf_tb := rf_at 1442 (by decide +kernel) (by decide +kernel)
theorem cw_RX10_146 : cl_wV RX10 RX10 yX10_learn cX10_learn 3 none 146 2 := ⟨⟨rf_at 1435 (by decide +kernel) (by decide +kernel), rf_at 1437 (by decide +kernel) (by decide +kernel), rf_sel (q := (yX10_learn, 11)) 71 (by decide +kernel) (by decide +kernel), cc_X10_learn, rf_at 9 (by decide +kernel) (by decide +kernel)⟩, ⟨by decide, by decide, by decide +kernel⟩⟩
theorem cw_RX10_156 : cl_wV RX10 RX10 yX10_isHad cX10_isHad 3 (some .boolean) 156 2 := ⟨⟨rf_at 1443 (by decide +kernel) (by decide +kernel), rf_at 1445 (by decide +kernel) (by decide +kernel), rf_sel (q := (yX10_isHad, 11)) 73 (by decide +kernel) (by decide +kernel), cc_X10_isHad, rf_at 9 (by decide +kernel) (by decide +kernel)⟩, ⟨by decide, by decide, by decide +kernel⟩⟩
noncomputable def bc_X10_takeApart_0 (a : Nat) (x1 : (Option Nat)) (σ : cl_S) : Option (cl_S) := nn x1 (fun a_1 => vl ((σ.1 a_1 10) + (1:Int32)) (fun x2_4 => (if (σ.1 a_1 0) = (3:Int32) then vl (σ.2.2.1 a_1 3) (fun r_45 => bd1 (fc_X10_learn a r_45 x2_4 σ) (fun σ_48 => vl (σ_48.2.2.1 a_1 4) (fun r_54 => bd1 (fc_X10_learn a r_54 x2_4 σ_48) (fun σ_57 => some σ_57)))) else (if (σ.1 a_1 0) = (7:Int32) then vl (σ.2.2.1 a_1 4) (fun r_36 => bd1 (fc_X10_learn a r_36 x2_4 σ) (fun σ_39 => some σ_39)) else (if (σ.1 a_1 0) = (8:Int32) then vl (σ.2.2.1 a_1 4) (fun r_8 => bd1 (fc_X10_learn a r_8 x2_4 σ) (fun σ_11 => vl (σ_11.2.2.1 a_1 3) (fun r_17 => bd2 (fc_X10_isHad a r_17 (σ_11.1 a_1 10) σ_11) (fun r_21 σ_20 => (if r_21 = 0 then some σ_20 else vl (σ_20.2.2.1 a_1 5) (fun r_27 => bd1 (fc_X10_learn a r_27 x2_4 σ_20) (fun σ_30 => some σ_30))))))) else some σ)))))
set_option maxHeartbeats 4000000 in
theorem wc_X10_takeApart_0 (C : cl_C D p s m args meth c cX10_takeApart 3 none RX10) {a : Nat} {x1 : (Option Nat)} {σ0 σ σ' : cl_S} {T : Nat → Nat × Nat} {H : Heap} {locs : List Loc} {ls : Array Slot} {cells slots : Nat} (h : bc_X10_takeApart_0 a x1 σ = some σ') (G : cl_G true D c0 ({ frames := 1, cells := σ0.2.2.2.2.2.1, slots := σ0.2.2.2.2.2.2, locals := 22 }) s σ0.2.2.2.1 T σ H locs cells slots) (ha : (T a).1 = 26) (f1 : cl_RT T x1 25) (hl : lv_has ls 3 [(0, .ref (c0 + a)), (1, cl_rf c0 x1)]) : W p l e ({ frames := 1, cells := σ0.2.2.2.2.2.1, slots := σ0.2.2.2.2.2.2, locals := 22 }) s m args below meth c H locs cells slots (MQ below (cl_Q true D c0 none cl_no σ0 σ') args s (σ0.2.2.2.2.2.1 - σ'.2.2.2.2.2.1) (σ0.2.2.2.2.2.2 - σ'.2.2.2.2.2.2) (cl_A c0 σ0.2.2.2.1 s.heap.size)) (F0 m 0 ls []) := by
  unfold bc_X10_takeApart_0 at h
  refine cl_aload_n C.1 C.2.1 dX10_takeApart_0 rfl (lv_at hl 1 rfl) ?_
  obtain ⟨a_1, rfl, h_3⟩ := nn_some h
  have t_2 := f1 _ rfl
  refine cg_10_131 C G t_2 dX10_takeApart_1 ?_
  refine lv_iconst (v := (1:Int32)) C.1 C.2.1 dX10_takeApart_4 (by decide) ?_
  refine lv_iadd C.1 C.2.1 dX10_takeApart_5 ?_
  refine vt_i h_3 (fun x2_4 h_5 => ?_)
  refine lv_istore_n (lv' := [(2, .int x2_4), (0, .ref (c0 + a)), (1, .ref (c0 + a_1))]) C.1 C.2.1 dX10_takeApart_6 rfl hl (by decide) rfl (fun ls hl_6 => ?_)
  refine lv_aload_n C.1 C.2.1 dX10_takeApart_7 rfl (lv_at hl_6 2 rfl) ?_
  refine cg_10_67 C G t_2 dX10_takeApart_8 ?_
  refine lv_iconst (v := (3:Int32)) C.1 C.2.1 dX10_takeApart_11 (by decide) ?_
  refine lv_icmp_ne (tgt := 36) C.1 C.2.1 dX10_takeApart_12 (by decide) (fun hc => ?_) (fun hc => ?_)
  · rw [if_neg hc] at h_5
    refine lv_aload_n C.1 C.2.1 dX10_takeApart_36 rfl (lv_at hl_6 2 rfl) ?_
    refine cg_10_67 C G t_2 dX10_takeApart_37 ?_
    refine lv_bipush (v := (7:Int32)) C.1 C.2.1 dX10_takeApart_40 (by decide) ?_
    refine lv_icmp_ne (tgt := 57) C.1 C.2.1 dX10_takeApart_42 (by decide) (fun hc => ?_) (fun hc => ?_)
    · rw [if_neg hc] at h_5
      refine lv_aload_n C.1 C.2.1 dX10_takeApart_57 rfl (lv_at hl_6 2 rfl) ?_
      refine cg_10_67 C G t_2 dX10_takeApart_58 ?_
      refine lv_bipush (v := (8:Int32)) C.1 C.2.1 dX10_takeApart_61 (by decide) ?_
      refine lv_icmp_ne (tgt := 99) C.1 C.2.1 dX10_takeApart_63 (by decide) (fun hc => ?_) (fun hc => ?_)
      · rw [if_neg hc] at h_5
        exact cl_vret ⟨rfl, rfl⟩ rfl C G h_5 dX10_takeApart_99
      · rw [if_pos hc] at h_5
        refine lv_aload_n C.1 C.2.1 dX10_takeApart_66 rfl (lv_at hl_6 1 rfl) ?_
        refine lv_aload_n C.1 C.2.1 dX10_takeApart_67 rfl (lv_at hl_6 2 rfl) ?_
        refine cg_10_27 C G t_2 dX10_takeApart_68 (fun t_7 => ?_)
        refine vt_r (K := 25) t_7 h_5 (fun r_8 t_9 h_10 => ?_)
        refine lv_iload_n C.1 C.2.1 dX10_takeApart_71 rfl (lv_at hl_6 0 rfl) ?_
        obtain ⟨σ_11, hq, h_12⟩ := bd1_some h_10
        refine cl_callV (ci := 10) (rest := []) C G rfl ha cw_RX10_146 [cl_rf c0 r_8, .int x2_4] _ (kc_X10_learn l D c0 (by rw [G.1]; exact ha) hq (by rw [G.1]; exact t_9)) (Nat.le_of_ble_eq_true rfl) (Nat.le_of_ble_eq_true rfl) rfl rfl hl_6.1 (Nat.le_of_ble_eq_true rfl) dX10_takeApart_72 (fun T_13 H locs cells slots t_14 hu G_15 => ?_)
        have ha := hu.kind ha (by decide)
        have t_2 := hu.kind t_2 (by decide)
        refine W.eq (g2 := F0 m 75 ls []) rfl ?_
        refine lv_aload_n C.1 C.2.1 dX10_takeApart_75 rfl (lv_at hl_6 1 rfl) ?_
        refine lv_aload_n C.1 C.2.1 dX10_takeApart_76 rfl (lv_at hl_6 2 rfl) ?_
        refine cg_10_24 C G_15 t_2 dX10_takeApart_77 (fun t_16 => ?_)
        refine vt_r (K := 25) t_16 h_12 (fun r_17 t_18 h_19 => ?_)
        refine lv_aload_n C.1 C.2.1 dX10_takeApart_80 rfl (lv_at hl_6 2 rfl) ?_
        refine cg_10_131 C G_15 t_2 dX10_takeApart_81 ?_
        obtain ⟨r_21, σ_20, hq, h_22⟩ := bd2_some h_19
        refine cl_callV (ci := 10) (rest := []) C G_15 rfl ha cw_RX10_156 [cl_rf c0 r_17, .int (σ_11.1 a_1 10)] _ (kc_X10_isHad l D c0 (by rw [G_15.1]; exact ha) hq (by rw [G_15.1]; exact t_18)) (Nat.le_of_ble_eq_true rfl) (Nat.le_of_ble_eq_true rfl) rfl rfl hl_6.1 (Nat.le_of_ble_eq_true rfl) dX10_takeApart_84 (fun T_23 H locs cells slots t_24 hu G_25 => ?_)
        have ha := hu.kind ha (by decide)
        have t_2 := hu.kind t_2 (by decide)
        refine W.eq (g2 := F0 m 87 ls [.int r_21]) rfl ?_
        refine lv_if_eq (tgt := 99) C.1 C.2.1 dX10_takeApart_87 (by decide) (fun hc => ?_) (fun hc => ?_)
        · rw [if_pos hc] at h_22
          exact cl_vret ⟨rfl, rfl⟩ rfl C G_25 h_22 dX10_takeApart_99
        · rw [if_neg hc] at h_22
          refine lv_aload_n C.1 C.2.1 dX10_takeApart_90 rfl (lv_at hl_6 1 rfl) ?_
          refine lv_aload_n C.1 C.2.1 dX10_takeApart_91 rfl (lv_at hl_6 2 rfl) ?_
          refine cg_10_30 C G_25 t_2 dX10_takeApart_92 (fun t_26 => ?_)
          refine vt_r (K := 25) t_26 h_22 (fun r_27 t_28 h_29 => ?_)
          refine lv_iload_n C.1 C.2.1 dX10_takeApart_95 rfl (lv_at hl_6 0 rfl) ?_
          obtain ⟨σ_30, hq, h_31⟩ := bd1_some h_29
          refine cl_callV (ci := 10) (rest := []) C G_25 rfl ha cw_RX10_146 [cl_rf c0 r_27, .int x2_4] _ (kc_X10_learn l D c0 (by rw [G_25.1]; exact ha) hq (by rw [G_25.1]; exact t_28)) (Nat.le_of_ble_eq_true rfl) (Nat.le_of_ble_eq_true rfl) rfl rfl hl_6.1 (Nat.le_of_ble_eq_true rfl) dX10_takeApart_96 (fun T_32 H locs cells slots t_33 hu G_34 => ?_)
          have ha := hu.kind ha (by decide)
          have t_2 := hu.kind t_2 (by decide)
          refine W.eq (g2 := F0 m 99 ls []) rfl ?_
          exact cl_vret ⟨rfl, rfl⟩ rfl C G_34 h_31 dX10_takeApart_99
    · rw [if_pos hc] at h_5
      refine lv_aload_n C.1 C.2.1 dX10_takeApart_45 rfl (lv_at hl_6 1 rfl) ?_
      refine lv_aload_n C.1 C.2.1 dX10_takeApart_46 rfl (lv_at hl_6 2 rfl) ?_
      refine cg_10_27 C G t_2 dX10_takeApart_47 (fun t_35 => ?_)
      refine vt_r (K := 25) t_35 h_5 (fun r_36 t_37 h_38 => ?_)
      refine lv_iload_n C.1 C.2.1 dX10_takeApart_50 rfl (lv_at hl_6 0 rfl) ?_
      obtain ⟨σ_39, hq, h_40⟩ := bd1_some h_38
      refine cl_callV (ci := 10) (rest := []) C G rfl ha cw_RX10_146 [cl_rf c0 r_36, .int x2_4] _ (kc_X10_learn l D c0 (by rw [G.1]; exact ha) hq (by rw [G.1]; exact t_37)) (Nat.le_of_ble_eq_true rfl) (Nat.le_of_ble_eq_true rfl) rfl rfl hl_6.1 (Nat.le_of_ble_eq_true rfl) dX10_takeApart_51 (fun T_41 H locs cells slots t_42 hu G_43 => ?_)
      have ha := hu.kind ha (by decide)
      have t_2 := hu.kind t_2 (by decide)
      refine W.eq (g2 := F0 m 54 ls []) rfl ?_
      refine lv_goto (tgt := 99) C.1 C.2.1 dX10_takeApart_54 (by decide) ?_
      exact cl_vret ⟨rfl, rfl⟩ rfl C G_43 h_40 dX10_takeApart_99
  · rw [if_pos hc] at h_5
    refine lv_aload_n C.1 C.2.1 dX10_takeApart_15 rfl (lv_at hl_6 1 rfl) ?_
    refine lv_aload_n C.1 C.2.1 dX10_takeApart_16 rfl (lv_at hl_6 2 rfl) ?_
    refine cg_10_24 C G t_2 dX10_takeApart_17 (fun t_44 => ?_)
    refine vt_r (K := 25) t_44 h_5 (fun r_45 t_46 h_47 => ?_)
    refine lv_iload_n C.1 C.2.1 dX10_takeApart_20 rfl (lv_at hl_6 0 rfl) ?_
    obtain ⟨σ_48, hq, h_49⟩ := bd1_some h_47
    refine cl_callV (ci := 10) (rest := []) C G rfl ha cw_RX10_146 [cl_rf c0 r_45, .int x2_4] _ (kc_X10_learn l D c0 (by rw [G.1]; exact ha) hq (by rw [G.1]; exact t_46)) (Nat.le_of_ble_eq_true rfl) (Nat.le_of_ble_eq_true rfl) rfl rfl hl_6.1 (Nat.le_of_ble_eq_true rfl) dX10_takeApart_21 (fun T_50 H locs cells slots t_51 hu G_52 => ?_)
    have ha := hu.kind ha (by decide)
    have t_2 := hu.kind t_2 (by decide)
    refine W.eq (g2 := F0 m 24 ls []) rfl ?_
    refine lv_aload_n C.1 C.2.1 dX10_takeApart_24 rfl (lv_at hl_6 1 rfl) ?_
    refine lv_aload_n C.1 C.2.1 dX10_takeApart_25 rfl (lv_at hl_6 2 rfl) ?_
    refine cg_10_27 C G_52 t_2 dX10_takeApart_26 (fun t_53 => ?_)
    refine vt_r (K := 25) t_53 h_49 (fun r_54 t_55 h_56 => ?_)
    refine lv_iload_n C.1 C.2.1 dX10_takeApart_29 rfl (lv_at hl_6 0 rfl) ?_
    obtain ⟨σ_57, hq, h_58⟩ := bd1_some h_56
    refine cl_callV (ci := 10) (rest := []) C G_52 rfl ha cw_RX10_146 [cl_rf c0 r_54, .int x2_4] _ (kc_X10_learn l D c0 (by rw [G_52.1]; exact ha) hq (by rw [G_52.1]; exact t_55)) (Nat.le_of_ble_eq_true rfl) (Nat.le_of_ble_eq_true rfl) rfl rfl hl_6.1 (Nat.le_of_ble_eq_true rfl) dX10_takeApart_30 (fun T_59 H locs cells slots t_60 hu G_61 => ?_)
    have ha := hu.kind ha (by decide)
    have t_2 := hu.kind t_2 (by decide)
    refine W.eq (g2 := F0 m 33 ls []) rfl ?_
    refine lv_goto (tgt := 99) C.1 C.2.1 dX10_takeApart_33 (by decide) ?_
    exact cl_vret ⟨rfl, rfl⟩ rfl C G_61 h_58 dX10_takeApart_99
noncomputable def fc_X10_takeApart (a : Nat) (x1 : (Option Nat)) (σ : cl_S) : Option (cl_S) := bc_X10_takeApart_0 a x1 σ
theorem kc_X10_takeApart (l : Launch) (D : cl_D) (c0 : Nat) {a : Nat} {x1 : (Option Nat)} {σ σ' : cl_S} (ha : (σ.2.2.2.1 a).1 = 26) (h : fc_X10_takeApart a x1 σ = some σ') (f1 : cl_RT σ.2.2.2.1 x1 25) : cl_Met true l D c0 yX10_takeApart cX10_takeApart 3 none 1 22 [.ref (c0 + a), cl_rf c0 x1] σ none cl_no σ' :=
  by cases x1 <;> exact cl_of (by decide) (Nat.le_of_ble_eq_true rfl) (fun p e s m args below meth c ls C hn G hl => wc_X10_takeApart_0 C h G ha f1 hl)
abbrev cX10_putTogether : ByteArray := prog_12_method_18_code
def yX10_putTogether : MethodName := ⟨RX10, "putTogether", "(LPartHouse$Term;)V"⟩
theorem dX10_putTogether_0 : decode cX10_putTogether 0 = .ok (.aload_n 1, 1) := by decide +kernel
theorem dX10_putTogether_1 : decode cX10_putTogether 1 = .ok (.getfield 131, 3) := by decide +kernel
theorem dX10_putTogether_4 : decode cX10_putTogether 4 = .ok (.istore_n 2, 1) := by decide +kernel
theorem dX10_putTogether_5 : decode cX10_putTogether 5 = .ok (.aload_n 1, 1) := by decide +kernel
theorem dX10_putTogether_6 : decode cX10_putTogether 6 = .ok (.getfield 89, 3) := by decide +kernel
theorem dX10_putTogether_9 : decode cX10_putTogether 9 = .ok (.astore_n 3, 1) := by decide +kernel
theorem dX10_putTogether_10 : decode cX10_putTogether 10 = .ok (.aload_n 3, 1) := by decide +kernel
theorem dX10_putTogether_11 : decode cX10_putTogether 11 = .ok (.ifnull 93, 3) := by decide +kernel
theorem dX10_putTogether_14 : decode cX10_putTogether 14 = .ok (.aload_n 0, 1) := by decide +kernel
theorem dX10_putTogether_15 : decode cX10_putTogether 15 = .ok (.aload_n 3, 1) := by decide +kernel
theorem dX10_putTogether_16 : decode cX10_putTogether 16 = .ok (.getfield 24, 3) := by decide +kernel
theorem dX10_putTogether_19 : decode cX10_putTogether 19 = .ok (.iload_n 2, 1) := by decide +kernel
theorem dX10_putTogether_20 : decode cX10_putTogether 20 = .ok (.invokevirtual 156, 3) := by decide +kernel
theorem dX10_putTogether_23 : decode cX10_putTogether 23 = .ok (.ifCond .eq 35, 3) := by decide +kernel
theorem dX10_putTogether_26 : decode cX10_putTogether 26 = .ok (.aload_n 0, 1) := by decide +kernel
theorem dX10_putTogether_27 : decode cX10_putTogether 27 = .ok (.aload_n 3, 1) := by decide +kernel
theorem dX10_putTogether_28 : decode cX10_putTogether 28 = .ok (.getfield 27, 3) := by decide +kernel
theorem dX10_putTogether_31 : decode cX10_putTogether 31 = .ok (.iload_n 2, 1) := by decide +kernel
theorem dX10_putTogether_32 : decode cX10_putTogether 32 = .ok (.invokevirtual 156, 3) := by decide +kernel
theorem dX10_putTogether_35 : decode cX10_putTogether 35 = .ok (.ifCond .eq 23, 3) := by decide +kernel
theorem dX10_putTogether_38 : decode cX10_putTogether 38 = .ok (.aload_n 0, 1) := by decide +kernel
theorem dX10_putTogether_39 : decode cX10_putTogether 39 = .ok (.aload_n 3, 1) := by decide +kernel
theorem dX10_putTogether_40 : decode cX10_putTogether 40 = .ok (.getfield 30, 3) := by decide +kernel
theorem dX10_putTogether_43 : decode cX10_putTogether 43 = .ok (.iload_n 2, 1) := by decide +kernel
theorem dX10_putTogether_44 : decode cX10_putTogether 44 = .ok (.invokevirtual 156, 3) := by decide +kernel
theorem dX10_putTogether_47 : decode cX10_putTogether 47 = .ok (.ifCond .eq 11, 3) := by decide +kernel
theorem dX10_putTogether_50 : decode cX10_putTogether 50 = .ok (.aload_n 0, 1) := by decide +kernel
theorem dX10_putTogether_51 : decode cX10_putTogether 51 = .ok (.aload_n 3, 1) := by decide +kernel
theorem dX10_putTogether_52 : decode cX10_putTogether 52 = .ok (.iload_n 2, 1) := by decide +kernel
theorem dX10_putTogether_53 : decode cX10_putTogether 53 = .ok (.iconst 1, 1) := by decide +kernel
theorem dX10_putTogether_54 : decode cX10_putTogether 54 = .ok (.iadd, 1) := by decide +kernel
theorem dX10_putTogether_55 : decode cX10_putTogether 55 = .ok (.invokevirtual 146, 3) := by decide +kernel
theorem dX10_putTogether_58 : decode cX10_putTogether 58 = .ok (.aload_n 3, 1) := by decide +kernel
theorem dX10_putTogether_59 : decode cX10_putTogether 59 = .ok (.getfield 67, 3) := by decide +kernel
theorem dX10_putTogether_62 : decode cX10_putTogether 62 = .ok (.bipush 8, 2) := by decide +kernel
theorem dX10_putTogether_64 : decode cX10_putTogether 64 = .ok (.if_icmp .ne 31, 3) := by decide +kernel
theorem dX10_putTogether_67 : decode cX10_putTogether 67 = .ok (.aload_n 3, 1) := by decide +kernel
theorem dX10_putTogether_68 : decode cX10_putTogether 68 = .ok (.getfield 24, 3) := by decide +kernel
theorem dX10_putTogether_71 : decode cX10_putTogether 71 = .ok (.aload_n 1, 1) := by decide +kernel
theorem dX10_putTogether_72 : decode cX10_putTogether 72 = .ok (.if_acmp .ne 23, 3) := by decide +kernel
theorem dX10_putTogether_75 : decode cX10_putTogether 75 = .ok (.aload_n 0, 1) := by decide +kernel
theorem dX10_putTogether_76 : decode cX10_putTogether 76 = .ok (.aload_n 3, 1) := by decide +kernel
theorem dX10_putTogether_77 : decode cX10_putTogether 77 = .ok (.iload_n 2, 1) := by decide +kernel
theorem dX10_putTogether_78 : decode cX10_putTogether 78 = .ok (.invokevirtual 156, 3) := by decide +kernel
theorem dX10_putTogether_81 : decode cX10_putTogether 81 = .ok (.ifCond .eq 14, 3) := by decide +kernel
theorem dX10_putTogether_84 : decode cX10_putTogether 84 = .ok (.aload_n 0, 1) := by decide +kernel
theorem dX10_putTogether_85 : decode cX10_putTogether 85 = .ok (.aload_n 3, 1) := by decide +kernel
theorem dX10_putTogether_86 : decode cX10_putTogether 86 = .ok (.getfield 30, 3) := by decide +kernel
theorem dX10_putTogether_89 : decode cX10_putTogether 89 = .ok (.iload_n 2, 1) := by decide +kernel
theorem dX10_putTogether_90 : decode cX10_putTogether 90 = .ok (.iconst 1, 1) := by decide +kernel
theorem dX10_putTogether_91 : decode cX10_putTogether 91 = .ok (.iadd, 1) := by decide +kernel
theorem dX10_putTogether_92 : decode cX10_putTogether 92 = .ok (.invokevirtual 146, 3) := by decide +kernel
theorem dX10_putTogether_95 : decode cX10_putTogether 95 = .ok (.aload_n 3, 1) := by decide +kernel
theorem dX10_putTogether_96 : decode cX10_putTogether 96 = .ok (.aload_n 1, 1) := by decide +kernel
theorem dX10_putTogether_97 : decode cX10_putTogether 97 = .ok (.invokevirtual 160, 3) := by decide +kernel
theorem dX10_putTogether_100 : decode cX10_putTogether 100 = .ok (.astore_n 3, 1) := by decide +kernel
theorem dX10_putTogether_101 : decode cX10_putTogether 101 = .ok (.goto (-91), 3) := by decide +kernel
theorem dX10_putTogether_104 : decode cX10_putTogether 104 = .ok (.return_, 1) := by decide +kernel
theorem cc_X10_putTogether : Cond.code yX10_putTogether cX10_putTogether 4 none ∈ rf_tb := rf_at 1450 (by decide +kernel) (by decide +kernel)
theorem cw_RX10_160 : cl_wV RX10 RX9 yX9_nextUserOf cX9_nextUserOf 2 (some (.object "PartHouse$Term")) 160 1 := ⟨⟨rf_at 1451 (by decide +kernel) (by decide +kernel), rf_at 1452 (by decide +kernel) (by decide +kernel), rf_at 1453 (by decide +kernel) (by decide +kernel), cc_X9_nextUserOf, rf_at 10 (by decide +kernel) (by decide +kernel)⟩, ⟨by decide, by decide, by decide +kernel⟩⟩
noncomputable def bc_X10_putTogether_95i10 (a : Nat) (x1 : (Option Nat)) (x2 : Int32) (x3 : (Option Nat)) (σ : cl_S) : Option (((Option Nat) × cl_S) ⊕ ((Option Nat) × cl_S)) := nn x3 (fun a_28 => bd2 (fc_X9_nextUserOf a_28 x1 σ) (fun r_32 σ_31 => some (.inl (r_32, σ_31))))
set_option maxHeartbeats 4000000 in
theorem wc_X10_putTogether_95i10 (C : cl_C D p s m args meth c cX10_putTogether 4 none RX10) {a : Nat} {x1 : (Option Nat)} {x2 : Int32} {x3 : (Option Nat)} {σ0 σ σ' : cl_S} {T : Nat → Nat × Nat} {H : Heap} {locs : List Loc} {ls : Array Slot} {cells slots : Nat} {o : ((Option Nat) × cl_S) ⊕ ((Option Nat) × cl_S)} (h : bc_X10_putTogether_95i10 a x1 x2 x3 σ = some o) (hP : Sum.elim (fun z : ((Option Nat) × cl_S) => ∀ (T : Nat → Nat × Nat) (H : Heap) (locs : List Loc) (ls : Array Slot) (cells slots : Nat), cl_G true D c0 ({ frames := 1, cells := σ0.2.2.2.2.2.1, slots := σ0.2.2.2.2.2.2, locals := 22 }) s σ0.2.2.2.1 T z.2 H locs cells slots → (T a).1 = 26 → cl_RT T x1 25 → cl_RT T (z.1) 25 → lv_has ls 4 [(0, .ref (c0 + a)), (1, cl_rf c0 x1), (2, .int x2), (3, cl_rf c0 (z.1))] → W p l e ({ frames := 1, cells := σ0.2.2.2.2.2.1, slots := σ0.2.2.2.2.2.2, locals := 22 }) s m args below meth c H locs cells slots (MQ below (cl_Q true D c0 none cl_no σ0 σ') args s (σ0.2.2.2.2.2.1 - σ'.2.2.2.2.2.1) (σ0.2.2.2.2.2.2 - σ'.2.2.2.2.2.2) (cl_A c0 σ0.2.2.2.1 s.heap.size)) (F0 m 10 ls [])) (fun z : ((Option Nat) × cl_S) => ∀ (T : Nat → Nat × Nat) (H : Heap) (locs : List Loc) (ls : Array Slot) (cells slots : Nat), cl_G true D c0 ({ frames := 1, cells := σ0.2.2.2.2.2.1, slots := σ0.2.2.2.2.2.2, locals := 22 }) s σ0.2.2.2.1 T z.2 H locs cells slots → (T a).1 = 26 → cl_RT T x1 25 → cl_RT T (z.1) 25 → lv_has ls 4 [(0, .ref (c0 + a)), (1, cl_rf c0 x1), (2, .int x2), (3, cl_rf c0 (z.1))] → W p l e ({ frames := 1, cells := σ0.2.2.2.2.2.1, slots := σ0.2.2.2.2.2.2, locals := 22 }) s m args below meth c H locs cells slots (MQ below (cl_Q true D c0 none cl_no σ0 σ') args s (σ0.2.2.2.2.2.1 - σ'.2.2.2.2.2.1) (σ0.2.2.2.2.2.2 - σ'.2.2.2.2.2.2) (cl_A c0 σ0.2.2.2.1 s.heap.size)) (F0 m 104 ls [])) o) (G : cl_G true D c0 ({ frames := 1, cells := σ0.2.2.2.2.2.1, slots := σ0.2.2.2.2.2.2, locals := 22 }) s σ0.2.2.2.1 T σ H locs cells slots) (ha : (T a).1 = 26) (f1 : cl_RT T x1 25) (f3 : cl_RT T x3 25) (hl : lv_has ls 4 [(0, .ref (c0 + a)), (1, cl_rf c0 x1), (2, .int x2), (3, cl_rf c0 x3)]) : W p l e ({ frames := 1, cells := σ0.2.2.2.2.2.1, slots := σ0.2.2.2.2.2.2, locals := 22 }) s m args below meth c H locs cells slots (MQ below (cl_Q true D c0 none cl_no σ0 σ') args s (σ0.2.2.2.2.2.1 - σ'.2.2.2.2.2.1) (σ0.2.2.2.2.2.2 - σ'.2.2.2.2.2.2) (cl_A c0 σ0.2.2.2.1 s.heap.size)) (F0 m 95 ls []) := by
  unfold bc_X10_putTogether_95i10 at h
  refine cl_aload_n C.1 C.2.1 dX10_putTogether_95 rfl (lv_at hl 3 rfl) ?_
  refine cl_aload_n C.1 C.2.1 dX10_putTogether_96 rfl (lv_at hl 1 rfl) ?_
  obtain ⟨a_28, rfl, h_30⟩ := nn_some h
  have t_29 := f3 _ rfl
  obtain ⟨r_32, σ_31, hq, h_33⟩ := bd2_some h_30
  refine cl_callV (ci := 9) (rest := []) C G rfl t_29 cw_RX10_160 [cl_rf c0 x1] _ (kc_X9_nextUserOf l D c0 (by rw [G.1]; exact t_29) hq (by rw [G.1]; exact f1)) (Nat.le_of_ble_eq_true rfl) (Nat.le_of_ble_eq_true rfl) rfl rfl hl.1 (Nat.le_of_ble_eq_true rfl) dX10_putTogether_97 (fun T_34 H locs cells slots t_35 hu G_36 => ?_)
  have ha := hu.kind ha (by decide)
  have f1 := f1.up hu (by decide)
  have t_29 := hu.kind t_29 (by decide)
  refine W.eq (g2 := F0 m 100 ls [cl_rf c0 r_32]) rfl ?_
  refine cl_astore_n (lv' := [(3, cl_rf c0 r_32), (0, .ref (c0 + a)), (1, cl_rf c0 x1), (2, .int x2)]) C.1 C.2.1 dX10_putTogether_100 rfl hl (by decide) (by first | rfl | (cases x1 <;> rfl)) (fun ls hl_37 => ?_)
  refine lv_goto (tgt := 10) C.1 C.2.1 dX10_putTogether_101 (by decide) ?_
  cases h_33
  exact hP _ _ _ _ _ _ G_36 ha f1 t_35 (lv_sub hl_37 [1, 2, 3, 0] rfl)
noncomputable def bc_X10_putTogether_58i10 (a : Nat) (x1 : (Option Nat)) (x2 : Int32) (x3 : (Option Nat)) (σ : cl_S) : Option (((Option Nat) × cl_S) ⊕ ((Option Nat) × cl_S)) := nn x3 (fun a_25 => (if (σ.1 a_25 0) = (8:Int32) then vl (σ.2.2.1 a_25 3) (fun r_39 => (if r_39 = x1 then bd2 (fc_X10_isHad a (some a_25) x2 σ) (fun r_43 σ_42 => (if r_43 = 0 then bc_X10_putTogether_95i10 a x1 x2 (some a_25) σ_42 else vl (σ_42.2.2.1 a_25 5) (fun r_49 => bd1 (fc_X10_learn a r_49 (x2 + (1:Int32)) σ_42) (fun σ_52 => bc_X10_putTogether_95i10 a x1 x2 (some a_25) σ_52)))) else bc_X10_putTogether_95i10 a x1 x2 (some a_25) σ)) else bc_X10_putTogether_95i10 a x1 x2 (some a_25) σ))
set_option maxHeartbeats 4000000 in
theorem wc_X10_putTogether_58i10 (C : cl_C D p s m args meth c cX10_putTogether 4 none RX10) {a : Nat} {x1 : (Option Nat)} {x2 : Int32} {x3 : (Option Nat)} {σ0 σ σ' : cl_S} {T : Nat → Nat × Nat} {H : Heap} {locs : List Loc} {ls : Array Slot} {cells slots : Nat} {o : ((Option Nat) × cl_S) ⊕ ((Option Nat) × cl_S)} (h : bc_X10_putTogether_58i10 a x1 x2 x3 σ = some o) (hP : Sum.elim (fun z : ((Option Nat) × cl_S) => ∀ (T : Nat → Nat × Nat) (H : Heap) (locs : List Loc) (ls : Array Slot) (cells slots : Nat), cl_G true D c0 ({ frames := 1, cells := σ0.2.2.2.2.2.1, slots := σ0.2.2.2.2.2.2, locals := 22 }) s σ0.2.2.2.1 T z.2 H locs cells slots → (T a).1 = 26 → cl_RT T x1 25 → cl_RT T (z.1) 25 → lv_has ls 4 [(0, .ref (c0 + a)), (1, cl_rf c0 x1), (2, .int x2), (3, cl_rf c0 (z.1))] → W p l e ({ frames := 1, cells := σ0.2.2.2.2.2.1, slots := σ0.2.2.2.2.2.2, locals := 22 }) s m args below meth c H locs cells slots (MQ below (cl_Q true D c0 none cl_no σ0 σ') args s (σ0.2.2.2.2.2.1 - σ'.2.2.2.2.2.1) (σ0.2.2.2.2.2.2 - σ'.2.2.2.2.2.2) (cl_A c0 σ0.2.2.2.1 s.heap.size)) (F0 m 10 ls [])) (fun z : ((Option Nat) × cl_S) => ∀ (T : Nat → Nat × Nat) (H : Heap) (locs : List Loc) (ls : Array Slot) (cells slots : Nat), cl_G true D c0 ({ frames := 1, cells := σ0.2.2.2.2.2.1, slots := σ0.2.2.2.2.2.2, locals := 22 }) s σ0.2.2.2.1 T z.2 H locs cells slots → (T a).1 = 26 → cl_RT T x1 25 → cl_RT T (z.1) 25 → lv_has ls 4 [(0, .ref (c0 + a)), (1, cl_rf c0 x1), (2, .int x2), (3, cl_rf c0 (z.1))] → W p l e ({ frames := 1, cells := σ0.2.2.2.2.2.1, slots := σ0.2.2.2.2.2.2, locals := 22 }) s m args below meth c H locs cells slots (MQ below (cl_Q true D c0 none cl_no σ0 σ') args s (σ0.2.2.2.2.2.1 - σ'.2.2.2.2.2.1) (σ0.2.2.2.2.2.2 - σ'.2.2.2.2.2.2) (cl_A c0 σ0.2.2.2.1 s.heap.size)) (F0 m 104 ls [])) o) (G : cl_G true D c0 ({ frames := 1, cells := σ0.2.2.2.2.2.1, slots := σ0.2.2.2.2.2.2, locals := 22 }) s σ0.2.2.2.1 T σ H locs cells slots) (ha : (T a).1 = 26) (f1 : cl_RT T x1 25) (f3 : cl_RT T x3 25) (hl : lv_has ls 4 [(0, .ref (c0 + a)), (1, cl_rf c0 x1), (2, .int x2), (3, cl_rf c0 x3)]) : W p l e ({ frames := 1, cells := σ0.2.2.2.2.2.1, slots := σ0.2.2.2.2.2.2, locals := 22 }) s m args below meth c H locs cells slots (MQ below (cl_Q true D c0 none cl_no σ0 σ') args s (σ0.2.2.2.2.2.1 - σ'.2.2.2.2.2.1) (σ0.2.2.2.2.2.2 - σ'.2.2.2.2.2.2) (cl_A c0 σ0.2.2.2.1 s.heap.size)) (F0 m 58 ls []) := by
  unfold bc_X10_putTogether_58i10 at h
  refine cl_aload_n C.1 C.2.1 dX10_putTogether_58 rfl (lv_at hl 3 rfl) ?_
  obtain ⟨a_25, rfl, h_27⟩ := nn_some h
  have t_26 := f3 _ rfl
  refine cg_10_67 C G t_26 dX10_putTogether_59 ?_
  refine lv_bipush (v := (8:Int32)) C.1 C.2.1 dX10_putTogether_62 (by decide) ?_
  refine lv_icmp_ne (tgt := 95) C.1 C.2.1 dX10_putTogether_64 (by decide) (fun hc => ?_) (fun hc => ?_)
  · rw [if_neg hc] at h_27
    exact wc_X10_putTogether_95i10 C h_27 hP G ha f1 (cl_RTs t_26) (lv_sub hl [0, 1, 2, 3] rfl)
  · rw [if_pos hc] at h_27
    refine lv_aload_n C.1 C.2.1 dX10_putTogether_67 rfl (lv_at hl 3 rfl) ?_
    refine cg_10_24 C G t_26 dX10_putTogether_68 (fun t_38 => ?_)
    refine vt_r (K := 25) t_38 h_27 (fun r_39 t_40 h_41 => ?_)
    refine cl_aload_n C.1 C.2.1 dX10_putTogether_71 rfl (lv_at hl 1 rfl) ?_
    refine cl_acmp_ne (rx := r_39) (ry := x1) (tgt := 95) C.1 C.2.1 dX10_putTogether_72 (by decide) (fun hc => ?_) (fun hc => ?_)
    · rw [if_neg hc] at h_41
      exact wc_X10_putTogether_95i10 C h_41 hP G ha f1 (cl_RTs t_26) (lv_sub hl [0, 1, 2, 3] rfl)
    · rw [if_pos hc] at h_41
      refine lv_aload_n C.1 C.2.1 dX10_putTogether_75 rfl (lv_at hl 0 rfl) ?_
      refine lv_aload_n C.1 C.2.1 dX10_putTogether_76 rfl (lv_at hl 3 rfl) ?_
      refine lv_iload_n C.1 C.2.1 dX10_putTogether_77 rfl (lv_at hl 2 rfl) ?_
      obtain ⟨r_43, σ_42, hq, h_44⟩ := bd2_some h_41
      refine cl_callV (ci := 10) (rest := []) C G rfl ha cw_RX10_156 [.ref (c0 + a_25), .int x2] _ (kc_X10_isHad l D c0 (by rw [G.1]; exact ha) hq (by rw [G.1]; exact (cl_RTs t_26))) (Nat.le_of_ble_eq_true rfl) (Nat.le_of_ble_eq_true rfl) rfl rfl hl.1 (Nat.le_of_ble_eq_true rfl) dX10_putTogether_78 (fun T_45 H locs cells slots t_46 hu G_47 => ?_)
      have ha := hu.kind ha (by decide)
      have f1 := f1.up hu (by decide)
      have t_26 := hu.kind t_26 (by decide)
      refine W.eq (g2 := F0 m 81 ls [.int r_43]) rfl ?_
      refine lv_if_eq (tgt := 95) C.1 C.2.1 dX10_putTogether_81 (by decide) (fun hc => ?_) (fun hc => ?_)
      · rw [if_pos hc] at h_44
        exact wc_X10_putTogether_95i10 C h_44 hP G_47 ha f1 (cl_RTs t_26) (lv_sub hl [0, 1, 2, 3] rfl)
      · rw [if_neg hc] at h_44
        refine lv_aload_n C.1 C.2.1 dX10_putTogether_84 rfl (lv_at hl 0 rfl) ?_
        refine lv_aload_n C.1 C.2.1 dX10_putTogether_85 rfl (lv_at hl 3 rfl) ?_
        refine cg_10_30 C G_47 t_26 dX10_putTogether_86 (fun t_48 => ?_)
        refine vt_r (K := 25) t_48 h_44 (fun r_49 t_50 h_51 => ?_)
        refine lv_iload_n C.1 C.2.1 dX10_putTogether_89 rfl (lv_at hl 2 rfl) ?_
        refine lv_iconst (v := (1:Int32)) C.1 C.2.1 dX10_putTogether_90 (by decide) ?_
        refine lv_iadd C.1 C.2.1 dX10_putTogether_91 ?_
        obtain ⟨σ_52, hq, h_53⟩ := bd1_some h_51
        refine cl_callV (ci := 10) (rest := []) C G_47 rfl ha cw_RX10_146 [cl_rf c0 r_49, .int (x2 + (1:Int32))] _ (kc_X10_learn l D c0 (by rw [G_47.1]; exact ha) hq (by rw [G_47.1]; exact t_50)) (Nat.le_of_ble_eq_true rfl) (Nat.le_of_ble_eq_true rfl) rfl rfl hl.1 (Nat.le_of_ble_eq_true rfl) dX10_putTogether_92 (fun T_54 H locs cells slots t_55 hu G_56 => ?_)
        have ha := hu.kind ha (by decide)
        have f1 := f1.up hu (by decide)
        have t_26 := hu.kind t_26 (by decide)
        refine W.eq (g2 := F0 m 95 ls []) rfl ?_
        exact wc_X10_putTogether_95i10 C h_53 hP G_56 ha f1 (cl_RTs t_26) (lv_sub hl [0, 1, 2, 3] rfl)
noncomputable def lc_X10_putTogether_10 (a : Nat) (x1 : (Option Nat)) (x2 : Int32) (x3 : (Option Nat)) (σ : cl_S) : Option (((Option Nat) × cl_S) ⊕ ((Option Nat) × cl_S)) := (if x3 = none then some (.inr (x3, σ)) else nn x3 (fun a_12 => vl (σ.2.2.1 a_12 3) (fun r_16 => bd2 (fc_X10_isHad a r_16 x2 σ) (fun r_20 σ_19 => (if r_20 = 0 then bc_X10_putTogether_58i10 a x1 x2 (some a_12) σ_19 else vl (σ_19.2.2.1 a_12 4) (fun r_58 => bd2 (fc_X10_isHad a r_58 x2 σ_19) (fun r_62 σ_61 => (if r_62 = 0 then bc_X10_putTogether_58i10 a x1 x2 (some a_12) σ_61 else vl (σ_61.2.2.1 a_12 5) (fun r_68 => bd2 (fc_X10_isHad a r_68 x2 σ_61) (fun r_72 σ_71 => (if r_72 = 0 then bc_X10_putTogether_58i10 a x1 x2 (some a_12) σ_71 else bd1 (fc_X10_learn a (some a_12) (x2 + (1:Int32)) σ_71) (fun σ_77 => bc_X10_putTogether_58i10 a x1 x2 (some a_12) σ_77))))))))))))
noncomputable def ec_X10_putTogether_10 (a : Nat) (x1 : (Option Nat)) (x2 : Int32) (x3 : (Option Nat)) (σ : cl_S) : Option (cl_S) := some σ
noncomputable def bc_X10_putTogether_10 (a : Nat) (x1 : (Option Nat)) (x2 : Int32) (x3 : (Option Nat)) (σ : cl_S) : Option (cl_S) := (lp (fun z : ((Option Nat) × cl_S) => lc_X10_putTogether_10 a x1 x2 z.1 z.2) (x3, σ)).bind (fun z => ec_X10_putTogether_10 a x1 x2 z.1 z.2)
set_option maxHeartbeats 4000000 in
theorem wc_X10_putTogether_10 (C : cl_C D p s m args meth c cX10_putTogether 4 none RX10) {a : Nat} {x1 : (Option Nat)} {x2 : Int32} {x3 : (Option Nat)} {σ0 σ σ' : cl_S} {T : Nat → Nat × Nat} {H : Heap} {locs : List Loc} {ls : Array Slot} {cells slots : Nat} (h : bc_X10_putTogether_10 a x1 x2 x3 σ = some σ') (G : cl_G true D c0 ({ frames := 1, cells := σ0.2.2.2.2.2.1, slots := σ0.2.2.2.2.2.2, locals := 22 }) s σ0.2.2.2.1 T σ H locs cells slots) (ha : (T a).1 = 26) (f1 : cl_RT T x1 25) (f3 : cl_RT T x3 25) (hl : lv_has ls 4 [(0, .ref (c0 + a)), (1, cl_rf c0 x1), (2, .int x2), (3, cl_rf c0 x3)]) : W p l e ({ frames := 1, cells := σ0.2.2.2.2.2.1, slots := σ0.2.2.2.2.2.2, locals := 22 }) s m args below meth c H locs cells slots (MQ below (cl_Q true D c0 none cl_no σ0 σ') args s (σ0.2.2.2.2.2.1 - σ'.2.2.2.2.2.1) (σ0.2.2.2.2.2.2 - σ'.2.2.2.2.2.2) (cl_A c0 σ0.2.2.2.1 s.heap.size)) (F0 m 10 ls []) := by
  unfold bc_X10_putTogether_10 at h
  obtain ⟨y, hy, h⟩ := bd_some h
  have hE : (fun z : ((Option Nat) × cl_S) => ∀ (T : Nat → Nat × Nat) (H : Heap) (locs : List Loc) (ls : Array Slot) (cells slots : Nat), cl_G true D c0 ({ frames := 1, cells := σ0.2.2.2.2.2.1, slots := σ0.2.2.2.2.2.2, locals := 22 }) s σ0.2.2.2.1 T z.2 H locs cells slots → (T a).1 = 26 → cl_RT T x1 25 → cl_RT T (z.1) 25 → lv_has ls 4 [(0, .ref (c0 + a)), (1, cl_rf c0 x1), (2, .int x2), (3, cl_rf c0 (z.1))] → W p l e ({ frames := 1, cells := σ0.2.2.2.2.2.1, slots := σ0.2.2.2.2.2.2, locals := 22 }) s m args below meth c H locs cells slots (MQ below (cl_Q true D c0 none cl_no σ0 σ') args s (σ0.2.2.2.2.2.1 - σ'.2.2.2.2.2.1) (σ0.2.2.2.2.2.2 - σ'.2.2.2.2.2.2) (cl_A c0 σ0.2.2.2.1 s.heap.size)) (F0 m 104 ls [])) y := by
    clear hy G ha f1 f3 hl
    intro T H locs ls cells slots G ha f1 f3 hl
    obtain ⟨x3, σ⟩ := y
    dsimp only at h G ha f1 f3 hl
    unfold ec_X10_putTogether_10 at h
    exact cl_vret ⟨rfl, rfl⟩ rfl C G h dX10_putTogether_104
  refine lp_recE (fun z : ((Option Nat) × cl_S) => ∀ (T : Nat → Nat × Nat) (H : Heap) (locs : List Loc) (ls : Array Slot) (cells slots : Nat), cl_G true D c0 ({ frames := 1, cells := σ0.2.2.2.2.2.1, slots := σ0.2.2.2.2.2.2, locals := 22 }) s σ0.2.2.2.1 T z.2 H locs cells slots → (T a).1 = 26 → cl_RT T x1 25 → cl_RT T (z.1) 25 → lv_has ls 4 [(0, .ref (c0 + a)), (1, cl_rf c0 x1), (2, .int x2), (3, cl_rf c0 (z.1))] → W p l e ({ frames := 1, cells := σ0.2.2.2.2.2.1, slots := σ0.2.2.2.2.2.2, locals := 22 }) s m args below meth c H locs cells slots (MQ below (cl_Q true D c0 none cl_no σ0 σ') args s (σ0.2.2.2.2.2.1 - σ'.2.2.2.2.2.1) (σ0.2.2.2.2.2.2 - σ'.2.2.2.2.2.2) (cl_A c0 σ0.2.2.2.1 s.heap.size)) (F0 m 10 ls [])) (fun z : ((Option Nat) × cl_S) => ∀ (T : Nat → Nat × Nat) (H : Heap) (locs : List Loc) (ls : Array Slot) (cells slots : Nat), cl_G true D c0 ({ frames := 1, cells := σ0.2.2.2.2.2.1, slots := σ0.2.2.2.2.2.2, locals := 22 }) s σ0.2.2.2.1 T z.2 H locs cells slots → (T a).1 = 26 → cl_RT T x1 25 → cl_RT T (z.1) 25 → lv_has ls 4 [(0, .ref (c0 + a)), (1, cl_rf c0 x1), (2, .int x2), (3, cl_rf c0 (z.1))] → W p l e ({ frames := 1, cells := σ0.2.2.2.2.2.1, slots := σ0.2.2.2.2.2.2, locals := 22 }) s m args below meth c H locs cells slots (MQ below (cl_Q true D c0 none cl_no σ0 σ') args s (σ0.2.2.2.2.2.1 - σ'.2.2.2.2.2.1) (σ0.2.2.2.2.2.2 - σ'.2.2.2.2.2.2) (cl_A c0 σ0.2.2.2.1 s.heap.size)) (F0 m 104 ls [])) ?_ _ _ hy hE _ _ _ _ _ _ G ha f1 f3 hl
  clear hE hy G ha f1 f3 hl h
  intro z o h hP T H locs ls cells slots G ha f1 f3 hl
  obtain ⟨x3, σ⟩ := z
  dsimp only at h G ha f1 f3 hl
  unfold lc_X10_putTogether_10 at h
  refine cl_aload_n C.1 C.2.1 dX10_putTogether_10 rfl (lv_at hl 3 rfl) ?_
  refine cl_ifnull (r := x3) (tgt := 104) C.1 C.2.1 dX10_putTogether_11 (by decide) (fun hc => ?_) (fun hc => ?_)
  · rw [if_pos hc] at h
    cases h
    exact hP _ _ _ _ _ _ G ha f1 f3 (lv_sub hl [0, 1, 2, 3] rfl)
  · rw [if_neg hc] at h
    refine lv_aload_n C.1 C.2.1 dX10_putTogether_14 rfl (lv_at hl 0 rfl) ?_
    refine cl_aload_n C.1 C.2.1 dX10_putTogether_15 rfl (lv_at hl 3 rfl) ?_
    obtain ⟨a_12, rfl, h_14⟩ := nn_some h
    have t_13 := f3 _ rfl
    refine cg_10_24 C G t_13 dX10_putTogether_16 (fun t_15 => ?_)
    refine vt_r (K := 25) t_15 h_14 (fun r_16 t_17 h_18 => ?_)
    refine lv_iload_n C.1 C.2.1 dX10_putTogether_19 rfl (lv_at hl 2 rfl) ?_
    obtain ⟨r_20, σ_19, hq, h_21⟩ := bd2_some h_18
    refine cl_callV (ci := 10) (rest := []) C G rfl ha cw_RX10_156 [cl_rf c0 r_16, .int x2] _ (kc_X10_isHad l D c0 (by rw [G.1]; exact ha) hq (by rw [G.1]; exact t_17)) (Nat.le_of_ble_eq_true rfl) (Nat.le_of_ble_eq_true rfl) rfl rfl hl.1 (Nat.le_of_ble_eq_true rfl) dX10_putTogether_20 (fun T_22 H locs cells slots t_23 hu G_24 => ?_)
    have ha := hu.kind ha (by decide)
    have f1 := f1.up hu (by decide)
    have t_13 := hu.kind t_13 (by decide)
    refine W.eq (g2 := F0 m 23 ls [.int r_20]) rfl ?_
    refine lv_if_eq (tgt := 58) C.1 C.2.1 dX10_putTogether_23 (by decide) (fun hc => ?_) (fun hc => ?_)
    · rw [if_pos hc] at h_21
      exact wc_X10_putTogether_58i10 C h_21 hP G_24 ha f1 (cl_RTs t_13) (lv_sub hl [0, 1, 2, 3] rfl)
    · rw [if_neg hc] at h_21
      refine lv_aload_n C.1 C.2.1 dX10_putTogether_26 rfl (lv_at hl 0 rfl) ?_
      refine lv_aload_n C.1 C.2.1 dX10_putTogether_27 rfl (lv_at hl 3 rfl) ?_
      refine cg_10_27 C G_24 t_13 dX10_putTogether_28 (fun t_57 => ?_)
      refine vt_r (K := 25) t_57 h_21 (fun r_58 t_59 h_60 => ?_)
      refine lv_iload_n C.1 C.2.1 dX10_putTogether_31 rfl (lv_at hl 2 rfl) ?_
      obtain ⟨r_62, σ_61, hq, h_63⟩ := bd2_some h_60
      refine cl_callV (ci := 10) (rest := []) C G_24 rfl ha cw_RX10_156 [cl_rf c0 r_58, .int x2] _ (kc_X10_isHad l D c0 (by rw [G_24.1]; exact ha) hq (by rw [G_24.1]; exact t_59)) (Nat.le_of_ble_eq_true rfl) (Nat.le_of_ble_eq_true rfl) rfl rfl hl.1 (Nat.le_of_ble_eq_true rfl) dX10_putTogether_32 (fun T_64 H locs cells slots t_65 hu G_66 => ?_)
      have ha := hu.kind ha (by decide)
      have f1 := f1.up hu (by decide)
      have t_13 := hu.kind t_13 (by decide)
      refine W.eq (g2 := F0 m 35 ls [.int r_62]) rfl ?_
      refine lv_if_eq (tgt := 58) C.1 C.2.1 dX10_putTogether_35 (by decide) (fun hc => ?_) (fun hc => ?_)
      · rw [if_pos hc] at h_63
        exact wc_X10_putTogether_58i10 C h_63 hP G_66 ha f1 (cl_RTs t_13) (lv_sub hl [0, 1, 2, 3] rfl)
      · rw [if_neg hc] at h_63
        refine lv_aload_n C.1 C.2.1 dX10_putTogether_38 rfl (lv_at hl 0 rfl) ?_
        refine lv_aload_n C.1 C.2.1 dX10_putTogether_39 rfl (lv_at hl 3 rfl) ?_
        refine cg_10_30 C G_66 t_13 dX10_putTogether_40 (fun t_67 => ?_)
        refine vt_r (K := 25) t_67 h_63 (fun r_68 t_69 h_70 => ?_)
        refine lv_iload_n C.1 C.2.1 dX10_putTogether_43 rfl (lv_at hl 2 rfl) ?_
        obtain ⟨r_72, σ_71, hq, h_73⟩ := bd2_some h_70
        refine cl_callV (ci := 10) (rest := []) C G_66 rfl ha cw_RX10_156 [cl_rf c0 r_68, .int x2] _ (kc_X10_isHad l D c0 (by rw [G_66.1]; exact ha) hq (by rw [G_66.1]; exact t_69)) (Nat.le_of_ble_eq_true rfl) (Nat.le_of_ble_eq_true rfl) rfl rfl hl.1 (Nat.le_of_ble_eq_true rfl) dX10_putTogether_44 (fun T_74 H locs cells slots t_75 hu G_76 => ?_)
        have ha := hu.kind ha (by decide)
        have f1 := f1.up hu (by decide)
        have t_13 := hu.kind t_13 (by decide)
        refine W.eq (g2 := F0 m 47 ls [.int r_72]) rfl ?_
        refine lv_if_eq (tgt := 58) C.1 C.2.1 dX10_putTogether_47 (by decide) (fun hc => ?_) (fun hc => ?_)
        · rw [if_pos hc] at h_73
          exact wc_X10_putTogether_58i10 C h_73 hP G_76 ha f1 (cl_RTs t_13) (lv_sub hl [0, 1, 2, 3] rfl)
        · rw [if_neg hc] at h_73
          refine lv_aload_n C.1 C.2.1 dX10_putTogether_50 rfl (lv_at hl 0 rfl) ?_
          refine lv_aload_n C.1 C.2.1 dX10_putTogether_51 rfl (lv_at hl 3 rfl) ?_
          refine lv_iload_n C.1 C.2.1 dX10_putTogether_52 rfl (lv_at hl 2 rfl) ?_
          refine lv_iconst (v := (1:Int32)) C.1 C.2.1 dX10_putTogether_53 (by decide) ?_
          refine lv_iadd C.1 C.2.1 dX10_putTogether_54 ?_
          obtain ⟨σ_77, hq, h_78⟩ := bd1_some h_73
          refine cl_callV (ci := 10) (rest := []) C G_76 rfl ha cw_RX10_146 [.ref (c0 + a_12), .int (x2 + (1:Int32))] _ (kc_X10_learn l D c0 (by rw [G_76.1]; exact ha) hq (by rw [G_76.1]; exact (cl_RTs t_13))) (Nat.le_of_ble_eq_true rfl) (Nat.le_of_ble_eq_true rfl) rfl rfl hl.1 (Nat.le_of_ble_eq_true rfl) dX10_putTogether_55 (fun T_79 H locs cells slots t_80 hu G_81 => ?_)
          have ha := hu.kind ha (by decide)
          have f1 := f1.up hu (by decide)
          have t_13 := hu.kind t_13 (by decide)
          refine W.eq (g2 := F0 m 58 ls []) rfl ?_
          exact wc_X10_putTogether_58i10 C h_78 hP G_81 ha f1 (cl_RTs t_13) (lv_sub hl [0, 1, 2, 3] rfl)
noncomputable def bc_X10_putTogether_0 (a : Nat) (x1 : (Option Nat)) (σ : cl_S) : Option (cl_S) := nn x1 (fun a_1 => vl (σ.1 a_1 10) (fun x2_4 => vl (σ.2.2.1 a_1 12) (fun r_8 => bc_X10_putTogether_10 a (some a_1) x2_4 r_8 σ)))
set_option maxHeartbeats 4000000 in
theorem wc_X10_putTogether_0 (C : cl_C D p s m args meth c cX10_putTogether 4 none RX10) {a : Nat} {x1 : (Option Nat)} {σ0 σ σ' : cl_S} {T : Nat → Nat × Nat} {H : Heap} {locs : List Loc} {ls : Array Slot} {cells slots : Nat} (h : bc_X10_putTogether_0 a x1 σ = some σ') (G : cl_G true D c0 ({ frames := 1, cells := σ0.2.2.2.2.2.1, slots := σ0.2.2.2.2.2.2, locals := 22 }) s σ0.2.2.2.1 T σ H locs cells slots) (ha : (T a).1 = 26) (f1 : cl_RT T x1 25) (hl : lv_has ls 4 [(0, .ref (c0 + a)), (1, cl_rf c0 x1)]) : W p l e ({ frames := 1, cells := σ0.2.2.2.2.2.1, slots := σ0.2.2.2.2.2.2, locals := 22 }) s m args below meth c H locs cells slots (MQ below (cl_Q true D c0 none cl_no σ0 σ') args s (σ0.2.2.2.2.2.1 - σ'.2.2.2.2.2.1) (σ0.2.2.2.2.2.2 - σ'.2.2.2.2.2.2) (cl_A c0 σ0.2.2.2.1 s.heap.size)) (F0 m 0 ls []) := by
  unfold bc_X10_putTogether_0 at h
  refine cl_aload_n C.1 C.2.1 dX10_putTogether_0 rfl (lv_at hl 1 rfl) ?_
  obtain ⟨a_1, rfl, h_3⟩ := nn_some h
  have t_2 := f1 _ rfl
  refine cg_10_131 C G t_2 dX10_putTogether_1 ?_
  refine vt_i h_3 (fun x2_4 h_5 => ?_)
  refine lv_istore_n (lv' := [(2, .int x2_4), (0, .ref (c0 + a)), (1, .ref (c0 + a_1))]) C.1 C.2.1 dX10_putTogether_4 rfl hl (by decide) rfl (fun ls hl_6 => ?_)
  refine lv_aload_n C.1 C.2.1 dX10_putTogether_5 rfl (lv_at hl_6 2 rfl) ?_
  refine cg_10_89 C G t_2 dX10_putTogether_6 (fun t_7 => ?_)
  refine vt_r (K := 25) t_7 h_5 (fun r_8 t_9 h_10 => ?_)
  refine cl_astore_n (lv' := [(3, cl_rf c0 r_8), (2, .int x2_4), (0, .ref (c0 + a)), (1, .ref (c0 + a_1))]) C.1 C.2.1 dX10_putTogether_9 rfl hl_6 (by decide) rfl (fun ls hl_11 => ?_)
  exact wc_X10_putTogether_10 C h_10 G ha (cl_RTs t_2) t_9 (lv_sub hl_11 [2, 3, 1, 0] rfl)
noncomputable def fc_X10_putTogether (a : Nat) (x1 : (Option Nat)) (σ : cl_S) : Option (cl_S) := bc_X10_putTogether_0 a x1 σ
theorem kc_X10_putTogether (l : Launch) (D : cl_D) (c0 : Nat) {a : Nat} {x1 : (Option Nat)} {σ σ' : cl_S} (ha : (σ.2.2.2.1 a).1 = 26) (h : fc_X10_putTogether a x1 σ = some σ') (f1 : cl_RT σ.2.2.2.1 x1 25) : cl_Met true l D c0 yX10_putTogether cX10_putTogether 4 none 1 22 [.ref (c0 + a), cl_rf c0 x1] σ none cl_no σ' :=
  by cases x1 <;> exact cl_of (by decide) (Nat.le_of_ble_eq_true rfl) (fun p e s m args below meth c ls C hn G hl => wc_X10_putTogether_0 C h G ha f1 hl)
abbrev cX10_judge : ByteArray := prog_12_method_15_code
def yX10_judge : MethodName := ⟨RX10, "judge", "()V"⟩
theorem dX10_judge_0 : decode cX10_judge 0 = .ok (.aload_n 0, 1) := by decide +kernel
theorem dX10_judge_1 : decode cX10_judge 1 = .ok (.aconst_null, 1) := by decide +kernel
theorem dX10_judge_2 : decode cX10_judge 2 = .ok (.putfield 134, 3) := by decide +kernel
theorem dX10_judge_5 : decode cX10_judge 5 = .ok (.aload_n 0, 1) := by decide +kernel
theorem dX10_judge_6 : decode cX10_judge 6 = .ok (.aconst_null, 1) := by decide +kernel
theorem dX10_judge_7 : decode cX10_judge 7 = .ok (.putfield 137, 3) := by decide +kernel
theorem dX10_judge_10 : decode cX10_judge 10 = .ok (.aload_n 0, 1) := by decide +kernel
theorem dX10_judge_11 : decode cX10_judge 11 = .ok (.getfield 79, 3) := by decide +kernel
theorem dX10_judge_14 : decode cX10_judge 14 = .ok (.astore_n 1, 1) := by decide +kernel
theorem dX10_judge_15 : decode cX10_judge 15 = .ok (.aload_n 1, 1) := by decide +kernel
theorem dX10_judge_16 : decode cX10_judge 16 = .ok (.ifnull 21, 3) := by decide +kernel
theorem dX10_judge_19 : decode cX10_judge 19 = .ok (.aload_n 1, 1) := by decide +kernel
theorem dX10_judge_20 : decode cX10_judge 20 = .ok (.iconst (-1), 1) := by decide +kernel
theorem dX10_judge_21 : decode cX10_judge 21 = .ok (.putfield 131, 3) := by decide +kernel
theorem dX10_judge_24 : decode cX10_judge 24 = .ok (.aload_n 1, 1) := by decide +kernel
theorem dX10_judge_25 : decode cX10_judge 25 = .ok (.aconst_null, 1) := by decide +kernel
theorem dX10_judge_26 : decode cX10_judge 26 = .ok (.putfield 140, 3) := by decide +kernel
theorem dX10_judge_29 : decode cX10_judge 29 = .ok (.aload_n 1, 1) := by decide +kernel
theorem dX10_judge_30 : decode cX10_judge 30 = .ok (.getfield 143, 3) := by decide +kernel
theorem dX10_judge_33 : decode cX10_judge 33 = .ok (.astore_n 1, 1) := by decide +kernel
theorem dX10_judge_34 : decode cX10_judge 34 = .ok (.goto (-19), 3) := by decide +kernel
theorem dX10_judge_37 : decode cX10_judge 37 = .ok (.aload_n 0, 1) := by decide +kernel
theorem dX10_judge_38 : decode cX10_judge 38 = .ok (.getfield 79, 3) := by decide +kernel
theorem dX10_judge_41 : decode cX10_judge 41 = .ok (.astore_n 1, 1) := by decide +kernel
theorem dX10_judge_42 : decode cX10_judge 42 = .ok (.aload_n 1, 1) := by decide +kernel
theorem dX10_judge_43 : decode cX10_judge 43 = .ok (.ifnull 39, 3) := by decide +kernel
theorem dX10_judge_46 : decode cX10_judge 46 = .ok (.aload_n 1, 1) := by decide +kernel
theorem dX10_judge_47 : decode cX10_judge 47 = .ok (.getfield 125, 3) := by decide +kernel
theorem dX10_judge_50 : decode cX10_judge 50 = .ok (.ifCond .ne 18, 3) := by decide +kernel
theorem dX10_judge_53 : decode cX10_judge 53 = .ok (.aload_n 1, 1) := by decide +kernel
theorem dX10_judge_54 : decode cX10_judge 54 = .ok (.getfield 67, 3) := by decide +kernel
theorem dX10_judge_57 : decode cX10_judge 57 = .ok (.ifCond .eq 11, 3) := by decide +kernel
theorem dX10_judge_60 : decode cX10_judge 60 = .ok (.aload_n 1, 1) := by decide +kernel
theorem dX10_judge_61 : decode cX10_judge 61 = .ok (.getfield 67, 3) := by decide +kernel
theorem dX10_judge_64 : decode cX10_judge 64 = .ok (.iconst 1, 1) := by decide +kernel
theorem dX10_judge_65 : decode cX10_judge 65 = .ok (.if_icmp .ne 9, 3) := by decide +kernel
theorem dX10_judge_68 : decode cX10_judge 68 = .ok (.aload_n 0, 1) := by decide +kernel
theorem dX10_judge_69 : decode cX10_judge 69 = .ok (.aload_n 1, 1) := by decide +kernel
theorem dX10_judge_70 : decode cX10_judge 70 = .ok (.iconst 0, 1) := by decide +kernel
theorem dX10_judge_71 : decode cX10_judge 71 = .ok (.invokevirtual 146, 3) := by decide +kernel
theorem dX10_judge_74 : decode cX10_judge 74 = .ok (.aload_n 1, 1) := by decide +kernel
theorem dX10_judge_75 : decode cX10_judge 75 = .ok (.getfield 143, 3) := by decide +kernel
theorem dX10_judge_78 : decode cX10_judge 78 = .ok (.astore_n 1, 1) := by decide +kernel
theorem dX10_judge_79 : decode cX10_judge 79 = .ok (.goto (-37), 3) := by decide +kernel
theorem dX10_judge_82 : decode cX10_judge 82 = .ok (.aload_n 0, 1) := by decide +kernel
theorem dX10_judge_83 : decode cX10_judge 83 = .ok (.getfield 134, 3) := by decide +kernel
theorem dX10_judge_86 : decode cX10_judge 86 = .ok (.astore_n 1, 1) := by decide +kernel
theorem dX10_judge_87 : decode cX10_judge 87 = .ok (.iconst 0, 1) := by decide +kernel
theorem dX10_judge_88 : decode cX10_judge 88 = .ok (.istore_n 2, 1) := by decide +kernel
theorem dX10_judge_89 : decode cX10_judge 89 = .ok (.iload_n 2, 1) := by decide +kernel
theorem dX10_judge_90 : decode cX10_judge 90 = .ok (.aload_n 0, 1) := by decide +kernel
theorem dX10_judge_91 : decode cX10_judge 91 = .ok (.getfield 76, 3) := by decide +kernel
theorem dX10_judge_94 : decode cX10_judge 94 = .ok (.if_icmp .ge 28, 3) := by decide +kernel
theorem dX10_judge_97 : decode cX10_judge 97 = .ok (.aload_n 1, 1) := by decide +kernel
theorem dX10_judge_98 : decode cX10_judge 98 = .ok (.ifnull 24, 3) := by decide +kernel
theorem dX10_judge_101 : decode cX10_judge 101 = .ok (.aload_n 0, 1) := by decide +kernel
theorem dX10_judge_102 : decode cX10_judge 102 = .ok (.aload_n 1, 1) := by decide +kernel
theorem dX10_judge_103 : decode cX10_judge 103 = .ok (.invokevirtual 150, 3) := by decide +kernel
theorem dX10_judge_106 : decode cX10_judge 106 = .ok (.aload_n 0, 1) := by decide +kernel
theorem dX10_judge_107 : decode cX10_judge 107 = .ok (.aload_n 1, 1) := by decide +kernel
theorem dX10_judge_108 : decode cX10_judge 108 = .ok (.invokevirtual 153, 3) := by decide +kernel
theorem dX10_judge_111 : decode cX10_judge 111 = .ok (.aload_n 1, 1) := by decide +kernel
theorem dX10_judge_112 : decode cX10_judge 112 = .ok (.getfield 140, 3) := by decide +kernel
theorem dX10_judge_115 : decode cX10_judge 115 = .ok (.astore_n 1, 1) := by decide +kernel
theorem dX10_judge_116 : decode cX10_judge 116 = .ok (.iinc 2 1, 3) := by decide +kernel
theorem dX10_judge_119 : decode cX10_judge 119 = .ok (.goto (-30), 3) := by decide +kernel
theorem dX10_judge_122 : decode cX10_judge 122 = .ok (.return_, 1) := by decide +kernel
theorem cc_X10_judge : Cond.code yX10_judge cX10_judge 3 none ∈ rf_tb := rf_at 1434 (by decide +kernel) (by decide +kernel)
theorem cw_RX10_150 : cl_wV RX10 RX10 yX10_takeApart cX10_takeApart 3 none 150 1 := ⟨⟨rf_at 1439 (by decide +kernel) (by decide +kernel), rf_at 1441 (by decide +kernel) (by decide +kernel), rf_sel (q := (yX10_takeApart, 11)) 72 (by decide +kernel) (by decide +kernel), cc_X10_takeApart, rf_at 9 (by decide +kernel) (by decide +kernel)⟩, ⟨by decide, by decide, by decide +kernel⟩⟩
theorem cw_RX10_153 : cl_wV RX10 RX10 yX10_putTogether cX10_putTogether 4 none 153 1 := ⟨⟨rf_at 1447 (by decide +kernel) (by decide +kernel), rf_at 1449 (by decide +kernel) (by decide +kernel), rf_sel (q := (yX10_putTogether, 11)) 74 (by decide +kernel) (by decide +kernel), cc_X10_putTogether, rf_at 9 (by decide +kernel) (by decide +kernel)⟩, ⟨by decide, by decide, by decide +kernel⟩⟩
noncomputable def lc_X10_judge_15 (a : Nat) (x1 : (Option Nat)) (σ : cl_S) : Option (((Option Nat) × cl_S) ⊕ ((Option Nat) × cl_S)) := (if x1 = none then some (.inr (x1, σ)) else nn x1 (fun a_14 => vl (cl_w σ a_14 10 (-1:Int32)) (fun σ_17 => vl (cl_wr σ_17 a_14 11 none) (fun σ_21 => vl (σ_21.2.2.1 a_14 8) (fun r_26 => some (.inl (r_26, σ_21)))))))
noncomputable def bc_X10_judge_74i42 (a : Nat) (x1 : (Option Nat)) (σ : cl_S) : Option (((Option Nat) × cl_S) ⊕ ((Option Nat) × cl_S)) := nn x1 (fun a_43 => vl (σ.2.2.1 a_43 8) (fun r_47 => some (.inl (r_47, σ))))
set_option maxHeartbeats 4000000 in
theorem wc_X10_judge_74i42 (C : cl_C D p s m args meth c cX10_judge 3 none RX10) {a : Nat} {x1 : (Option Nat)} {σ0 σ σ' : cl_S} {T : Nat → Nat × Nat} {H : Heap} {locs : List Loc} {ls : Array Slot} {cells slots : Nat} {o : ((Option Nat) × cl_S) ⊕ ((Option Nat) × cl_S)} (h : bc_X10_judge_74i42 a x1 σ = some o) (hP : Sum.elim (fun z : ((Option Nat) × cl_S) => ∀ (T : Nat → Nat × Nat) (H : Heap) (locs : List Loc) (ls : Array Slot) (cells slots : Nat), cl_G true D c0 ({ frames := 2, cells := σ0.2.2.2.2.2.1, slots := σ0.2.2.2.2.2.2, locals := 45 }) s σ0.2.2.2.1 T z.2 H locs cells slots → (T a).1 = 26 → cl_RT T (z.1) 25 → lv_has ls 3 [(0, .ref (c0 + a)), (1, cl_rf c0 (z.1))] → W p l e ({ frames := 2, cells := σ0.2.2.2.2.2.1, slots := σ0.2.2.2.2.2.2, locals := 45 }) s m args below meth c H locs cells slots (MQ below (cl_Q true D c0 none cl_no σ0 σ') args s (σ0.2.2.2.2.2.1 - σ'.2.2.2.2.2.1) (σ0.2.2.2.2.2.2 - σ'.2.2.2.2.2.2) (cl_A c0 σ0.2.2.2.1 s.heap.size)) (F0 m 42 ls [])) (fun z : ((Option Nat) × cl_S) => ∀ (T : Nat → Nat × Nat) (H : Heap) (locs : List Loc) (ls : Array Slot) (cells slots : Nat), cl_G true D c0 ({ frames := 2, cells := σ0.2.2.2.2.2.1, slots := σ0.2.2.2.2.2.2, locals := 45 }) s σ0.2.2.2.1 T z.2 H locs cells slots → (T a).1 = 26 → cl_RT T (z.1) 25 → lv_has ls 3 [(0, .ref (c0 + a)), (1, cl_rf c0 (z.1))] → W p l e ({ frames := 2, cells := σ0.2.2.2.2.2.1, slots := σ0.2.2.2.2.2.2, locals := 45 }) s m args below meth c H locs cells slots (MQ below (cl_Q true D c0 none cl_no σ0 σ') args s (σ0.2.2.2.2.2.1 - σ'.2.2.2.2.2.1) (σ0.2.2.2.2.2.2 - σ'.2.2.2.2.2.2) (cl_A c0 σ0.2.2.2.1 s.heap.size)) (F0 m 82 ls [])) o) (G : cl_G true D c0 ({ frames := 2, cells := σ0.2.2.2.2.2.1, slots := σ0.2.2.2.2.2.2, locals := 45 }) s σ0.2.2.2.1 T σ H locs cells slots) (ha : (T a).1 = 26) (f1 : cl_RT T x1 25) (hl : lv_has ls 3 [(0, .ref (c0 + a)), (1, cl_rf c0 x1)]) : W p l e ({ frames := 2, cells := σ0.2.2.2.2.2.1, slots := σ0.2.2.2.2.2.2, locals := 45 }) s m args below meth c H locs cells slots (MQ below (cl_Q true D c0 none cl_no σ0 σ') args s (σ0.2.2.2.2.2.1 - σ'.2.2.2.2.2.1) (σ0.2.2.2.2.2.2 - σ'.2.2.2.2.2.2) (cl_A c0 σ0.2.2.2.1 s.heap.size)) (F0 m 74 ls []) := by
  unfold bc_X10_judge_74i42 at h
  refine cl_aload_n C.1 C.2.1 dX10_judge_74 rfl (lv_at hl 1 rfl) ?_
  obtain ⟨a_43, rfl, h_45⟩ := nn_some h
  have t_44 := f1 _ rfl
  refine cg_10_143 C G t_44 dX10_judge_75 (fun t_46 => ?_)
  refine vt_r (K := 25) t_46 h_45 (fun r_47 t_48 h_49 => ?_)
  refine cl_astore_n (lv' := [(1, cl_rf c0 r_47), (0, .ref (c0 + a))]) C.1 C.2.1 dX10_judge_78 rfl hl (by decide) rfl (fun ls hl_50 => ?_)
  refine lv_goto (tgt := 42) C.1 C.2.1 dX10_judge_79 (by decide) ?_
  cases h_49
  exact hP _ _ _ _ _ _ G ha t_48 (lv_sub hl_50 [1, 0] rfl)
noncomputable def bc_X10_judge_68i42 (a : Nat) (x1 : (Option Nat)) (σ : cl_S) : Option (((Option Nat) × cl_S) ⊕ ((Option Nat) × cl_S)) := bd1 (fc_X10_learn a x1 (0:Int32) σ) (fun σ_38 => bc_X10_judge_74i42 a x1 σ_38)
set_option maxHeartbeats 4000000 in
theorem wc_X10_judge_68i42 (C : cl_C D p s m args meth c cX10_judge 3 none RX10) {a : Nat} {x1 : (Option Nat)} {σ0 σ σ' : cl_S} {T : Nat → Nat × Nat} {H : Heap} {locs : List Loc} {ls : Array Slot} {cells slots : Nat} {o : ((Option Nat) × cl_S) ⊕ ((Option Nat) × cl_S)} (h : bc_X10_judge_68i42 a x1 σ = some o) (hP : Sum.elim (fun z : ((Option Nat) × cl_S) => ∀ (T : Nat → Nat × Nat) (H : Heap) (locs : List Loc) (ls : Array Slot) (cells slots : Nat), cl_G true D c0 ({ frames := 2, cells := σ0.2.2.2.2.2.1, slots := σ0.2.2.2.2.2.2, locals := 45 }) s σ0.2.2.2.1 T z.2 H locs cells slots → (T a).1 = 26 → cl_RT T (z.1) 25 → lv_has ls 3 [(0, .ref (c0 + a)), (1, cl_rf c0 (z.1))] → W p l e ({ frames := 2, cells := σ0.2.2.2.2.2.1, slots := σ0.2.2.2.2.2.2, locals := 45 }) s m args below meth c H locs cells slots (MQ below (cl_Q true D c0 none cl_no σ0 σ') args s (σ0.2.2.2.2.2.1 - σ'.2.2.2.2.2.1) (σ0.2.2.2.2.2.2 - σ'.2.2.2.2.2.2) (cl_A c0 σ0.2.2.2.1 s.heap.size)) (F0 m 42 ls [])) (fun z : ((Option Nat) × cl_S) => ∀ (T : Nat → Nat × Nat) (H : Heap) (locs : List Loc) (ls : Array Slot) (cells slots : Nat), cl_G true D c0 ({ frames := 2, cells := σ0.2.2.2.2.2.1, slots := σ0.2.2.2.2.2.2, locals := 45 }) s σ0.2.2.2.1 T z.2 H locs cells slots → (T a).1 = 26 → cl_RT T (z.1) 25 → lv_has ls 3 [(0, .ref (c0 + a)), (1, cl_rf c0 (z.1))] → W p l e ({ frames := 2, cells := σ0.2.2.2.2.2.1, slots := σ0.2.2.2.2.2.2, locals := 45 }) s m args below meth c H locs cells slots (MQ below (cl_Q true D c0 none cl_no σ0 σ') args s (σ0.2.2.2.2.2.1 - σ'.2.2.2.2.2.1) (σ0.2.2.2.2.2.2 - σ'.2.2.2.2.2.2) (cl_A c0 σ0.2.2.2.1 s.heap.size)) (F0 m 82 ls [])) o) (G : cl_G true D c0 ({ frames := 2, cells := σ0.2.2.2.2.2.1, slots := σ0.2.2.2.2.2.2, locals := 45 }) s σ0.2.2.2.1 T σ H locs cells slots) (ha : (T a).1 = 26) (f1 : cl_RT T x1 25) (hl : lv_has ls 3 [(0, .ref (c0 + a)), (1, cl_rf c0 x1)]) : W p l e ({ frames := 2, cells := σ0.2.2.2.2.2.1, slots := σ0.2.2.2.2.2.2, locals := 45 }) s m args below meth c H locs cells slots (MQ below (cl_Q true D c0 none cl_no σ0 σ') args s (σ0.2.2.2.2.2.1 - σ'.2.2.2.2.2.1) (σ0.2.2.2.2.2.2 - σ'.2.2.2.2.2.2) (cl_A c0 σ0.2.2.2.1 s.heap.size)) (F0 m 68 ls []) := by
  unfold bc_X10_judge_68i42 at h
  refine lv_aload_n C.1 C.2.1 dX10_judge_68 rfl (lv_at hl 0 rfl) ?_
  refine cl_aload_n C.1 C.2.1 dX10_judge_69 rfl (lv_at hl 1 rfl) ?_
  refine lv_iconst (v := (0:Int32)) C.1 C.2.1 dX10_judge_70 (by decide) ?_
  obtain ⟨σ_38, hq, h_39⟩ := bd1_some h
  refine cl_callV (ci := 10) (rest := []) C G rfl ha cw_RX10_146 [cl_rf c0 x1, .int (0:Int32)] _ (kc_X10_learn l D c0 (by rw [G.1]; exact ha) hq (by rw [G.1]; exact f1)) (Nat.le_of_ble_eq_true rfl) (Nat.le_of_ble_eq_true rfl) rfl rfl hl.1 (Nat.le_of_ble_eq_true rfl) dX10_judge_71 (fun T_40 H locs cells slots t_41 hu G_42 => ?_)
  have ha := hu.kind ha (by decide)
  have f1 := f1.up hu (by decide)
  refine W.eq (g2 := F0 m 74 ls []) rfl ?_
  exact wc_X10_judge_74i42 C h_39 hP G_42 ha f1 (lv_sub hl [0, 1] rfl)
noncomputable def lc_X10_judge_42 (a : Nat) (x1 : (Option Nat)) (σ : cl_S) : Option (((Option Nat) × cl_S) ⊕ ((Option Nat) × cl_S)) := (if x1 = none then some (.inr (x1, σ)) else nn x1 (fun a_35 => (if (σ.1 a_35 9) = 0 then (if (σ.1 a_35 0) = 0 then bc_X10_judge_68i42 a (some a_35) σ else (if (σ.1 a_35 0) = (1:Int32) then bc_X10_judge_68i42 a (some a_35) σ else bc_X10_judge_74i42 a (some a_35) σ)) else bc_X10_judge_68i42 a (some a_35) σ)))
noncomputable def lc_X10_judge_89 (a : Nat) (x1 : (Option Nat)) (x2 : Int32) (σ : cl_S) : Option (((Option Nat) × Int32 × cl_S) ⊕ ((Option Nat) × Int32 × cl_S)) := (if (σ.1 a 2) ≤ x2 then some (.inr (x1, x2, σ)) else (if x1 = none then some (.inr (x1, x2, σ)) else bd1 (fc_X10_takeApart a x1 σ) (fun σ_57 => bd1 (fc_X10_putTogether a x1 σ_57) (fun σ_62 => nn x1 (fun a_67 => vl (σ_62.2.2.1 a_67 11) (fun r_71 => vl (x2 + (1:Int32)) (fun x2_75 => some (.inl (r_71, x2_75, σ_62)))))))))
noncomputable def ec_X10_judge_89 (a : Nat) (x1 : (Option Nat)) (x2 : Int32) (σ : cl_S) : Option (cl_S) := some σ
noncomputable def bc_X10_judge_89 (a : Nat) (x1 : (Option Nat)) (x2 : Int32) (σ : cl_S) : Option (cl_S) := (lp (fun z : ((Option Nat) × Int32 × cl_S) => lc_X10_judge_89 a z.1 z.2.1 z.2.2) (x1, x2, σ)).bind (fun z => ec_X10_judge_89 a z.1 z.2.1 z.2.2)
set_option maxHeartbeats 4000000 in
theorem wc_X10_judge_89 (C : cl_C D p s m args meth c cX10_judge 3 none RX10) {a : Nat} {x1 : (Option Nat)} {x2 : Int32} {σ0 σ σ' : cl_S} {T : Nat → Nat × Nat} {H : Heap} {locs : List Loc} {ls : Array Slot} {cells slots : Nat} (h : bc_X10_judge_89 a x1 x2 σ = some σ') (G : cl_G true D c0 ({ frames := 2, cells := σ0.2.2.2.2.2.1, slots := σ0.2.2.2.2.2.2, locals := 45 }) s σ0.2.2.2.1 T σ H locs cells slots) (ha : (T a).1 = 26) (f1 : cl_RT T x1 25) (hl : lv_has ls 3 [(0, .ref (c0 + a)), (1, cl_rf c0 x1), (2, .int x2)]) : W p l e ({ frames := 2, cells := σ0.2.2.2.2.2.1, slots := σ0.2.2.2.2.2.2, locals := 45 }) s m args below meth c H locs cells slots (MQ below (cl_Q true D c0 none cl_no σ0 σ') args s (σ0.2.2.2.2.2.1 - σ'.2.2.2.2.2.1) (σ0.2.2.2.2.2.2 - σ'.2.2.2.2.2.2) (cl_A c0 σ0.2.2.2.1 s.heap.size)) (F0 m 89 ls []) := by
  unfold bc_X10_judge_89 at h
  obtain ⟨y, hy, h⟩ := bd_some h
  have hE : (fun z : ((Option Nat) × Int32 × cl_S) => ∀ (T : Nat → Nat × Nat) (H : Heap) (locs : List Loc) (ls : Array Slot) (cells slots : Nat), cl_G true D c0 ({ frames := 2, cells := σ0.2.2.2.2.2.1, slots := σ0.2.2.2.2.2.2, locals := 45 }) s σ0.2.2.2.1 T z.2.2 H locs cells slots → (T a).1 = 26 → cl_RT T (z.1) 25 → lv_has ls 3 [(0, .ref (c0 + a)), (1, cl_rf c0 (z.1)), (2, .int (z.2.1))] → W p l e ({ frames := 2, cells := σ0.2.2.2.2.2.1, slots := σ0.2.2.2.2.2.2, locals := 45 }) s m args below meth c H locs cells slots (MQ below (cl_Q true D c0 none cl_no σ0 σ') args s (σ0.2.2.2.2.2.1 - σ'.2.2.2.2.2.1) (σ0.2.2.2.2.2.2 - σ'.2.2.2.2.2.2) (cl_A c0 σ0.2.2.2.1 s.heap.size)) (F0 m 122 ls [])) y := by
    clear hy G ha f1 hl
    intro T H locs ls cells slots G ha f1 hl
    obtain ⟨x1, x2, σ⟩ := y
    dsimp only at h G ha f1 hl
    unfold ec_X10_judge_89 at h
    exact cl_vret ⟨rfl, rfl⟩ rfl C G h dX10_judge_122
  refine lp_recE (fun z : ((Option Nat) × Int32 × cl_S) => ∀ (T : Nat → Nat × Nat) (H : Heap) (locs : List Loc) (ls : Array Slot) (cells slots : Nat), cl_G true D c0 ({ frames := 2, cells := σ0.2.2.2.2.2.1, slots := σ0.2.2.2.2.2.2, locals := 45 }) s σ0.2.2.2.1 T z.2.2 H locs cells slots → (T a).1 = 26 → cl_RT T (z.1) 25 → lv_has ls 3 [(0, .ref (c0 + a)), (1, cl_rf c0 (z.1)), (2, .int (z.2.1))] → W p l e ({ frames := 2, cells := σ0.2.2.2.2.2.1, slots := σ0.2.2.2.2.2.2, locals := 45 }) s m args below meth c H locs cells slots (MQ below (cl_Q true D c0 none cl_no σ0 σ') args s (σ0.2.2.2.2.2.1 - σ'.2.2.2.2.2.1) (σ0.2.2.2.2.2.2 - σ'.2.2.2.2.2.2) (cl_A c0 σ0.2.2.2.1 s.heap.size)) (F0 m 89 ls [])) (fun z : ((Option Nat) × Int32 × cl_S) => ∀ (T : Nat → Nat × Nat) (H : Heap) (locs : List Loc) (ls : Array Slot) (cells slots : Nat), cl_G true D c0 ({ frames := 2, cells := σ0.2.2.2.2.2.1, slots := σ0.2.2.2.2.2.2, locals := 45 }) s σ0.2.2.2.1 T z.2.2 H locs cells slots → (T a).1 = 26 → cl_RT T (z.1) 25 → lv_has ls 3 [(0, .ref (c0 + a)), (1, cl_rf c0 (z.1)), (2, .int (z.2.1))] → W p l e ({ frames := 2, cells := σ0.2.2.2.2.2.1, slots := σ0.2.2.2.2.2.2, locals := 45 }) s m args below meth c H locs cells slots (MQ below (cl_Q true D c0 none cl_no σ0 σ') args s (σ0.2.2.2.2.2.1 - σ'.2.2.2.2.2.1) (σ0.2.2.2.2.2.2 - σ'.2.2.2.2.2.2) (cl_A c0 σ0.2.2.2.1 s.heap.size)) (F0 m 122 ls [])) ?_ _ _ hy hE _ _ _ _ _ _ G ha f1 hl
  clear hE hy G ha f1 hl h
  intro z o h hP T H locs ls cells slots G ha f1 hl
  obtain ⟨x1, x2, σ⟩ := z
  dsimp only at h G ha f1 hl
  unfold lc_X10_judge_89 at h
  refine lv_iload_n C.1 C.2.1 dX10_judge_89 rfl (lv_at hl 2 rfl) ?_
  refine lv_aload_n C.1 C.2.1 dX10_judge_90 rfl (lv_at hl 0 rfl) ?_
  refine cg_10_76 C G ha dX10_judge_91 ?_
  refine lv_icmp_ge (tgt := 122) C.1 C.2.1 dX10_judge_94 (by decide) (fun hc => ?_) (fun hc => ?_)
  · rw [if_pos hc] at h
    cases h
    exact hP _ _ _ _ _ _ G ha f1 (lv_sub hl [0, 1, 2] rfl)
  · rw [if_neg hc] at h
    refine cl_aload_n C.1 C.2.1 dX10_judge_97 rfl (lv_at hl 1 rfl) ?_
    refine cl_ifnull (r := x1) (tgt := 122) C.1 C.2.1 dX10_judge_98 (by decide) (fun hc => ?_) (fun hc => ?_)
    · rw [if_pos hc] at h
      cases h
      exact hP _ _ _ _ _ _ G ha f1 (lv_sub hl [0, 1, 2] rfl)
    · rw [if_neg hc] at h
      refine lv_aload_n C.1 C.2.1 dX10_judge_101 rfl (lv_at hl 0 rfl) ?_
      refine cl_aload_n C.1 C.2.1 dX10_judge_102 rfl (lv_at hl 1 rfl) ?_
      obtain ⟨σ_57, hq, h_58⟩ := bd1_some h
      refine cl_callV (ci := 10) (rest := []) C G rfl ha cw_RX10_150 [cl_rf c0 x1] _ (kc_X10_takeApart l D c0 (by rw [G.1]; exact ha) hq (by rw [G.1]; exact f1)) (Nat.le_of_ble_eq_true rfl) (Nat.le_of_ble_eq_true rfl) rfl rfl hl.1 (Nat.le_of_ble_eq_true rfl) dX10_judge_103 (fun T_59 H locs cells slots t_60 hu G_61 => ?_)
      have ha := hu.kind ha (by decide)
      have f1 := f1.up hu (by decide)
      refine W.eq (g2 := F0 m 106 ls []) rfl ?_
      refine lv_aload_n C.1 C.2.1 dX10_judge_106 rfl (lv_at hl 0 rfl) ?_
      refine cl_aload_n C.1 C.2.1 dX10_judge_107 rfl (lv_at hl 1 rfl) ?_
      obtain ⟨σ_62, hq, h_63⟩ := bd1_some h_58
      refine cl_callV (ci := 10) (rest := []) C G_61 rfl ha cw_RX10_153 [cl_rf c0 x1] _ (kc_X10_putTogether l D c0 (by rw [G_61.1]; exact ha) hq (by rw [G_61.1]; exact f1)) (Nat.le_of_ble_eq_true rfl) (Nat.le_of_ble_eq_true rfl) rfl rfl hl.1 (Nat.le_of_ble_eq_true rfl) dX10_judge_108 (fun T_64 H locs cells slots t_65 hu G_66 => ?_)
      have ha := hu.kind ha (by decide)
      have f1 := f1.up hu (by decide)
      refine W.eq (g2 := F0 m 111 ls []) rfl ?_
      refine cl_aload_n C.1 C.2.1 dX10_judge_111 rfl (lv_at hl 1 rfl) ?_
      obtain ⟨a_67, rfl, h_69⟩ := nn_some h_63
      have t_68 := f1 _ rfl
      refine cg_10_140 C G_66 t_68 dX10_judge_112 (fun t_70 => ?_)
      refine vt_r (K := 25) t_70 h_69 (fun r_71 t_72 h_73 => ?_)
      refine cl_astore_n (lv' := [(1, cl_rf c0 r_71), (0, .ref (c0 + a)), (2, .int x2)]) C.1 C.2.1 dX10_judge_115 rfl hl (by decide) rfl (fun ls hl_74 => ?_)
      refine vl_ex h_73 (fun x2_75 ey h_76 => ?_)
      refine lv_iinc (v := x2_75) (lv' := [(2, .int x2_75), (1, cl_rf c0 r_71), (0, .ref (c0 + a))]) C.1 C.2.1 dX10_judge_116 hl_74 (k := 2) rfl (by rw [ey]; rfl) (by decide) (by first | rfl | (cases r_71 <;> rfl)) (fun ls hl_77 => ?_)
      refine lv_goto (tgt := 89) C.1 C.2.1 dX10_judge_119 (by decide) ?_
      cases h_76
      exact hP _ _ _ _ _ _ G_66 ha t_72 (lv_sub hl_77 [2, 1, 0] rfl)
noncomputable def ec_X10_judge_42 (a : Nat) (x1 : (Option Nat)) (σ : cl_S) : Option (cl_S) := vl (σ.2.2.1 a 9) (fun r_52 => bc_X10_judge_89 a r_52 (0:Int32) σ)
noncomputable def bc_X10_judge_42 (a : Nat) (x1 : (Option Nat)) (σ : cl_S) : Option (cl_S) := (lp (fun z : ((Option Nat) × cl_S) => lc_X10_judge_42 a z.1 z.2) (x1, σ)).bind (fun z => ec_X10_judge_42 a z.1 z.2)
set_option maxHeartbeats 4000000 in
theorem wc_X10_judge_42 (C : cl_C D p s m args meth c cX10_judge 3 none RX10) {a : Nat} {x1 : (Option Nat)} {σ0 σ σ' : cl_S} {T : Nat → Nat × Nat} {H : Heap} {locs : List Loc} {ls : Array Slot} {cells slots : Nat} (h : bc_X10_judge_42 a x1 σ = some σ') (G : cl_G true D c0 ({ frames := 2, cells := σ0.2.2.2.2.2.1, slots := σ0.2.2.2.2.2.2, locals := 45 }) s σ0.2.2.2.1 T σ H locs cells slots) (ha : (T a).1 = 26) (f1 : cl_RT T x1 25) (hl : lv_has ls 3 [(0, .ref (c0 + a)), (1, cl_rf c0 x1)]) : W p l e ({ frames := 2, cells := σ0.2.2.2.2.2.1, slots := σ0.2.2.2.2.2.2, locals := 45 }) s m args below meth c H locs cells slots (MQ below (cl_Q true D c0 none cl_no σ0 σ') args s (σ0.2.2.2.2.2.1 - σ'.2.2.2.2.2.1) (σ0.2.2.2.2.2.2 - σ'.2.2.2.2.2.2) (cl_A c0 σ0.2.2.2.1 s.heap.size)) (F0 m 42 ls []) := by
  unfold bc_X10_judge_42 at h
  obtain ⟨y, hy, h⟩ := bd_some h
  have hE : (fun z : ((Option Nat) × cl_S) => ∀ (T : Nat → Nat × Nat) (H : Heap) (locs : List Loc) (ls : Array Slot) (cells slots : Nat), cl_G true D c0 ({ frames := 2, cells := σ0.2.2.2.2.2.1, slots := σ0.2.2.2.2.2.2, locals := 45 }) s σ0.2.2.2.1 T z.2 H locs cells slots → (T a).1 = 26 → cl_RT T (z.1) 25 → lv_has ls 3 [(0, .ref (c0 + a)), (1, cl_rf c0 (z.1))] → W p l e ({ frames := 2, cells := σ0.2.2.2.2.2.1, slots := σ0.2.2.2.2.2.2, locals := 45 }) s m args below meth c H locs cells slots (MQ below (cl_Q true D c0 none cl_no σ0 σ') args s (σ0.2.2.2.2.2.1 - σ'.2.2.2.2.2.1) (σ0.2.2.2.2.2.2 - σ'.2.2.2.2.2.2) (cl_A c0 σ0.2.2.2.1 s.heap.size)) (F0 m 82 ls [])) y := by
    clear hy G ha f1 hl
    intro T H locs ls cells slots G ha f1 hl
    obtain ⟨x1, σ⟩ := y
    dsimp only at h G ha f1 hl
    unfold ec_X10_judge_42 at h
    refine lv_aload_n C.1 C.2.1 dX10_judge_82 rfl (lv_at hl 0 rfl) ?_
    refine cg_10_134 C G ha dX10_judge_83 (fun t_51 => ?_)
    refine vt_r (K := 25) t_51 h (fun r_52 t_53 h_54 => ?_)
    refine cl_astore_n (lv' := [(1, cl_rf c0 r_52), (0, .ref (c0 + a))]) C.1 C.2.1 dX10_judge_86 rfl hl (by decide) (by first | rfl | (cases x1 <;> rfl)) (fun ls hl_55 => ?_)
    refine lv_iconst (v := (0:Int32)) C.1 C.2.1 dX10_judge_87 (by decide) ?_
    refine lv_istore_n (lv' := [(2, .int (0:Int32)), (1, cl_rf c0 r_52), (0, .ref (c0 + a))]) C.1 C.2.1 dX10_judge_88 rfl hl_55 (by decide) (by first | rfl | (cases r_52 <;> rfl)) (fun ls hl_56 => ?_)
    exact wc_X10_judge_89 C h_54 G ha t_53 (lv_sub hl_56 [2, 1, 0] rfl)
  refine lp_recE (fun z : ((Option Nat) × cl_S) => ∀ (T : Nat → Nat × Nat) (H : Heap) (locs : List Loc) (ls : Array Slot) (cells slots : Nat), cl_G true D c0 ({ frames := 2, cells := σ0.2.2.2.2.2.1, slots := σ0.2.2.2.2.2.2, locals := 45 }) s σ0.2.2.2.1 T z.2 H locs cells slots → (T a).1 = 26 → cl_RT T (z.1) 25 → lv_has ls 3 [(0, .ref (c0 + a)), (1, cl_rf c0 (z.1))] → W p l e ({ frames := 2, cells := σ0.2.2.2.2.2.1, slots := σ0.2.2.2.2.2.2, locals := 45 }) s m args below meth c H locs cells slots (MQ below (cl_Q true D c0 none cl_no σ0 σ') args s (σ0.2.2.2.2.2.1 - σ'.2.2.2.2.2.1) (σ0.2.2.2.2.2.2 - σ'.2.2.2.2.2.2) (cl_A c0 σ0.2.2.2.1 s.heap.size)) (F0 m 42 ls [])) (fun z : ((Option Nat) × cl_S) => ∀ (T : Nat → Nat × Nat) (H : Heap) (locs : List Loc) (ls : Array Slot) (cells slots : Nat), cl_G true D c0 ({ frames := 2, cells := σ0.2.2.2.2.2.1, slots := σ0.2.2.2.2.2.2, locals := 45 }) s σ0.2.2.2.1 T z.2 H locs cells slots → (T a).1 = 26 → cl_RT T (z.1) 25 → lv_has ls 3 [(0, .ref (c0 + a)), (1, cl_rf c0 (z.1))] → W p l e ({ frames := 2, cells := σ0.2.2.2.2.2.1, slots := σ0.2.2.2.2.2.2, locals := 45 }) s m args below meth c H locs cells slots (MQ below (cl_Q true D c0 none cl_no σ0 σ') args s (σ0.2.2.2.2.2.1 - σ'.2.2.2.2.2.1) (σ0.2.2.2.2.2.2 - σ'.2.2.2.2.2.2) (cl_A c0 σ0.2.2.2.1 s.heap.size)) (F0 m 82 ls [])) ?_ _ _ hy hE _ _ _ _ _ _ G ha f1 hl
  clear hE hy G ha f1 hl h
  intro z o h hP T H locs ls cells slots G ha f1 hl
  obtain ⟨x1, σ⟩ := z
  dsimp only at h G ha f1 hl
  unfold lc_X10_judge_42 at h
  refine cl_aload_n C.1 C.2.1 dX10_judge_42 rfl (lv_at hl 1 rfl) ?_
  refine cl_ifnull (r := x1) (tgt := 82) C.1 C.2.1 dX10_judge_43 (by decide) (fun hc => ?_) (fun hc => ?_)
  · rw [if_pos hc] at h
    cases h
    exact hP _ _ _ _ _ _ G ha f1 (lv_sub hl [0, 1] rfl)
  · rw [if_neg hc] at h
    refine cl_aload_n C.1 C.2.1 dX10_judge_46 rfl (lv_at hl 1 rfl) ?_
    obtain ⟨a_35, rfl, h_37⟩ := nn_some h
    have t_36 := f1 _ rfl
    refine cg_10_125 C G t_36 dX10_judge_47 ?_
    refine lv_if_ne (tgt := 68) C.1 C.2.1 dX10_judge_50 (by decide) (fun hc => ?_) (fun hc => ?_)
    · rw [if_neg hc] at h_37
      exact wc_X10_judge_68i42 C h_37 hP G ha (cl_RTs t_36) (lv_sub hl [0, 1] rfl)
    · rw [if_pos hc] at h_37
      refine lv_aload_n C.1 C.2.1 dX10_judge_53 rfl (lv_at hl 1 rfl) ?_
      refine cg_10_67 C G t_36 dX10_judge_54 ?_
      refine lv_if_eq (tgt := 68) C.1 C.2.1 dX10_judge_57 (by decide) (fun hc => ?_) (fun hc => ?_)
      · rw [if_pos hc] at h_37
        exact wc_X10_judge_68i42 C h_37 hP G ha (cl_RTs t_36) (lv_sub hl [0, 1] rfl)
      · rw [if_neg hc] at h_37
        refine lv_aload_n C.1 C.2.1 dX10_judge_60 rfl (lv_at hl 1 rfl) ?_
        refine cg_10_67 C G t_36 dX10_judge_61 ?_
        refine lv_iconst (v := (1:Int32)) C.1 C.2.1 dX10_judge_64 (by decide) ?_
        refine lv_icmp_ne (tgt := 74) C.1 C.2.1 dX10_judge_65 (by decide) (fun hc => ?_) (fun hc => ?_)
        · rw [if_neg hc] at h_37
          exact wc_X10_judge_74i42 C h_37 hP G ha (cl_RTs t_36) (lv_sub hl [0, 1] rfl)
        · rw [if_pos hc] at h_37
          exact wc_X10_judge_68i42 C h_37 hP G ha (cl_RTs t_36) (lv_sub hl [0, 1] rfl)
noncomputable def ec_X10_judge_15 (a : Nat) (x1 : (Option Nat)) (σ : cl_S) : Option (cl_S) := vl (σ.2.2.1 a 1) (fun r_31 => bc_X10_judge_42 a r_31 σ)
noncomputable def bc_X10_judge_15 (a : Nat) (x1 : (Option Nat)) (σ : cl_S) : Option (cl_S) := (lp (fun z : ((Option Nat) × cl_S) => lc_X10_judge_15 a z.1 z.2) (x1, σ)).bind (fun z => ec_X10_judge_15 a z.1 z.2)
set_option maxHeartbeats 4000000 in
theorem wc_X10_judge_15 (C : cl_C D p s m args meth c cX10_judge 3 none RX10) {a : Nat} {x1 : (Option Nat)} {σ0 σ σ' : cl_S} {T : Nat → Nat × Nat} {H : Heap} {locs : List Loc} {ls : Array Slot} {cells slots : Nat} (h : bc_X10_judge_15 a x1 σ = some σ') (G : cl_G true D c0 ({ frames := 2, cells := σ0.2.2.2.2.2.1, slots := σ0.2.2.2.2.2.2, locals := 45 }) s σ0.2.2.2.1 T σ H locs cells slots) (ha : (T a).1 = 26) (f1 : cl_RT T x1 25) (hl : lv_has ls 3 [(0, .ref (c0 + a)), (1, cl_rf c0 x1)]) : W p l e ({ frames := 2, cells := σ0.2.2.2.2.2.1, slots := σ0.2.2.2.2.2.2, locals := 45 }) s m args below meth c H locs cells slots (MQ below (cl_Q true D c0 none cl_no σ0 σ') args s (σ0.2.2.2.2.2.1 - σ'.2.2.2.2.2.1) (σ0.2.2.2.2.2.2 - σ'.2.2.2.2.2.2) (cl_A c0 σ0.2.2.2.1 s.heap.size)) (F0 m 15 ls []) := by
  unfold bc_X10_judge_15 at h
  obtain ⟨y, hy, h⟩ := bd_some h
  have hE : (fun z : ((Option Nat) × cl_S) => ∀ (T : Nat → Nat × Nat) (H : Heap) (locs : List Loc) (ls : Array Slot) (cells slots : Nat), cl_G true D c0 ({ frames := 2, cells := σ0.2.2.2.2.2.1, slots := σ0.2.2.2.2.2.2, locals := 45 }) s σ0.2.2.2.1 T z.2 H locs cells slots → (T a).1 = 26 → cl_RT T (z.1) 25 → lv_has ls 3 [(0, .ref (c0 + a)), (1, cl_rf c0 (z.1))] → W p l e ({ frames := 2, cells := σ0.2.2.2.2.2.1, slots := σ0.2.2.2.2.2.2, locals := 45 }) s m args below meth c H locs cells slots (MQ below (cl_Q true D c0 none cl_no σ0 σ') args s (σ0.2.2.2.2.2.1 - σ'.2.2.2.2.2.1) (σ0.2.2.2.2.2.2 - σ'.2.2.2.2.2.2) (cl_A c0 σ0.2.2.2.1 s.heap.size)) (F0 m 37 ls [])) y := by
    clear hy G ha f1 hl
    intro T H locs ls cells slots G ha f1 hl
    obtain ⟨x1, σ⟩ := y
    dsimp only at h G ha f1 hl
    unfold ec_X10_judge_15 at h
    refine lv_aload_n C.1 C.2.1 dX10_judge_37 rfl (lv_at hl 0 rfl) ?_
    refine cg_10_79 C G ha dX10_judge_38 (fun t_30 => ?_)
    refine vt_r (K := 25) t_30 h (fun r_31 t_32 h_33 => ?_)
    refine cl_astore_n (lv' := [(1, cl_rf c0 r_31), (0, .ref (c0 + a))]) C.1 C.2.1 dX10_judge_41 rfl hl (by decide) (by first | rfl | (cases x1 <;> rfl)) (fun ls hl_34 => ?_)
    exact wc_X10_judge_42 C h_33 G ha t_32 (lv_sub hl_34 [1, 0] rfl)
  refine lp_recE (fun z : ((Option Nat) × cl_S) => ∀ (T : Nat → Nat × Nat) (H : Heap) (locs : List Loc) (ls : Array Slot) (cells slots : Nat), cl_G true D c0 ({ frames := 2, cells := σ0.2.2.2.2.2.1, slots := σ0.2.2.2.2.2.2, locals := 45 }) s σ0.2.2.2.1 T z.2 H locs cells slots → (T a).1 = 26 → cl_RT T (z.1) 25 → lv_has ls 3 [(0, .ref (c0 + a)), (1, cl_rf c0 (z.1))] → W p l e ({ frames := 2, cells := σ0.2.2.2.2.2.1, slots := σ0.2.2.2.2.2.2, locals := 45 }) s m args below meth c H locs cells slots (MQ below (cl_Q true D c0 none cl_no σ0 σ') args s (σ0.2.2.2.2.2.1 - σ'.2.2.2.2.2.1) (σ0.2.2.2.2.2.2 - σ'.2.2.2.2.2.2) (cl_A c0 σ0.2.2.2.1 s.heap.size)) (F0 m 15 ls [])) (fun z : ((Option Nat) × cl_S) => ∀ (T : Nat → Nat × Nat) (H : Heap) (locs : List Loc) (ls : Array Slot) (cells slots : Nat), cl_G true D c0 ({ frames := 2, cells := σ0.2.2.2.2.2.1, slots := σ0.2.2.2.2.2.2, locals := 45 }) s σ0.2.2.2.1 T z.2 H locs cells slots → (T a).1 = 26 → cl_RT T (z.1) 25 → lv_has ls 3 [(0, .ref (c0 + a)), (1, cl_rf c0 (z.1))] → W p l e ({ frames := 2, cells := σ0.2.2.2.2.2.1, slots := σ0.2.2.2.2.2.2, locals := 45 }) s m args below meth c H locs cells slots (MQ below (cl_Q true D c0 none cl_no σ0 σ') args s (σ0.2.2.2.2.2.1 - σ'.2.2.2.2.2.1) (σ0.2.2.2.2.2.2 - σ'.2.2.2.2.2.2) (cl_A c0 σ0.2.2.2.1 s.heap.size)) (F0 m 37 ls [])) ?_ _ _ hy hE _ _ _ _ _ _ G ha f1 hl
  clear hE hy G ha f1 hl h
  intro z o h hP T H locs ls cells slots G ha f1 hl
  obtain ⟨x1, σ⟩ := z
  dsimp only at h G ha f1 hl
  unfold lc_X10_judge_15 at h
  refine cl_aload_n C.1 C.2.1 dX10_judge_15 rfl (lv_at hl 1 rfl) ?_
  refine cl_ifnull (r := x1) (tgt := 37) C.1 C.2.1 dX10_judge_16 (by decide) (fun hc => ?_) (fun hc => ?_)
  · rw [if_pos hc] at h
    cases h
    exact hP _ _ _ _ _ _ G ha f1 (lv_sub hl [0, 1] rfl)
  · rw [if_neg hc] at h
    refine cl_aload_n C.1 C.2.1 dX10_judge_19 rfl (lv_at hl 1 rfl) ?_
    refine lv_iconst (v := (-1:Int32)) C.1 C.2.1 dX10_judge_20 (by decide) ?_
    obtain ⟨a_14, rfl, h_16⟩ := nn_some h
    have t_15 := f1 _ rfl
    refine cp_10_131 C G t_15 dX10_judge_21 (fun H locs G_18 => ?_)
    refine cl_nm G_18 h_16 (fun σ_17 G_19 h_20 => ?_)
    refine lv_aload_n C.1 C.2.1 dX10_judge_24 rfl (lv_at hl 1 rfl) ?_
    refine lv_null C.1 C.2.1 dX10_judge_25 ?_
    refine W.eq (g2 := F0 m 26 ls [cl_rf c0 none, .ref (c0 + a_14)]) rfl ?_
    refine cp_10_140 (x := none) C G_19 t_15 (cl_RTn _ _) dX10_judge_26 (fun H locs G_22 => ?_)
    refine cl_nm G_22 h_20 (fun σ_21 G_23 h_24 => ?_)
    refine lv_aload_n C.1 C.2.1 dX10_judge_29 rfl (lv_at hl 1 rfl) ?_
    refine cg_10_143 C G_23 t_15 dX10_judge_30 (fun t_25 => ?_)
    refine vt_r (K := 25) t_25 h_24 (fun r_26 t_27 h_28 => ?_)
    refine cl_astore_n (lv' := [(1, cl_rf c0 r_26), (0, .ref (c0 + a))]) C.1 C.2.1 dX10_judge_33 rfl hl (by decide) rfl (fun ls hl_29 => ?_)
    refine lv_goto (tgt := 15) C.1 C.2.1 dX10_judge_34 (by decide) ?_
    cases h_28
    exact hP _ _ _ _ _ _ G_23 ha t_27 (lv_sub hl_29 [1, 0] rfl)
noncomputable def bc_X10_judge_0 (a : Nat) (σ : cl_S) : Option (cl_S) := vl (cl_wr σ a 9 none) (fun σ_1 => vl (cl_wr σ_1 a 10 none) (fun σ_5 => vl (σ_5.2.2.1 a 1) (fun r_10 => bc_X10_judge_15 a r_10 σ_5)))
set_option maxHeartbeats 4000000 in
theorem wc_X10_judge_0 (C : cl_C D p s m args meth c cX10_judge 3 none RX10) {a : Nat} {σ0 σ σ' : cl_S} {T : Nat → Nat × Nat} {H : Heap} {locs : List Loc} {ls : Array Slot} {cells slots : Nat} (h : bc_X10_judge_0 a σ = some σ') (G : cl_G true D c0 ({ frames := 2, cells := σ0.2.2.2.2.2.1, slots := σ0.2.2.2.2.2.2, locals := 45 }) s σ0.2.2.2.1 T σ H locs cells slots) (ha : (T a).1 = 26) (hl : lv_has ls 3 [(0, .ref (c0 + a))]) : W p l e ({ frames := 2, cells := σ0.2.2.2.2.2.1, slots := σ0.2.2.2.2.2.2, locals := 45 }) s m args below meth c H locs cells slots (MQ below (cl_Q true D c0 none cl_no σ0 σ') args s (σ0.2.2.2.2.2.1 - σ'.2.2.2.2.2.1) (σ0.2.2.2.2.2.2 - σ'.2.2.2.2.2.2) (cl_A c0 σ0.2.2.2.1 s.heap.size)) (F0 m 0 ls []) := by
  unfold bc_X10_judge_0 at h
  refine lv_aload_n C.1 C.2.1 dX10_judge_0 rfl (lv_at hl 0 rfl) ?_
  refine lv_null C.1 C.2.1 dX10_judge_1 ?_
  refine W.eq (g2 := F0 m 2 ls [cl_rf c0 none, .ref (c0 + a)]) rfl ?_
  refine cp_10_134 (x := none) C G ha (cl_RTn _ _) dX10_judge_2 (fun H locs G_2 => ?_)
  refine cl_nm G_2 h (fun σ_1 G_3 h_4 => ?_)
  refine lv_aload_n C.1 C.2.1 dX10_judge_5 rfl (lv_at hl 0 rfl) ?_
  refine lv_null C.1 C.2.1 dX10_judge_6 ?_
  refine W.eq (g2 := F0 m 7 ls [cl_rf c0 none, .ref (c0 + a)]) rfl ?_
  refine cp_10_137 (x := none) C G_3 ha (cl_RTn _ _) dX10_judge_7 (fun H locs G_6 => ?_)
  refine cl_nm G_6 h_4 (fun σ_5 G_7 h_8 => ?_)
  refine lv_aload_n C.1 C.2.1 dX10_judge_10 rfl (lv_at hl 0 rfl) ?_
  refine cg_10_79 C G_7 ha dX10_judge_11 (fun t_9 => ?_)
  refine vt_r (K := 25) t_9 h_8 (fun r_10 t_11 h_12 => ?_)
  refine cl_astore_n (lv' := [(1, cl_rf c0 r_10), (0, .ref (c0 + a))]) C.1 C.2.1 dX10_judge_14 rfl hl (by decide) rfl (fun ls hl_13 => ?_)
  exact wc_X10_judge_15 C h_12 G_7 ha t_11 (lv_sub hl_13 [1, 0] rfl)
noncomputable def fc_X10_judge (a : Nat) (σ : cl_S) : Option (cl_S) := bc_X10_judge_0 a σ
theorem kc_X10_judge (l : Launch) (D : cl_D) (c0 : Nat) {a : Nat} {σ σ' : cl_S} (ha : (σ.2.2.2.1 a).1 = 26) (h : fc_X10_judge a σ = some σ') : cl_Met true l D c0 yX10_judge cX10_judge 3 none 2 45 [.ref (c0 + a)] σ none cl_no σ' :=
  cl_of (by decide) (Nat.le_of_ble_eq_true rfl) (fun p e s m args below meth c ls C hn G hl => wc_X10_judge_0 C h G ha hl)
abbrev cX10_roundOf : ByteArray := prog_12_method_14_code
def yX10_roundOf : MethodName := ⟨RX10, "roundOf", "(LPartHouse$Term;)I"⟩
theorem dX10_roundOf_0 : decode cX10_roundOf 0 = .ok (.aload_n 0, 1) := by decide +kernel
theorem dX10_roundOf_1 : decode cX10_roundOf 1 = .ok (.getfield 85, 3) := by decide +kernel
theorem dX10_roundOf_4 : decode cX10_roundOf 4 = .ok (.ifCond .ne 12, 3) := by decide +kernel
theorem dX10_roundOf_7 : decode cX10_roundOf 7 = .ok (.aload_n 0, 1) := by decide +kernel
theorem dX10_roundOf_8 : decode cX10_roundOf 8 = .ok (.invokevirtual 128, 3) := by decide +kernel
theorem dX10_roundOf_11 : decode cX10_roundOf 11 = .ok (.aload_n 0, 1) := by decide +kernel
theorem dX10_roundOf_12 : decode cX10_roundOf 12 = .ok (.iconst 1, 1) := by decide +kernel
theorem dX10_roundOf_13 : decode cX10_roundOf 13 = .ok (.putfield 85, 3) := by decide +kernel
theorem dX10_roundOf_16 : decode cX10_roundOf 16 = .ok (.aload_n 1, 1) := by decide +kernel
theorem dX10_roundOf_17 : decode cX10_roundOf 17 = .ok (.getfield 131, 3) := by decide +kernel
theorem dX10_roundOf_20 : decode cX10_roundOf 20 = .ok (.ireturn, 1) := by decide +kernel
theorem cc_X10_roundOf : Cond.code yX10_roundOf cX10_roundOf 2 (some .int) ∈ rf_tb := rf_at 1430 (by decide +kernel) (by decide +kernel)
theorem cw_RX10_128 : cl_wV RX10 RX10 yX10_judge cX10_judge 3 none 128 0 := ⟨⟨rf_at 1431 (by decide +kernel) (by decide +kernel), rf_at 1433 (by decide +kernel) (by decide +kernel), rf_sel (q := (yX10_judge, 11)) 70 (by decide +kernel) (by decide +kernel), cc_X10_judge, rf_at 9 (by decide +kernel) (by decide +kernel)⟩, ⟨by decide, by decide, by decide +kernel⟩⟩
noncomputable def bc_X10_roundOf_0 (a : Nat) (x1 : (Option Nat)) (σ : cl_S) : Option (Int32 × cl_S) := (if (σ.1 a 8) = 0 then bd1 (fc_X10_judge a σ) (fun σ_4 => vl (cl_w σ_4 a 8 (1:Int32)) (fun σ_9 => nn x1 (fun a_13 => some ((σ_9.1 a_13 10), σ_9)))) else nn x1 (fun a_1 => some ((σ.1 a_1 10), σ)))
set_option maxHeartbeats 4000000 in
theorem wc_X10_roundOf_0 (C : cl_C D p s m args meth c cX10_roundOf 2 (some .int) RX10) {r : Int32} {a : Nat} {x1 : (Option Nat)} {σ0 σ σ' : cl_S} {T : Nat → Nat × Nat} {H : Heap} {locs : List Loc} {ls : Array Slot} {cells slots : Nat} (h : bc_X10_roundOf_0 a x1 σ = some (r, σ')) (G : cl_G true D c0 ({ frames := 3, cells := σ0.2.2.2.2.2.1, slots := σ0.2.2.2.2.2.2, locals := 67 }) s σ0.2.2.2.1 T σ H locs cells slots) (ha : (T a).1 = 26) (f1 : cl_RT T x1 25) (hl : lv_has ls 2 [(0, .ref (c0 + a)), (1, cl_rf c0 x1)]) : W p l e ({ frames := 3, cells := σ0.2.2.2.2.2.1, slots := σ0.2.2.2.2.2.2, locals := 67 }) s m args below meth c H locs cells slots (MQ below (cl_Q true D c0 (some (.int r)) cl_no σ0 σ') args s (σ0.2.2.2.2.2.1 - σ'.2.2.2.2.2.1) (σ0.2.2.2.2.2.2 - σ'.2.2.2.2.2.2) (cl_A c0 σ0.2.2.2.1 s.heap.size)) (F0 m 0 ls []) := by
  unfold bc_X10_roundOf_0 at h
  refine lv_aload_n C.1 C.2.1 dX10_roundOf_0 rfl (lv_at hl 0 rfl) ?_
  refine cg_10_85 C G ha dX10_roundOf_1 ?_
  refine lv_if_ne (tgt := 16) C.1 C.2.1 dX10_roundOf_4 (by decide) (fun hc => ?_) (fun hc => ?_)
  · rw [if_neg hc] at h
    refine cl_aload_n C.1 C.2.1 dX10_roundOf_16 rfl (lv_at hl 1 rfl) ?_
    obtain ⟨a_1, rfl, h_3⟩ := nn_some h
    have t_2 := f1 _ rfl
    refine cg_10_131 C G t_2 dX10_roundOf_17 ?_
    exact cl_iret ⟨rfl, rfl⟩ rfl C G h_3 dX10_roundOf_20
  · rw [if_pos hc] at h
    refine lv_aload_n C.1 C.2.1 dX10_roundOf_7 rfl (lv_at hl 0 rfl) ?_
    obtain ⟨σ_4, hq, h_5⟩ := bd1_some h
    refine cl_callV (ci := 10) (rest := []) C G rfl ha cw_RX10_128 [] _ (kc_X10_judge l D c0 (by rw [G.1]; exact ha) hq) (Nat.le_of_ble_eq_true rfl) (Nat.le_of_ble_eq_true rfl) rfl rfl hl.1 (Nat.le_of_ble_eq_true rfl) dX10_roundOf_8 (fun T_6 H locs cells slots t_7 hu G_8 => ?_)
    have ha := hu.kind ha (by decide)
    have f1 := f1.up hu (by decide)
    refine W.eq (g2 := F0 m 11 ls []) rfl ?_
    refine lv_aload_n C.1 C.2.1 dX10_roundOf_11 rfl (lv_at hl 0 rfl) ?_
    refine lv_iconst (v := (1:Int32)) C.1 C.2.1 dX10_roundOf_12 (by decide) ?_
    refine cp_10_85 C G_8 ha rfl rfl dX10_roundOf_13 (fun H locs G_10 => ?_)
    refine cl_nm G_10 h_5 (fun σ_9 G_11 h_12 => ?_)
    refine cl_aload_n C.1 C.2.1 dX10_roundOf_16 rfl (lv_at hl 1 rfl) ?_
    obtain ⟨a_13, rfl, h_15⟩ := nn_some h_12
    have t_14 := f1 _ rfl
    refine cg_10_131 C G_11 t_14 dX10_roundOf_17 ?_
    exact cl_iret ⟨rfl, rfl⟩ rfl C G_11 h_15 dX10_roundOf_20
noncomputable def fc_X10_roundOf (a : Nat) (x1 : (Option Nat)) (σ : cl_S) : Option (Int32 × cl_S) := bc_X10_roundOf_0 a x1 σ
theorem kc_X10_roundOf (l : Launch) (D : cl_D) (c0 : Nat) {r : Int32} {a : Nat} {x1 : (Option Nat)} {σ σ' : cl_S} (ha : (σ.2.2.2.1 a).1 = 26) (h : fc_X10_roundOf a x1 σ = some (r, σ')) (f1 : cl_RT σ.2.2.2.1 x1 25) : cl_Met true l D c0 yX10_roundOf cX10_roundOf 2 (some .int) 3 67 [.ref (c0 + a), cl_rf c0 x1] σ (some (.int r)) cl_no σ' :=
  by cases x1 <;> exact cl_of (by decide) (Nat.le_of_ble_eq_true rfl) (fun p e s m args below meth c ls C hn G hl => wc_X10_roundOf_0 C h G ha f1 hl)
abbrev cX11_init : ByteArray := prog_1_method_1_code
def yX11_init : MethodName := ⟨RX11, "<init>", "()V"⟩
theorem dX11_init_0 : decode cX11_init 0 = .ok (.aload_n 0, 1) := by decide +kernel
theorem dX11_init_1 : decode cX11_init 1 = .ok (.invokespecial 1, 3) := by decide +kernel
theorem dX11_init_4 : decode cX11_init 4 = .ok (.aload_n 0, 1) := by decide +kernel
theorem dX11_init_5 : decode cX11_init 5 = .ok (.new 7, 3) := by decide +kernel
theorem dX11_init_8 : decode cX11_init 8 = .ok (.dup, 1) := by decide +kernel
theorem dX11_init_9 : decode cX11_init 9 = .ok (.invokespecial 9, 3) := by decide +kernel
theorem dX11_init_12 : decode cX11_init 12 = .ok (.putfield 10, 3) := by decide +kernel
theorem dX11_init_15 : decode cX11_init 15 = .ok (.aload_n 0, 1) := by decide +kernel
theorem dX11_init_16 : decode cX11_init 16 = .ok (.new 16, 3) := by decide +kernel
theorem dX11_init_19 : decode cX11_init 19 = .ok (.dup, 1) := by decide +kernel
theorem dX11_init_20 : decode cX11_init 20 = .ok (.aload_n 0, 1) := by decide +kernel
theorem dX11_init_21 : decode cX11_init 21 = .ok (.getfield 10, 3) := by decide +kernel
theorem dX11_init_24 : decode cX11_init 24 = .ok (.invokespecial 18, 3) := by decide +kernel
theorem dX11_init_27 : decode cX11_init 27 = .ok (.putfield 21, 3) := by decide +kernel
theorem dX11_init_30 : decode cX11_init 30 = .ok (.aload_n 0, 1) := by decide +kernel
theorem dX11_init_31 : decode cX11_init 31 = .ok (.new 25, 3) := by decide +kernel
theorem dX11_init_34 : decode cX11_init 34 = .ok (.dup, 1) := by decide +kernel
theorem dX11_init_35 : decode cX11_init 35 = .ok (.invokespecial 27, 3) := by decide +kernel
theorem dX11_init_38 : decode cX11_init 38 = .ok (.putfield 28, 3) := by decide +kernel
theorem dX11_init_41 : decode cX11_init 41 = .ok (.aload_n 0, 1) := by decide +kernel
theorem dX11_init_42 : decode cX11_init 42 = .ok (.sipush 2048, 3) := by decide +kernel
theorem dX11_init_45 : decode cX11_init 45 = .ok (.newarray .int, 2) := by decide +kernel
theorem dX11_init_47 : decode cX11_init 47 = .ok (.putfield 32, 3) := by decide +kernel
theorem dX11_init_50 : decode cX11_init 50 = .ok (.aload_n 0, 1) := by decide +kernel
theorem dX11_init_51 : decode cX11_init 51 = .ok (.bipush 10, 2) := by decide +kernel
theorem dX11_init_53 : decode cX11_init 53 = .ok (.sipush 2048, 3) := by decide +kernel
theorem dX11_init_56 : decode cX11_init 56 = .ok (.multianewarray 36 2, 4) := by decide +kernel
theorem dX11_init_60 : decode cX11_init 60 = .ok (.putfield 38, 3) := by decide +kernel
theorem dX11_init_63 : decode cX11_init 63 = .ok (.aload_n 0, 1) := by decide +kernel
theorem dX11_init_64 : decode cX11_init 64 = .ok (.bipush 10, 2) := by decide +kernel
theorem dX11_init_66 : decode cX11_init 66 = .ok (.newarray .int, 2) := by decide +kernel
theorem dX11_init_68 : decode cX11_init 68 = .ok (.putfield 41, 3) := by decide +kernel
theorem dX11_init_71 : decode cX11_init 71 = .ok (.aload_n 0, 1) := by decide +kernel
theorem dX11_init_72 : decode cX11_init 72 = .ok (.new 44, 3) := by decide +kernel
theorem dX11_init_75 : decode cX11_init 75 = .ok (.dup, 1) := by decide +kernel
theorem dX11_init_76 : decode cX11_init 76 = .ok (.invokespecial 46, 3) := by decide +kernel
theorem dX11_init_79 : decode cX11_init 79 = .ok (.putfield 47, 3) := by decide +kernel
theorem dX11_init_82 : decode cX11_init 82 = .ok (.aload_n 0, 1) := by decide +kernel
theorem dX11_init_83 : decode cX11_init 83 = .ok (.new 51, 3) := by decide +kernel
theorem dX11_init_86 : decode cX11_init 86 = .ok (.dup, 1) := by decide +kernel
theorem dX11_init_87 : decode cX11_init 87 = .ok (.aload_n 0, 1) := by decide +kernel
theorem dX11_init_88 : decode cX11_init 88 = .ok (.getfield 47, 3) := by decide +kernel
theorem dX11_init_91 : decode cX11_init 91 = .ok (.sipush 600, 3) := by decide +kernel
theorem dX11_init_94 : decode cX11_init 94 = .ok (.sipush 2048, 3) := by decide +kernel
theorem dX11_init_97 : decode cX11_init 97 = .ok (.iconst 1, 1) := by decide +kernel
theorem dX11_init_98 : decode cX11_init 98 = .ok (.invokespecial 53, 3) := by decide +kernel
theorem dX11_init_101 : decode cX11_init 101 = .ok (.putfield 56, 3) := by decide +kernel
theorem dX11_init_104 : decode cX11_init 104 = .ok (.aload_n 0, 1) := by decide +kernel
theorem dX11_init_105 : decode cX11_init 105 = .ok (.new 60, 3) := by decide +kernel
theorem dX11_init_108 : decode cX11_init 108 = .ok (.dup, 1) := by decide +kernel
theorem dX11_init_109 : decode cX11_init 109 = .ok (.aload_n 0, 1) := by decide +kernel
theorem dX11_init_110 : decode cX11_init 110 = .ok (.getfield 47, 3) := by decide +kernel
theorem dX11_init_113 : decode cX11_init 113 = .ok (.getfield 62, 3) := by decide +kernel
theorem dX11_init_116 : decode cX11_init 116 = .ok (.invokespecial 66, 3) := by decide +kernel
theorem dX11_init_119 : decode cX11_init 119 = .ok (.putfield 69, 3) := by decide +kernel
theorem dX11_init_122 : decode cX11_init 122 = .ok (.aload_n 0, 1) := by decide +kernel
theorem dX11_init_123 : decode cX11_init 123 = .ok (.new 60, 3) := by decide +kernel
theorem dX11_init_126 : decode cX11_init 126 = .ok (.dup, 1) := by decide +kernel
theorem dX11_init_127 : decode cX11_init 127 = .ok (.aload_n 0, 1) := by decide +kernel
theorem dX11_init_128 : decode cX11_init 128 = .ok (.getfield 47, 3) := by decide +kernel
theorem dX11_init_131 : decode cX11_init 131 = .ok (.getfield 62, 3) := by decide +kernel
theorem dX11_init_134 : decode cX11_init 134 = .ok (.invokespecial 66, 3) := by decide +kernel
theorem dX11_init_137 : decode cX11_init 137 = .ok (.putfield 73, 3) := by decide +kernel
theorem dX11_init_140 : decode cX11_init 140 = .ok (.aload_n 0, 1) := by decide +kernel
theorem dX11_init_141 : decode cX11_init 141 = .ok (.new 76, 3) := by decide +kernel
theorem dX11_init_144 : decode cX11_init 144 = .ok (.dup, 1) := by decide +kernel
theorem dX11_init_145 : decode cX11_init 145 = .ok (.aload_n 0, 1) := by decide +kernel
theorem dX11_init_146 : decode cX11_init 146 = .ok (.getfield 47, 3) := by decide +kernel
theorem dX11_init_149 : decode cX11_init 149 = .ok (.aload_n 0, 1) := by decide +kernel
theorem dX11_init_150 : decode cX11_init 150 = .ok (.getfield 69, 3) := by decide +kernel
theorem dX11_init_153 : decode cX11_init 153 = .ok (.iconst 1, 1) := by decide +kernel
theorem dX11_init_154 : decode cX11_init 154 = .ok (.invokespecial 78, 3) := by decide +kernel
theorem dX11_init_157 : decode cX11_init 157 = .ok (.putfield 81, 3) := by decide +kernel
theorem dX11_init_160 : decode cX11_init 160 = .ok (.aload_n 0, 1) := by decide +kernel
theorem dX11_init_161 : decode cX11_init 161 = .ok (.new 76, 3) := by decide +kernel
theorem dX11_init_164 : decode cX11_init 164 = .ok (.dup, 1) := by decide +kernel
theorem dX11_init_165 : decode cX11_init 165 = .ok (.aload_n 0, 1) := by decide +kernel
theorem dX11_init_166 : decode cX11_init 166 = .ok (.getfield 47, 3) := by decide +kernel
theorem dX11_init_169 : decode cX11_init 169 = .ok (.new 60, 3) := by decide +kernel
theorem dX11_init_172 : decode cX11_init 172 = .ok (.dup, 1) := by decide +kernel
theorem dX11_init_173 : decode cX11_init 173 = .ok (.aload_n 0, 1) := by decide +kernel
theorem dX11_init_174 : decode cX11_init 174 = .ok (.getfield 47, 3) := by decide +kernel
theorem dX11_init_177 : decode cX11_init 177 = .ok (.getfield 62, 3) := by decide +kernel
theorem dX11_init_180 : decode cX11_init 180 = .ok (.invokespecial 66, 3) := by decide +kernel
theorem dX11_init_183 : decode cX11_init 183 = .ok (.iconst 0, 1) := by decide +kernel
theorem dX11_init_184 : decode cX11_init 184 = .ok (.invokespecial 78, 3) := by decide +kernel
theorem dX11_init_187 : decode cX11_init 187 = .ok (.putfield 85, 3) := by decide +kernel
theorem dX11_init_190 : decode cX11_init 190 = .ok (.aload_n 0, 1) := by decide +kernel
theorem dX11_init_191 : decode cX11_init 191 = .ok (.new 88, 3) := by decide +kernel
theorem dX11_init_194 : decode cX11_init 194 = .ok (.dup, 1) := by decide +kernel
theorem dX11_init_195 : decode cX11_init 195 = .ok (.invokespecial 90, 3) := by decide +kernel
theorem dX11_init_198 : decode cX11_init 198 = .ok (.putfield 91, 3) := by decide +kernel
theorem dX11_init_201 : decode cX11_init 201 = .ok (.return_, 1) := by decide +kernel
theorem cc_X11_init : Cond.code yX11_init cX11_init 1 none ∈ rf_tb := rf_at 25 (by decide +kernel) (by decide +kernel)
theorem cw_RX11_9 : (Cond.instanceMethod yX4_init ∈ rf_tb ∧ Cond.code yX4_init cX4_init 1 none ∈ rf_tb ∧ Cond.initialized yX4_init.cls ∈ rf_tb) ∧ yX4_init.name = "<init>" ∧ (yX4_init.cls ≠ "java/lang/invoke/MethodHandle" ∧ yX4_init.cls ≠ "java/lang/invoke/VarHandle" ∧ (parseMethodDescriptor yX4_init.desc).map (fun d => d.parameters.length) = some 0) := ⟨⟨rf_at 32 (by decide +kernel) (by decide +kernel), cc_X4_init, rf_at 2 (by decide +kernel) (by decide +kernel)⟩, rfl, ⟨by decide, by decide, by decide +kernel⟩⟩
theorem cw_RX11_18 : cl_wI RX11 yX0_init cX0_init 4 18 1 := ⟨⟨rf_at 68 (by decide +kernel) (by decide +kernel), rf_at 69 (by decide +kernel) (by decide +kernel), cc_X0_init, rf_at 3 (by decide +kernel) (by decide +kernel)⟩, rfl, ⟨by decide, by decide, by decide +kernel⟩⟩
theorem cw_RX11_27 : (Cond.instanceMethod yX7_init ∈ rf_tb ∧ Cond.code yX7_init cX7_init 1 none ∈ rf_tb ∧ Cond.initialized yX7_init.cls ∈ rf_tb) ∧ yX7_init.name = "<init>" ∧ (yX7_init.cls ≠ "java/lang/invoke/MethodHandle" ∧ yX7_init.cls ≠ "java/lang/invoke/VarHandle" ∧ (parseMethodDescriptor yX7_init.desc).map (fun d => d.parameters.length) = some 0) := ⟨⟨rf_at 174 (by decide +kernel) (by decide +kernel), cc_X7_init, rf_at 8 (by decide +kernel) (by decide +kernel)⟩, rfl, ⟨by decide, by decide, by decide +kernel⟩⟩
theorem cw_RX11_46 : cl_wI RX11 yX10_init cX10_init 1 46 0 := ⟨⟨rf_at 197 (by decide +kernel) (by decide +kernel), rf_at 198 (by decide +kernel) (by decide +kernel), cc_X10_init, rf_at 9 (by decide +kernel) (by decide +kernel)⟩, rfl, ⟨by decide, by decide, by decide +kernel⟩⟩
theorem cw_RX11_53 : cl_wI RX11 yX8_init cX8_init 5 53 4 := ⟨⟨rf_at 361 (by decide +kernel) (by decide +kernel), rf_at 362 (by decide +kernel) (by decide +kernel), cc_X8_init, rf_at 11 (by decide +kernel) (by decide +kernel)⟩, rfl, ⟨by decide, by decide, by decide +kernel⟩⟩
theorem cw_RX11_66 : cl_wI RX11 yX3_init cX3_init 3 66 1 := ⟨⟨rf_at 388 (by decide +kernel) (by decide +kernel), rf_at 389 (by decide +kernel) (by decide +kernel), cc_X3_init, rf_at 12 (by decide +kernel) (by decide +kernel)⟩, rfl, ⟨by decide, by decide, by decide +kernel⟩⟩
theorem cw_RX11_78 : cl_wI RX11 yX5_init cX5_init 5 78 3 := ⟨⟨rf_at 409 (by decide +kernel) (by decide +kernel), rf_at 410 (by decide +kernel) (by decide +kernel), cc_X5_init, rf_at 13 (by decide +kernel) (by decide +kernel)⟩, rfl, ⟨by decide, by decide, by decide +kernel⟩⟩
theorem cw_RX11_90 : (Cond.instanceMethod yX1_init ∈ rf_tb ∧ Cond.code yX1_init cX1_init 1 none ∈ rf_tb ∧ Cond.initialized yX1_init.cls ∈ rf_tb) ∧ yX1_init.name = "<init>" ∧ (yX1_init.cls ≠ "java/lang/invoke/MethodHandle" ∧ yX1_init.cls ≠ "java/lang/invoke/VarHandle" ∧ (parseMethodDescriptor yX1_init.desc).map (fun d => d.parameters.length) = some 0) := ⟨⟨rf_at 416 (by decide +kernel) (by decide +kernel), cc_X1_init, rf_at 14 (by decide +kernel) (by decide +kernel)⟩, rfl, ⟨by decide, by decide, by decide +kernel⟩⟩
theorem cl_RX11_36 : Cond.classLink RX11 36 "[[I" ∈ rf_tb := rf_at 193 (by decide +kernel) (by decide +kernel)
theorem nw_RX11_7 : Cond.classLink RX11 7 RX4 ∈ rf_tb := rf_at 29 (by decide +kernel) (by decide +kernel)
theorem ni_4 : Cond.instantiable RX4 7 ∈ rf_tb := rf_at 30 (by decide +kernel) (by decide +kernel)
theorem nz_4 : Cond.initialized RX4 ∈ rf_tb := rf_at 2 (by decide +kernel) (by decide +kernel)
theorem nd_4 {c0 zw : Nat} {σ : cl_S} : ∀ k, k < 7 → defaultValue (tyX4 k) = cl_V c0 zw true (cl_nw σ 120 0 7) σ.2.2.2.2.1 4 k := by
  intro k hk
  have h1 : ∀ j, (cl_nw σ 120 0 7).1 σ.2.2.2.2.1 j = 0 := fun j => (by simp [cl_nw, cl_row_eq])
  have h2 : ∀ j, (cl_nw σ 120 0 7).2.1 σ.2.2.2.2.1 j = 0 := fun j => (by simp [cl_nw, cl_row_eq])
  have h3 : ∀ j, (cl_nw σ 120 0 7).2.2.1 σ.2.2.2.2.1 j = none := fun j => (by simp [cl_nw, cl_row_eq])
  unfold cl_V
  rw [h1, h2, h3]
  rcases (show k = 0 ∨ k = 1 ∨ k = 2 ∨ k = 3 ∨ k = 4 ∨ k = 5 ∨ k = 6 by omega) with rfl | rfl | rfl | rfl | rfl | rfl | rfl <;> rfl
theorem nw_RX11_16 : Cond.classLink RX11 16 RX0 ∈ rf_tb := rf_at 66 (by decide +kernel) (by decide +kernel)
theorem ni_0 : Cond.instantiable RX0 16 ∈ rf_tb := rf_at 67 (by decide +kernel) (by decide +kernel)
theorem nz_0 : Cond.initialized RX0 ∈ rf_tb := rf_at 3 (by decide +kernel) (by decide +kernel)
theorem nd_0 {c0 zw : Nat} {σ : cl_S} : ∀ k, k < 16 → defaultValue (tyX0 k) = cl_V c0 zw true (cl_nw σ 116 0 16) σ.2.2.2.2.1 0 k := by
  intro k hk
  have h1 : ∀ j, (cl_nw σ 116 0 16).1 σ.2.2.2.2.1 j = 0 := fun j => (by simp [cl_nw, cl_row_eq])
  have h2 : ∀ j, (cl_nw σ 116 0 16).2.1 σ.2.2.2.2.1 j = 0 := fun j => (by simp [cl_nw, cl_row_eq])
  have h3 : ∀ j, (cl_nw σ 116 0 16).2.2.1 σ.2.2.2.2.1 j = none := fun j => (by simp [cl_nw, cl_row_eq])
  unfold cl_V
  rw [h1, h2, h3]
  rcases (show k = 0 ∨ k = 1 ∨ k = 2 ∨ k = 3 ∨ k = 4 ∨ k = 5 ∨ k = 6 ∨ k = 7 ∨ k = 8 ∨ k = 9 ∨ k = 10 ∨ k = 11 ∨ k = 12 ∨ k = 13 ∨ k = 14 ∨ k = 15 by omega) with rfl | rfl | rfl | rfl | rfl | rfl | rfl | rfl | rfl | rfl | rfl | rfl | rfl | rfl | rfl | rfl <;> rfl
theorem nw_RX11_25 : Cond.classLink RX11 25 RX7 ∈ rf_tb := rf_at 171 (by decide +kernel) (by decide +kernel)
theorem ni_7 : Cond.instantiable RX7 5 ∈ rf_tb := rf_at 172 (by decide +kernel) (by decide +kernel)
theorem nz_7 : Cond.initialized RX7 ∈ rf_tb := rf_at 8 (by decide +kernel) (by decide +kernel)
theorem nd_7 {c0 zw : Nat} {σ : cl_S} : ∀ k, k < 5 → defaultValue (tyX7 k) = cl_V c0 zw true (cl_nw σ 123 0 5) σ.2.2.2.2.1 7 k := by
  intro k hk
  have h1 : ∀ j, (cl_nw σ 123 0 5).1 σ.2.2.2.2.1 j = 0 := fun j => (by simp [cl_nw, cl_row_eq])
  have h2 : ∀ j, (cl_nw σ 123 0 5).2.1 σ.2.2.2.2.1 j = 0 := fun j => (by simp [cl_nw, cl_row_eq])
  have h3 : ∀ j, (cl_nw σ 123 0 5).2.2.1 σ.2.2.2.2.1 j = none := fun j => (by simp [cl_nw, cl_row_eq])
  unfold cl_V
  rw [h1, h2, h3]
  rcases (show k = 0 ∨ k = 1 ∨ k = 2 ∨ k = 3 ∨ k = 4 by omega) with rfl | rfl | rfl | rfl | rfl <;> rfl
theorem nw_RX11_44 : Cond.classLink RX11 44 RX10 ∈ rf_tb := rf_at 195 (by decide +kernel) (by decide +kernel)
theorem ni_10 : Cond.instantiable RX10 11 ∈ rf_tb := rf_at 196 (by decide +kernel) (by decide +kernel)
theorem nz_10 : Cond.initialized RX10 ∈ rf_tb := rf_at 9 (by decide +kernel) (by decide +kernel)
theorem nd_10 {c0 zw : Nat} {σ : cl_S} : ∀ k, k < 11 → defaultValue (tyX10 k) = cl_V c0 zw true (cl_nw σ 126 0 11) σ.2.2.2.2.1 10 k := by
  intro k hk
  have h1 : ∀ j, (cl_nw σ 126 0 11).1 σ.2.2.2.2.1 j = 0 := fun j => (by simp [cl_nw, cl_row_eq])
  have h2 : ∀ j, (cl_nw σ 126 0 11).2.1 σ.2.2.2.2.1 j = 0 := fun j => (by simp [cl_nw, cl_row_eq])
  have h3 : ∀ j, (cl_nw σ 126 0 11).2.2.1 σ.2.2.2.2.1 j = none := fun j => (by simp [cl_nw, cl_row_eq])
  unfold cl_V
  rw [h1, h2, h3]
  rcases (show k = 0 ∨ k = 1 ∨ k = 2 ∨ k = 3 ∨ k = 4 ∨ k = 5 ∨ k = 6 ∨ k = 7 ∨ k = 8 ∨ k = 9 ∨ k = 10 by omega) with rfl | rfl | rfl | rfl | rfl | rfl | rfl | rfl | rfl | rfl | rfl <;> rfl
theorem nw_RX11_51 : Cond.classLink RX11 51 RX8 ∈ rf_tb := rf_at 359 (by decide +kernel) (by decide +kernel)
theorem nw_RX11_60 : Cond.classLink RX11 60 RX3 ∈ rf_tb := rf_at 386 (by decide +kernel) (by decide +kernel)
theorem ni_3 : Cond.instantiable RX3 3 ∈ rf_tb := rf_at 387 (by decide +kernel) (by decide +kernel)
theorem nz_3 : Cond.initialized RX3 ∈ rf_tb := rf_at 12 (by decide +kernel) (by decide +kernel)
theorem nd_3 {c0 zw : Nat} {σ : cl_S} : ∀ k, k < 3 → defaultValue (tyX3 k) = cl_V c0 zw true (cl_nw σ 119 0 3) σ.2.2.2.2.1 3 k := by
  intro k hk
  have h1 : ∀ j, (cl_nw σ 119 0 3).1 σ.2.2.2.2.1 j = 0 := fun j => (by simp [cl_nw, cl_row_eq])
  have h2 : ∀ j, (cl_nw σ 119 0 3).2.1 σ.2.2.2.2.1 j = 0 := fun j => (by simp [cl_nw, cl_row_eq])
  have h3 : ∀ j, (cl_nw σ 119 0 3).2.2.1 σ.2.2.2.2.1 j = none := fun j => (by simp [cl_nw, cl_row_eq])
  unfold cl_V
  rw [h1, h2, h3]
  rcases (show k = 0 ∨ k = 1 ∨ k = 2 by omega) with rfl | rfl | rfl <;> rfl
theorem nw_RX11_76 : Cond.classLink RX11 76 RX5 ∈ rf_tb := rf_at 407 (by decide +kernel) (by decide +kernel)
theorem ni_5 : Cond.instantiable RX5 20 ∈ rf_tb := rf_at 408 (by decide +kernel) (by decide +kernel)
theorem nz_5 : Cond.initialized RX5 ∈ rf_tb := rf_at 13 (by decide +kernel) (by decide +kernel)
theorem nd_5 {c0 zw : Nat} {σ : cl_S} : ∀ k, k < 20 → defaultValue (tyX5 k) = cl_V c0 zw true (cl_nw σ 121 0 20) σ.2.2.2.2.1 5 k := by
  intro k hk
  have h1 : ∀ j, (cl_nw σ 121 0 20).1 σ.2.2.2.2.1 j = 0 := fun j => (by simp [cl_nw, cl_row_eq])
  have h2 : ∀ j, (cl_nw σ 121 0 20).2.1 σ.2.2.2.2.1 j = 0 := fun j => (by simp [cl_nw, cl_row_eq])
  have h3 : ∀ j, (cl_nw σ 121 0 20).2.2.1 σ.2.2.2.2.1 j = none := fun j => (by simp [cl_nw, cl_row_eq])
  unfold cl_V
  rw [h1, h2, h3]
  rcases (show k = 0 ∨ k = 1 ∨ k = 2 ∨ k = 3 ∨ k = 4 ∨ k = 5 ∨ k = 6 ∨ k = 7 ∨ k = 8 ∨ k = 9 ∨ k = 10 ∨ k = 11 ∨ k = 12 ∨ k = 13 ∨ k = 14 ∨ k = 15 ∨ k = 16 ∨ k = 17 ∨ k = 18 ∨ k = 19 by omega) with rfl | rfl | rfl | rfl | rfl | rfl | rfl | rfl | rfl | rfl | rfl | rfl | rfl | rfl | rfl | rfl | rfl | rfl | rfl | rfl <;> rfl
theorem nw_RX11_88 : Cond.classLink RX11 88 RX1 ∈ rf_tb := rf_at 691 (by decide +kernel) (by decide +kernel)
theorem oi_RX11_1 : Cond.methodLink RX11 1 Lib.objectInit ∈ rf_tb := rf_at 26 (by decide +kernel) (by decide +kernel)
noncomputable def bc_X11_init_0 (a : Nat) (σ : cl_S) : Option (cl_S) := al σ 7 (vl σ.2.2.2.2.1 (fun a_1 => vl (cl_nw σ 120 0 7) (fun σ_2 => bd1 (fc_X4_init a_1 σ_2) (fun σ_11 => sealed σ_11 a_1 4 (vl (cl_seal σ_11 a_1 4) (fun σ_16 => vl (cl_wr σ_16 a 0 (some a_1)) (fun σ_21 => al σ_21 16 (vl σ_21.2.2.2.2.1 (fun a_25 => vl (cl_nw σ_21 116 0 16) (fun σ_26 => vl (σ_26.2.2.1 a 0) (fun r_36 => bd1 (fc_X0_init a_25 r_36 σ_26) (fun σ_39 => sealed σ_39 a_25 0 (vl (cl_seal σ_39 a_25 0) (fun σ_44 => vl (cl_wr σ_44 a 1 (some a_25)) (fun σ_49 => al σ_49 5 (vl σ_49.2.2.2.2.1 (fun a_53 => vl (cl_nw σ_49 123 0 5) (fun σ_54 => bd1 (fc_X7_init a_53 σ_54) (fun σ_63 => sealed σ_63 a_53 7 (vl (cl_seal σ_63 a_53 7) (fun σ_68 => vl (cl_wr σ_68 a 2 (some a_53)) (fun σ_73 => nag (2048:Int32) (al σ_73 (2048:Int32).toNatClampNeg (vl σ_73.2.2.2.2.1 (fun a_77 => vl (cl_nw σ_73 1 (2048:Int32).toNatClampNeg (2048:Int32).toNatClampNeg) (fun σ_78 => vl (cl_wr σ_78 a 3 (some a_77)) (fun σ_87 => nag (10:Int32) (nag (2048:Int32) (alm σ_87 (10:Int32).toNatClampNeg (2048:Int32).toNatClampNeg (vl σ_87.2.2.2.2.1 (fun a_91 => vl (cl_nwm σ_87 (10:Int32).toNatClampNeg (2048:Int32).toNatClampNeg) (fun σ_92 => vl (cl_wr σ_92 a 5 (some a_91)) (fun σ_102 => nag (10:Int32) (al σ_102 (10:Int32).toNatClampNeg (vl σ_102.2.2.2.2.1 (fun a_106 => vl (cl_nw σ_102 1 (10:Int32).toNatClampNeg (10:Int32).toNatClampNeg) (fun σ_107 => vl (cl_wr σ_107 a 6 (some a_106)) (fun σ_116 => al σ_116 11 (vl σ_116.2.2.2.2.1 (fun a_120 => vl (cl_nw σ_116 126 0 11) (fun σ_121 => sealed σ_121 a_120 10 (vl (cl_seal σ_121 a_120 10) (fun σ_130 => bd1 (fc_X10_init a_120 σ_130) (fun σ_135 => vl (cl_wr σ_135 a 7 (some a_120)) (fun σ_140 => al σ_140 6 (vl σ_140.2.2.2.2.1 (fun a_144 => vl (cl_nw σ_140 124 0 6) (fun σ_145 => vl (σ_145.2.2.1 a 7) (fun r_155 => bd1 (fc_X8_init a_144 r_155 (600:Int32) (2048:Int32) (1:Int32) σ_145) (fun σ_158 => sealed σ_158 a_144 8 (vl (cl_seal σ_158 a_144 8) (fun σ_163 => vl (cl_wr σ_163 a 8 (some a_144)) (fun σ_168 => al σ_168 3 (vl σ_168.2.2.2.2.1 (fun a_172 => vl (cl_nw σ_168 119 0 3) (fun σ_173 => vl (σ_173.2.2.1 a 7) (fun r_183 => nn r_183 (fun a_186 => vl (σ_173.2.2.1 a_186 4) (fun r_190 => bd1 (fc_X3_init a_172 r_190 σ_173) (fun σ_193 => sealed σ_193 a_172 3 (vl (cl_seal σ_193 a_172 3) (fun σ_198 => vl (cl_wr σ_198 a 9 (some a_172)) (fun σ_203 => al σ_203 3 (vl σ_203.2.2.2.2.1 (fun a_207 => vl (cl_nw σ_203 119 0 3) (fun σ_208 => vl (σ_208.2.2.1 a 7) (fun r_218 => nn r_218 (fun a_221 => vl (σ_208.2.2.1 a_221 4) (fun r_225 => bd1 (fc_X3_init a_207 r_225 σ_208) (fun σ_228 => sealed σ_228 a_207 3 (vl (cl_seal σ_228 a_207 3) (fun σ_233 => vl (cl_wr σ_233 a 10 (some a_207)) (fun σ_238 => al σ_238 20 (vl σ_238.2.2.2.2.1 (fun a_242 => vl (cl_nw σ_238 121 0 20) (fun σ_243 => vl (σ_243.2.2.1 a 7) (fun r_253 => vl (σ_243.2.2.1 a 9) (fun r_257 => bd1 (fc_X5_init a_242 r_253 r_257 (1:Int32) σ_243) (fun σ_260 => sealed σ_260 a_242 5 (vl (cl_seal σ_260 a_242 5) (fun σ_265 => vl (cl_wr σ_265 a 11 (some a_242)) (fun σ_270 => al σ_270 20 (vl σ_270.2.2.2.2.1 (fun a_274 => vl (cl_nw σ_270 121 0 20) (fun σ_275 => vl (σ_275.2.2.1 a 7) (fun r_285 => al σ_275 3 (vl σ_275.2.2.2.2.1 (fun a_288 => vl (cl_nw σ_275 119 0 3) (fun σ_289 => vl (σ_289.2.2.1 a 7) (fun r_299 => nn r_299 (fun a_302 => vl (σ_289.2.2.1 a_302 4) (fun r_306 => bd1 (fc_X3_init a_288 r_306 σ_289) (fun σ_309 => sealed σ_309 a_288 3 (vl (cl_seal σ_309 a_288 3) (fun σ_314 => bd1 (fc_X5_init a_274 r_285 (some a_288) (0:Int32) σ_314) (fun σ_319 => sealed σ_319 a_274 5 (vl (cl_seal σ_319 a_274 5) (fun σ_324 => vl (cl_wr σ_324 a 12 (some a_274)) (fun σ_329 => al σ_329 16 (vl σ_329.2.2.2.2.1 (fun a_333 => vl (cl_nw σ_329 117 0 16) (fun σ_334 => bd1 (fc_X1_init a_333 σ_334) (fun σ_343 => sealed σ_343 a_333 1 (vl (cl_seal σ_343 a_333 1) (fun σ_348 => vl (cl_wr σ_348 a 13 (some a_333)) (fun σ_353 => some σ_353))))))))))))))))))))))))))))))))))))))))))))))))))))))))))))))))))))))))))))))))))))))))))))))))))))))))))
set_option maxHeartbeats 4000000 in
theorem wc_X11_init_0 (C : cl_C D p s m args meth c cX11_init 1 none RX11) (hn9 : meth.name = "<init>") {a : Nat} {σ0 σ σ' : cl_S} {T : Nat → Nat × Nat} {H : Heap} {locs : List Loc} {ls : Array Slot} {cells slots : Nat} (h : bc_X11_init_0 a σ = some σ') (G : cl_G true D c0 ({ frames := 6, cells := σ0.2.2.2.2.2.1, slots := σ0.2.2.2.2.2.2, locals := 129 }) s σ0.2.2.2.1 T σ H locs cells slots) (ha : (T a).1 = 127) (hl : lv_has ls 1 [(0, .ref (c0 + a))]) : W p l e ({ frames := 6, cells := σ0.2.2.2.2.2.1, slots := σ0.2.2.2.2.2.2, locals := 129 }) s m args below meth c H locs cells slots (MQ below (cl_Q true D c0 none cl_no σ0 σ') args s (σ0.2.2.2.2.2.1 - σ'.2.2.2.2.2.1) (σ0.2.2.2.2.2.2 - σ'.2.2.2.2.2.2) (cl_A c0 σ0.2.2.2.1 s.heap.size)) (F0 m 0 ls []) := by
  unfold bc_X11_init_0 at h
  refine lv_aload_n C.1 C.2.1 dX11_init_0 rfl (lv_at hl 0 rfl) ?_
  refine W.objInit (rest := []) C.1 C.2.1 C.2.2.2.1 (C.2.2.2.2.1 _ oi_RX11_1) (C.2.2.2.2.1 _ oi_i) (C.2.2.2.2.1 _ oi_c) rfl (by rw [C.2.2.1]; exact hl.1) rfl dX11_init_1 (Nat.le_of_ble_eq_true rfl) (Nat.le_of_ble_eq_true rfl) ?_
  refine W.eq (g2 := F0 m 4 ls []) rfl ?_
  refine lv_aload_n C.1 C.2.1 dX11_init_4 rfl (lv_at hl 0 rfl) ?_
  obtain ⟨hal, h_6⟩ := al_some h
  refine cl_new (ci := 4) C G rfl rfl inX4 tyX4 tyX4_ok (by intro k hk; exact nd_4 k hk) nw_RX11_7 ni_4 nz_4 hal dX11_init_5 (fun T_5 H cells slots z_4 t_3 hu G_7 => ?_)
  have ha := hu.kind ha (by decide)
  refine cl_nmA h_6 z_4 t_3 (fun a_1 z_4 t_3 h_8 => ?_)
  refine cl_nm G_7 h_8 (fun σ_2 G_9 h_10 => ?_)
  refine lv_dup C.1 C.2.1 dX11_init_8 rfl ?_
  obtain ⟨σ_11, hq, h_12⟩ := bd1_some h_10
  refine cl_callIN (rest := [.ref (c0 + a_1), .ref (c0 + a)]) C G_9 cw_RX11_9 (C.2.2.2.2.2.1.2.2.2.1 _ (List.mem_of_getElem? (i := 0) rfl)) [] _ (kc_X4_init l D c0 (by rw [G_9.1]; exact t_3) hq) (Nat.le_of_ble_eq_true rfl) (Nat.le_of_ble_eq_true rfl) rfl rfl hl.1 (Nat.le_of_ble_eq_true rfl) dX11_init_9 (fun T_13 H locs cells slots t_14 hu G_15 => ?_)
  have ha := hu.kind ha (by decide)
  have t_3 := hu.kind t_3 (by decide)
  refine W.eq (g2 := F0 m 12 ls [.ref (c0 + a_1), .ref (c0 + a)]) rfl ?_
  refine cl_sealrow (ci := 4) G_15 (by decide) t_3 z_4 h_12 (fun σ_16 T_17 hs t_18 G_19 h_20 => ?_)
  have ha := cl_upS hs ha (by decide)
  have t_18 : (T_17 a_1).1 = 20 := by rw [t_18]
  refine rp_11_10 (x := (some a_1)) C hn9 G_19 ha (cl_RTs t_18) dX11_init_12 (fun H locs G_22 => ?_)
  refine cl_nm G_22 h_20 (fun σ_21 G_23 h_24 => ?_)
  refine lv_aload_n C.1 C.2.1 dX11_init_15 rfl (lv_at hl 0 rfl) ?_
  obtain ⟨hal, h_30⟩ := al_some h_24
  refine cl_new (ci := 0) C G_23 rfl rfl inX0 tyX0 tyX0_ok (by intro k hk; exact nd_0 k hk) nw_RX11_16 ni_0 nz_0 hal dX11_init_16 (fun T_29 H cells slots z_28 t_27 hu G_31 => ?_)
  have ha := hu.kind ha (by decide)
  refine cl_nmA h_30 z_28 t_27 (fun a_25 z_28 t_27 h_32 => ?_)
  refine cl_nm G_31 h_32 (fun σ_26 G_33 h_34 => ?_)
  refine lv_dup C.1 C.2.1 dX11_init_19 rfl ?_
  refine lv_aload_n C.1 C.2.1 dX11_init_20 rfl (lv_at hl 0 rfl) ?_
  refine rg_11_10 C G_33 ha dX11_init_21 (fun t_35 => ?_)
  refine vt_r (K := 20) t_35 h_34 (fun r_36 t_37 h_38 => ?_)
  obtain ⟨σ_39, hq, h_40⟩ := bd1_some h_38
  refine cl_callI (rest := [.ref (c0 + a_25), .ref (c0 + a)]) C G_33 cw_RX11_18 [cl_rf c0 r_36] _ (kc_X0_init l D c0 (by rw [G_33.1]; exact t_27) hq (by rw [G_33.1]; exact t_37)) (Nat.le_of_ble_eq_true rfl) (Nat.le_of_ble_eq_true rfl) rfl rfl hl.1 (Nat.le_of_ble_eq_true rfl) dX11_init_24 (fun T_41 H locs cells slots t_42 hu G_43 => ?_)
  have ha := hu.kind ha (by decide)
  have t_27 := hu.kind t_27 (by decide)
  refine W.eq (g2 := F0 m 27 ls [.ref (c0 + a_25), .ref (c0 + a)]) rfl ?_
  refine cl_sealrow (ci := 0) G_43 (by decide) t_27 z_28 h_40 (fun σ_44 T_45 hs t_46 G_47 h_48 => ?_)
  have ha := cl_upS hs ha (by decide)
  have t_46 : (T_45 a_25).1 = 16 := by rw [t_46]
  refine rp_11_21 (x := (some a_25)) C hn9 G_47 ha (cl_RTs t_46) dX11_init_27 (fun H locs G_50 => ?_)
  refine cl_nm G_50 h_48 (fun σ_49 G_51 h_52 => ?_)
  refine lv_aload_n C.1 C.2.1 dX11_init_30 rfl (lv_at hl 0 rfl) ?_
  obtain ⟨hal, h_58⟩ := al_some h_52
  refine cl_new (ci := 7) C G_51 rfl rfl inX7 tyX7 tyX7_ok (by intro k hk; exact nd_7 k hk) nw_RX11_25 ni_7 nz_7 hal dX11_init_31 (fun T_57 H cells slots z_56 t_55 hu G_59 => ?_)
  have ha := hu.kind ha (by decide)
  refine cl_nmA h_58 z_56 t_55 (fun a_53 z_56 t_55 h_60 => ?_)
  refine cl_nm G_59 h_60 (fun σ_54 G_61 h_62 => ?_)
  refine lv_dup C.1 C.2.1 dX11_init_34 rfl ?_
  obtain ⟨σ_63, hq, h_64⟩ := bd1_some h_62
  refine cl_callIN (rest := [.ref (c0 + a_53), .ref (c0 + a)]) C G_61 cw_RX11_27 (C.2.2.2.2.2.1.2.2.2.1 _ (List.mem_of_getElem? (i := 1) rfl)) [] _ (kc_X7_init l D c0 (by rw [G_61.1]; exact t_55) hq) (Nat.le_of_ble_eq_true rfl) (Nat.le_of_ble_eq_true rfl) rfl rfl hl.1 (Nat.le_of_ble_eq_true rfl) dX11_init_35 (fun T_65 H locs cells slots t_66 hu G_67 => ?_)
  have ha := hu.kind ha (by decide)
  have t_55 := hu.kind t_55 (by decide)
  refine W.eq (g2 := F0 m 38 ls [.ref (c0 + a_53), .ref (c0 + a)]) rfl ?_
  refine cl_sealrow (ci := 7) G_67 (by decide) t_55 z_56 h_64 (fun σ_68 T_69 hs t_70 G_71 h_72 => ?_)
  have ha := cl_upS hs ha (by decide)
  have t_70 : (T_69 a_53).1 = 23 := by rw [t_70]
  refine rp_11_28 (x := (some a_53)) C hn9 G_71 ha (cl_RTs t_70) dX11_init_38 (fun H locs G_74 => ?_)
  refine cl_nm G_74 h_72 (fun σ_73 G_75 h_76 => ?_)
  refine lv_aload_n C.1 C.2.1 dX11_init_41 rfl (lv_at hl 0 rfl) ?_
  refine lv_sipush (v := (2048:Int32)) C.1 C.2.1 dX11_init_42 (by decide) ?_
  obtain ⟨hng, h_81⟩ := nag_some h_76
  obtain ⟨hal, h_82⟩ := al_some h_81
  refine cl_newa (t := 1) C G_75 (by decide) (by decide) .int rfl aw_1 hng.1 rfl (cl_bytes hng.2 (by decide) (by decide)) hal dX11_init_45 (fun T_80 H cells slots t_79 hu G_83 => ?_)
  have ha := hu.kind ha (by decide)
  refine cl_nmB h_82 t_79 (fun a_77 t_79 h_84 => ?_)
  refine cl_nm G_83 h_84 (fun σ_78 G_85 h_86 => ?_)
  refine rp_11_32 (x := (some a_77)) C hn9 G_85 ha (cl_RTs (by rw [t_79])) dX11_init_47 (fun H locs G_88 => ?_)
  refine cl_nm G_88 h_86 (fun σ_87 G_89 h_90 => ?_)
  refine lv_aload_n C.1 C.2.1 dX11_init_50 rfl (lv_at hl 0 rfl) ?_
  refine lv_bipush (v := (10:Int32)) C.1 C.2.1 dX11_init_51 (by decide) ?_
  refine lv_sipush (v := (2048:Int32)) C.1 C.2.1 dX11_init_53 (by decide) ?_
  obtain ⟨hng, h_95⟩ := nag_some h_90
  obtain ⟨hnk, h_96⟩ := nag_some h_95
  obtain ⟨hal, h_97⟩ := alm_some h_96
  refine cl_mna C G_89 cl_RX11_36 aw_1 hng.1 hnk.1 rfl rfl hng.2 hnk.2 hal dX11_init_56 (fun T_94 H cells slots t_93 hu G_98 => ?_)
  have ha := hu.kind ha (by decide)
  refine cl_nmB h_97 t_93 (fun a_91 t_93 h_99 => ?_)
  refine cl_nm G_98 h_99 (fun σ_92 G_100 h_101 => ?_)
  refine rp_11_38 (x := (some a_91)) C hn9 G_100 ha (cl_RTs (by rw [t_93])) dX11_init_60 (fun H locs G_103 => ?_)
  refine cl_nm G_103 h_101 (fun σ_102 G_104 h_105 => ?_)
  refine lv_aload_n C.1 C.2.1 dX11_init_63 rfl (lv_at hl 0 rfl) ?_
  refine lv_bipush (v := (10:Int32)) C.1 C.2.1 dX11_init_64 (by decide) ?_
  obtain ⟨hng, h_110⟩ := nag_some h_105
  obtain ⟨hal, h_111⟩ := al_some h_110
  refine cl_newa (t := 1) C G_104 (by decide) (by decide) .int rfl aw_1 hng.1 rfl (cl_bytes hng.2 (by decide) (by decide)) hal dX11_init_66 (fun T_109 H cells slots t_108 hu G_112 => ?_)
  have ha := hu.kind ha (by decide)
  refine cl_nmB h_111 t_108 (fun a_106 t_108 h_113 => ?_)
  refine cl_nm G_112 h_113 (fun σ_107 G_114 h_115 => ?_)
  refine rp_11_41 (x := (some a_106)) C hn9 G_114 ha (cl_RTs (by rw [t_108])) dX11_init_68 (fun H locs G_117 => ?_)
  refine cl_nm G_117 h_115 (fun σ_116 G_118 h_119 => ?_)
  refine lv_aload_n C.1 C.2.1 dX11_init_71 rfl (lv_at hl 0 rfl) ?_
  obtain ⟨hal, h_125⟩ := al_some h_119
  refine cl_new (ci := 10) C G_118 rfl rfl inX10 tyX10 tyX10_ok (by intro k hk; exact nd_10 k hk) nw_RX11_44 ni_10 nz_10 hal dX11_init_72 (fun T_124 H cells slots z_123 t_122 hu G_126 => ?_)
  have ha := hu.kind ha (by decide)
  refine cl_nmA h_125 z_123 t_122 (fun a_120 z_123 t_122 h_127 => ?_)
  refine cl_nm G_126 h_127 (fun σ_121 G_128 h_129 => ?_)
  refine cl_sealrow (ci := 10) G_128 (by decide) t_122 z_123 h_129 (fun σ_130 T_131 hs t_132 G_133 h_134 => ?_)
  have ha := cl_upS hs ha (by decide)
  have t_132 : (T_131 a_120).1 = 26 := by rw [t_132]
  refine lv_dup C.1 C.2.1 dX11_init_75 rfl ?_
  obtain ⟨σ_135, hq, h_136⟩ := bd1_some h_134
  refine cl_callI (rest := [.ref (c0 + a_120), .ref (c0 + a)]) C G_133 cw_RX11_46 [] _ (kc_X10_init l D c0 (by rw [G_133.1]; exact t_132) hq) (Nat.le_of_ble_eq_true rfl) (Nat.le_of_ble_eq_true rfl) rfl rfl hl.1 (Nat.le_of_ble_eq_true rfl) dX11_init_76 (fun T_137 H locs cells slots t_138 hu G_139 => ?_)
  have ha := hu.kind ha (by decide)
  have t_132 := hu.kind t_132 (by decide)
  refine W.eq (g2 := F0 m 79 ls [.ref (c0 + a_120), .ref (c0 + a)]) rfl ?_
  refine rp_11_47 (x := (some a_120)) C hn9 G_139 ha (cl_RTs t_132) dX11_init_79 (fun H locs G_141 => ?_)
  refine cl_nm G_141 h_136 (fun σ_140 G_142 h_143 => ?_)
  refine lv_aload_n C.1 C.2.1 dX11_init_82 rfl (lv_at hl 0 rfl) ?_
  obtain ⟨hal, h_149⟩ := al_some h_143
  refine cl_new (ci := 8) C G_142 rfl rfl inX8 tyX8 tyX8_ok (by intro k hk; exact nd_8 k hk) nw_RX11_51 ni_8 nz_8 hal dX11_init_83 (fun T_148 H cells slots z_147 t_146 hu G_150 => ?_)
  have ha := hu.kind ha (by decide)
  refine cl_nmA h_149 z_147 t_146 (fun a_144 z_147 t_146 h_151 => ?_)
  refine cl_nm G_150 h_151 (fun σ_145 G_152 h_153 => ?_)
  refine lv_dup C.1 C.2.1 dX11_init_86 rfl ?_
  refine lv_aload_n C.1 C.2.1 dX11_init_87 rfl (lv_at hl 0 rfl) ?_
  refine rg_11_47 C G_152 ha dX11_init_88 (fun t_154 => ?_)
  refine vt_r (K := 26) t_154 h_153 (fun r_155 t_156 h_157 => ?_)
  refine lv_sipush (v := (600:Int32)) C.1 C.2.1 dX11_init_91 (by decide) ?_
  refine lv_sipush (v := (2048:Int32)) C.1 C.2.1 dX11_init_94 (by decide) ?_
  refine lv_iconst (v := (1:Int32)) C.1 C.2.1 dX11_init_97 (by decide) ?_
  obtain ⟨σ_158, hq, h_159⟩ := bd1_some h_157
  refine cl_callI (rest := [.ref (c0 + a_144), .ref (c0 + a)]) C G_152 cw_RX11_53 [cl_rf c0 r_155, .int (600:Int32), .int (2048:Int32), .int (1:Int32)] _ (kc_X8_init l D c0 (by rw [G_152.1]; exact t_146) hq (by rw [G_152.1]; exact t_156)) (Nat.le_of_ble_eq_true rfl) (Nat.le_of_ble_eq_true rfl) rfl rfl hl.1 (Nat.le_of_ble_eq_true rfl) dX11_init_98 (fun T_160 H locs cells slots t_161 hu G_162 => ?_)
  have ha := hu.kind ha (by decide)
  have t_146 := hu.kind t_146 (by decide)
  refine W.eq (g2 := F0 m 101 ls [.ref (c0 + a_144), .ref (c0 + a)]) rfl ?_
  refine cl_sealrow (ci := 8) G_162 (by decide) t_146 z_147 h_159 (fun σ_163 T_164 hs t_165 G_166 h_167 => ?_)
  have ha := cl_upS hs ha (by decide)
  have t_165 : (T_164 a_144).1 = 24 := by rw [t_165]
  refine rp_11_56 (x := (some a_144)) C hn9 G_166 ha (cl_RTs t_165) dX11_init_101 (fun H locs G_169 => ?_)
  refine cl_nm G_169 h_167 (fun σ_168 G_170 h_171 => ?_)
  refine lv_aload_n C.1 C.2.1 dX11_init_104 rfl (lv_at hl 0 rfl) ?_
  obtain ⟨hal, h_177⟩ := al_some h_171
  refine cl_new (ci := 3) C G_170 rfl rfl inX3 tyX3 tyX3_ok (by intro k hk; exact nd_3 k hk) nw_RX11_60 ni_3 nz_3 hal dX11_init_105 (fun T_176 H cells slots z_175 t_174 hu G_178 => ?_)
  have ha := hu.kind ha (by decide)
  refine cl_nmA h_177 z_175 t_174 (fun a_172 z_175 t_174 h_179 => ?_)
  refine cl_nm G_178 h_179 (fun σ_173 G_180 h_181 => ?_)
  refine lv_dup C.1 C.2.1 dX11_init_108 rfl ?_
  refine lv_aload_n C.1 C.2.1 dX11_init_109 rfl (lv_at hl 0 rfl) ?_
  refine rg_11_47 C G_180 ha dX11_init_110 (fun t_182 => ?_)
  refine vt_r (K := 26) t_182 h_181 (fun r_183 t_184 h_185 => ?_)
  obtain ⟨a_186, rfl, h_188⟩ := nn_some h_185
  have t_187 := t_184 _ rfl
  refine cg_11_62 C G_180 t_187 dX11_init_113 (fun t_189 => ?_)
  refine vt_r (K := 25) t_189 h_188 (fun r_190 t_191 h_192 => ?_)
  obtain ⟨σ_193, hq, h_194⟩ := bd1_some h_192
  refine cl_callI (rest := [.ref (c0 + a_172), .ref (c0 + a)]) C G_180 cw_RX11_66 [cl_rf c0 r_190] _ (kc_X3_init l D c0 (by rw [G_180.1]; exact t_174) hq (by rw [G_180.1]; exact t_191)) (Nat.le_of_ble_eq_true rfl) (Nat.le_of_ble_eq_true rfl) rfl rfl hl.1 (Nat.le_of_ble_eq_true rfl) dX11_init_116 (fun T_195 H locs cells slots t_196 hu G_197 => ?_)
  have ha := hu.kind ha (by decide)
  have t_174 := hu.kind t_174 (by decide)
  refine W.eq (g2 := F0 m 119 ls [.ref (c0 + a_172), .ref (c0 + a)]) rfl ?_
  refine cl_sealrow (ci := 3) G_197 (by decide) t_174 z_175 h_194 (fun σ_198 T_199 hs t_200 G_201 h_202 => ?_)
  have ha := cl_upS hs ha (by decide)
  have t_200 : (T_199 a_172).1 = 19 := by rw [t_200]
  refine rp_11_69 (x := (some a_172)) C hn9 G_201 ha (cl_RTs t_200) dX11_init_119 (fun H locs G_204 => ?_)
  refine cl_nm G_204 h_202 (fun σ_203 G_205 h_206 => ?_)
  refine lv_aload_n C.1 C.2.1 dX11_init_122 rfl (lv_at hl 0 rfl) ?_
  obtain ⟨hal, h_212⟩ := al_some h_206
  refine cl_new (ci := 3) C G_205 rfl rfl inX3 tyX3 tyX3_ok (by intro k hk; exact nd_3 k hk) nw_RX11_60 ni_3 nz_3 hal dX11_init_123 (fun T_211 H cells slots z_210 t_209 hu G_213 => ?_)
  have ha := hu.kind ha (by decide)
  refine cl_nmA h_212 z_210 t_209 (fun a_207 z_210 t_209 h_214 => ?_)
  refine cl_nm G_213 h_214 (fun σ_208 G_215 h_216 => ?_)
  refine lv_dup C.1 C.2.1 dX11_init_126 rfl ?_
  refine lv_aload_n C.1 C.2.1 dX11_init_127 rfl (lv_at hl 0 rfl) ?_
  refine rg_11_47 C G_215 ha dX11_init_128 (fun t_217 => ?_)
  refine vt_r (K := 26) t_217 h_216 (fun r_218 t_219 h_220 => ?_)
  obtain ⟨a_221, rfl, h_223⟩ := nn_some h_220
  have t_222 := t_219 _ rfl
  refine cg_11_62 C G_215 t_222 dX11_init_131 (fun t_224 => ?_)
  refine vt_r (K := 25) t_224 h_223 (fun r_225 t_226 h_227 => ?_)
  obtain ⟨σ_228, hq, h_229⟩ := bd1_some h_227
  refine cl_callI (rest := [.ref (c0 + a_207), .ref (c0 + a)]) C G_215 cw_RX11_66 [cl_rf c0 r_225] _ (kc_X3_init l D c0 (by rw [G_215.1]; exact t_209) hq (by rw [G_215.1]; exact t_226)) (Nat.le_of_ble_eq_true rfl) (Nat.le_of_ble_eq_true rfl) rfl rfl hl.1 (Nat.le_of_ble_eq_true rfl) dX11_init_134 (fun T_230 H locs cells slots t_231 hu G_232 => ?_)
  have ha := hu.kind ha (by decide)
  have t_209 := hu.kind t_209 (by decide)
  refine W.eq (g2 := F0 m 137 ls [.ref (c0 + a_207), .ref (c0 + a)]) rfl ?_
  refine cl_sealrow (ci := 3) G_232 (by decide) t_209 z_210 h_229 (fun σ_233 T_234 hs t_235 G_236 h_237 => ?_)
  have ha := cl_upS hs ha (by decide)
  have t_235 : (T_234 a_207).1 = 19 := by rw [t_235]
  refine rp_11_73 (x := (some a_207)) C hn9 G_236 ha (cl_RTs t_235) dX11_init_137 (fun H locs G_239 => ?_)
  refine cl_nm G_239 h_237 (fun σ_238 G_240 h_241 => ?_)
  refine lv_aload_n C.1 C.2.1 dX11_init_140 rfl (lv_at hl 0 rfl) ?_
  obtain ⟨hal, h_247⟩ := al_some h_241
  refine cl_new (ci := 5) C G_240 rfl rfl inX5 tyX5 tyX5_ok (by intro k hk; exact nd_5 k hk) nw_RX11_76 ni_5 nz_5 hal dX11_init_141 (fun T_246 H cells slots z_245 t_244 hu G_248 => ?_)
  have ha := hu.kind ha (by decide)
  refine cl_nmA h_247 z_245 t_244 (fun a_242 z_245 t_244 h_249 => ?_)
  refine cl_nm G_248 h_249 (fun σ_243 G_250 h_251 => ?_)
  refine lv_dup C.1 C.2.1 dX11_init_144 rfl ?_
  refine lv_aload_n C.1 C.2.1 dX11_init_145 rfl (lv_at hl 0 rfl) ?_
  refine rg_11_47 C G_250 ha dX11_init_146 (fun t_252 => ?_)
  refine vt_r (K := 26) t_252 h_251 (fun r_253 t_254 h_255 => ?_)
  refine lv_aload_n C.1 C.2.1 dX11_init_149 rfl (lv_at hl 0 rfl) ?_
  refine rg_11_69 C G_250 ha dX11_init_150 (fun t_256 => ?_)
  refine vt_r (K := 19) t_256 h_255 (fun r_257 t_258 h_259 => ?_)
  refine lv_iconst (v := (1:Int32)) C.1 C.2.1 dX11_init_153 (by decide) ?_
  obtain ⟨σ_260, hq, h_261⟩ := bd1_some h_259
  refine cl_callI (rest := [.ref (c0 + a_242), .ref (c0 + a)]) C G_250 cw_RX11_78 [cl_rf c0 r_253, cl_rf c0 r_257, .int (1:Int32)] _ (kc_X5_init l D c0 (by rw [G_250.1]; exact t_244) hq (by rw [G_250.1]; exact t_254) (by rw [G_250.1]; exact t_258)) (Nat.le_of_ble_eq_true rfl) (Nat.le_of_ble_eq_true rfl) rfl rfl hl.1 (Nat.le_of_ble_eq_true rfl) dX11_init_154 (fun T_262 H locs cells slots t_263 hu G_264 => ?_)
  have ha := hu.kind ha (by decide)
  have t_244 := hu.kind t_244 (by decide)
  refine W.eq (g2 := F0 m 157 ls [.ref (c0 + a_242), .ref (c0 + a)]) rfl ?_
  refine cl_sealrow (ci := 5) G_264 (by decide) t_244 z_245 h_261 (fun σ_265 T_266 hs t_267 G_268 h_269 => ?_)
  have ha := cl_upS hs ha (by decide)
  have t_267 : (T_266 a_242).1 = 21 := by rw [t_267]
  refine rp_11_81 (x := (some a_242)) C hn9 G_268 ha (cl_RTs t_267) dX11_init_157 (fun H locs G_271 => ?_)
  refine cl_nm G_271 h_269 (fun σ_270 G_272 h_273 => ?_)
  refine lv_aload_n C.1 C.2.1 dX11_init_160 rfl (lv_at hl 0 rfl) ?_
  obtain ⟨hal, h_279⟩ := al_some h_273
  refine cl_new (ci := 5) C G_272 rfl rfl inX5 tyX5 tyX5_ok (by intro k hk; exact nd_5 k hk) nw_RX11_76 ni_5 nz_5 hal dX11_init_161 (fun T_278 H cells slots z_277 t_276 hu G_280 => ?_)
  have ha := hu.kind ha (by decide)
  refine cl_nmA h_279 z_277 t_276 (fun a_274 z_277 t_276 h_281 => ?_)
  refine cl_nm G_280 h_281 (fun σ_275 G_282 h_283 => ?_)
  refine lv_dup C.1 C.2.1 dX11_init_164 rfl ?_
  refine lv_aload_n C.1 C.2.1 dX11_init_165 rfl (lv_at hl 0 rfl) ?_
  refine rg_11_47 C G_282 ha dX11_init_166 (fun t_284 => ?_)
  refine vt_r (K := 26) t_284 h_283 (fun r_285 t_286 h_287 => ?_)
  obtain ⟨hal, h_293⟩ := al_some h_287
  refine cl_new (ci := 3) C G_282 rfl rfl inX3 tyX3 tyX3_ok (by intro k hk; exact nd_3 k hk) nw_RX11_60 ni_3 nz_3 hal dX11_init_169 (fun T_292 H cells slots z_291 t_290 hu G_294 => ?_)
  have ha := hu.kind ha (by decide)
  have t_276 := hu.kind t_276 (by decide)
  have t_286 := t_286.up hu (by decide)
  refine cl_nmA h_293 z_291 t_290 (fun a_288 z_291 t_290 h_295 => ?_)
  refine cl_nm G_294 h_295 (fun σ_289 G_296 h_297 => ?_)
  refine lv_dup C.1 C.2.1 dX11_init_172 rfl ?_
  refine lv_aload_n C.1 C.2.1 dX11_init_173 rfl (lv_at hl 0 rfl) ?_
  refine rg_11_47 C G_296 ha dX11_init_174 (fun t_298 => ?_)
  refine vt_r (K := 26) t_298 h_297 (fun r_299 t_300 h_301 => ?_)
  obtain ⟨a_302, rfl, h_304⟩ := nn_some h_301
  have t_303 := t_300 _ rfl
  refine cg_11_62 C G_296 t_303 dX11_init_177 (fun t_305 => ?_)
  refine vt_r (K := 25) t_305 h_304 (fun r_306 t_307 h_308 => ?_)
  obtain ⟨σ_309, hq, h_310⟩ := bd1_some h_308
  refine cl_callI (rest := [.ref (c0 + a_288), cl_rf c0 r_285, .ref (c0 + a_274), .ref (c0 + a_274), .ref (c0 + a)]) C G_296 cw_RX11_66 [cl_rf c0 r_306] _ (kc_X3_init l D c0 (by rw [G_296.1]; exact t_290) hq (by rw [G_296.1]; exact t_307)) (Nat.le_of_ble_eq_true rfl) (Nat.le_of_ble_eq_true rfl) rfl rfl hl.1 (by cases r_285 <;> exact Nat.le_of_ble_eq_true rfl) dX11_init_180 (fun T_311 H locs cells slots t_312 hu G_313 => ?_)
  have ha := hu.kind ha (by decide)
  have t_276 := hu.kind t_276 (by decide)
  have t_286 := t_286.up hu (by decide)
  have t_290 := hu.kind t_290 (by decide)
  refine W.eq (g2 := F0 m 183 ls [.ref (c0 + a_288), cl_rf c0 r_285, .ref (c0 + a_274), .ref (c0 + a_274), .ref (c0 + a)]) rfl ?_
  refine cl_sealrow (ci := 3) G_313 (by decide) t_290 z_291 h_310 (fun σ_314 T_315 hs t_316 G_317 h_318 => ?_)
  have ha := cl_upS hs ha (by decide)
  have t_276 := cl_upS hs t_276 (by decide)
  have t_286 := cl_upSo hs t_286 (by decide)
  have t_316 : (T_315 a_288).1 = 19 := by rw [t_316]
  refine lv_iconst (v := (0:Int32)) C.1 C.2.1 dX11_init_183 (by decide) ?_
  obtain ⟨σ_319, hq, h_320⟩ := bd1_some h_318
  refine cl_callI (rest := [.ref (c0 + a_274), .ref (c0 + a)]) C G_317 cw_RX11_78 [cl_rf c0 r_285, .ref (c0 + a_288), .int (0:Int32)] _ (kc_X5_init l D c0 (by rw [G_317.1]; exact t_276) hq (by rw [G_317.1]; exact t_286) (by rw [G_317.1]; exact (cl_RTs t_316))) (Nat.le_of_ble_eq_true rfl) (Nat.le_of_ble_eq_true rfl) rfl rfl hl.1 (Nat.le_of_ble_eq_true rfl) dX11_init_184 (fun T_321 H locs cells slots t_322 hu G_323 => ?_)
  have ha := hu.kind ha (by decide)
  have t_276 := hu.kind t_276 (by decide)
  refine W.eq (g2 := F0 m 187 ls [.ref (c0 + a_274), .ref (c0 + a)]) rfl ?_
  refine cl_sealrow (ci := 5) G_323 (by decide) t_276 z_277 h_320 (fun σ_324 T_325 hs t_326 G_327 h_328 => ?_)
  have ha := cl_upS hs ha (by decide)
  have t_326 : (T_325 a_274).1 = 21 := by rw [t_326]
  refine rp_11_85 (x := (some a_274)) C hn9 G_327 ha (cl_RTs t_326) dX11_init_187 (fun H locs G_330 => ?_)
  refine cl_nm G_330 h_328 (fun σ_329 G_331 h_332 => ?_)
  refine lv_aload_n C.1 C.2.1 dX11_init_190 rfl (lv_at hl 0 rfl) ?_
  obtain ⟨hal, h_338⟩ := al_some h_332
  refine cl_new (ci := 1) C G_331 rfl rfl inX1 tyX1 tyX1_ok (by intro k hk; exact nd_1 k hk) nw_RX11_88 ni_1 nz_1 hal dX11_init_191 (fun T_337 H cells slots z_336 t_335 hu G_339 => ?_)
  have ha := hu.kind ha (by decide)
  refine cl_nmA h_338 z_336 t_335 (fun a_333 z_336 t_335 h_340 => ?_)
  refine cl_nm G_339 h_340 (fun σ_334 G_341 h_342 => ?_)
  refine lv_dup C.1 C.2.1 dX11_init_194 rfl ?_
  obtain ⟨σ_343, hq, h_344⟩ := bd1_some h_342
  refine cl_callIN (rest := [.ref (c0 + a_333), .ref (c0 + a)]) C G_341 cw_RX11_90 (C.2.2.2.2.2.1.2.2.2.1 _ (List.mem_of_getElem? (i := 4) rfl)) [] _ (kc_X1_init l D c0 (by rw [G_341.1]; exact t_335) hq) (Nat.le_of_ble_eq_true rfl) (Nat.le_of_ble_eq_true rfl) rfl rfl hl.1 (Nat.le_of_ble_eq_true rfl) dX11_init_195 (fun T_345 H locs cells slots t_346 hu G_347 => ?_)
  have ha := hu.kind ha (by decide)
  have t_335 := hu.kind t_335 (by decide)
  refine W.eq (g2 := F0 m 198 ls [.ref (c0 + a_333), .ref (c0 + a)]) rfl ?_
  refine cl_sealrow (ci := 1) G_347 (by decide) t_335 z_336 h_344 (fun σ_348 T_349 hs t_350 G_351 h_352 => ?_)
  have ha := cl_upS hs ha (by decide)
  have t_350 : (T_349 a_333).1 = 17 := by rw [t_350]
  refine rp_11_91 (x := (some a_333)) C hn9 G_351 ha (cl_RTs t_350) dX11_init_198 (fun H locs G_354 => ?_)
  refine cl_nm G_354 h_352 (fun σ_353 G_355 h_356 => ?_)
  exact cl_vret ⟨rfl, rfl⟩ rfl C G_355 h_356 dX11_init_201
noncomputable def fc_X11_init (a : Nat) (σ : cl_S) : Option (cl_S) := bc_X11_init_0 a σ
theorem kc_X11_init (l : Launch) (D : cl_D) (c0 : Nat) {a : Nat} {σ σ' : cl_S} (ha : (σ.2.2.2.1 a).1 = 127) (h : fc_X11_init a σ = some σ') : cl_Met true l D c0 yX11_init cX11_init 1 none 6 129 [.ref (c0 + a)] σ none cl_no σ' :=
  cl_of (by decide) (Nat.le_of_ble_eq_true rfl) (fun p e s m args below meth c ls C hn G hl => wc_X11_init_0 C hn h G ha hl)
abbrev cX11_type : ByteArray := prog_1_method_2_code
def yX11_type : MethodName := ⟨RX11, "type", "(JI)I"⟩
theorem dX11_type_0 : decode cX11_type 0 = .ok (.iload_n 3, 1) := by decide +kernel
theorem dX11_type_1 : decode cX11_type 1 = .ok (.ifCond .lt 9, 3) := by decide +kernel
theorem dX11_type_4 : decode cX11_type 4 = .ok (.iload_n 3, 1) := by decide +kernel
theorem dX11_type_5 : decode cX11_type 5 = .ok (.bipush 8, 2) := by decide +kernel
theorem dX11_type_7 : decode cX11_type 7 = .ok (.if_icmp .le 6, 3) := by decide +kernel
theorem dX11_type_10 : decode cX11_type 10 = .ok (.bipush (-2), 2) := by decide +kernel
theorem dX11_type_12 : decode cX11_type 12 = .ok (.ireturn, 1) := by decide +kernel
theorem dX11_type_13 : decode cX11_type 13 = .ok (.aload_n 0, 1) := by decide +kernel
theorem dX11_type_14 : decode cX11_type 14 = .ok (.getfield 10, 3) := by decide +kernel
theorem dX11_type_17 : decode cX11_type 17 = .ok (.lload_n 1, 1) := by decide +kernel
theorem dX11_type_18 : decode cX11_type 18 = .ok (.iload_n 3, 1) := by decide +kernel
theorem dX11_type_19 : decode cX11_type 19 = .ok (.invokevirtual 95, 3) := by decide +kernel
theorem dX11_type_22 : decode cX11_type 22 = .ok (.ireturn, 1) := by decide +kernel
theorem cc_X11_type : Cond.code yX11_type cX11_type 4 (some .int) ∈ rf_tb := rf_at 742 (by decide +kernel) (by decide +kernel)
theorem cw_RX11_95 : cl_wV RX11 RX4 yX4_addOctets cX4_addOctets 5 (some .int) 95 2 := ⟨⟨rf_at 743 (by decide +kernel) (by decide +kernel), rf_at 744 (by decide +kernel) (by decide +kernel), rf_at 745 (by decide +kernel) (by decide +kernel), cc_X4_addOctets, rf_at 2 (by decide +kernel) (by decide +kernel)⟩, ⟨by decide, by decide, by decide +kernel⟩⟩
noncomputable def bc_X11_type_0 (a : Nat) (x1 : Int64) (x3 : Int32) (σ : cl_S) : Option (Int32 × cl_S) := (if x3 < 0 then some ((-2:Int32), σ) else (if x3 ≤ (8:Int32) then bd2 (fc_X4_addOctets 1 x1 x3 σ) (fun r_3 σ_2 => some (r_3, σ_2)) else some ((-2:Int32), σ)))
set_option maxHeartbeats 4000000 in
theorem wc_X11_type_0 (C : cl_C D p s m args meth c cX11_type 4 (some .int) RX11) {r : Int32} {a : Nat} {x1 : Int64} {x3 : Int32} {σ0 σ σ' : cl_S} {T : Nat → Nat × Nat} {H : Heap} {locs : List Loc} {ls : Array Slot} {cells slots : Nat} (h : bc_X11_type_0 a x1 x3 σ = some (r, σ')) (G : cl_G true D c0 ({ frames := 1, cells := σ0.2.2.2.2.2.1, slots := σ0.2.2.2.2.2.2, locals := 24 }) s σ0.2.2.2.1 T σ H locs cells slots) (ha : (T a).1 = 27) (hl : lv_has ls 4 [(0, .ref (c0 + a)), (1, .long x1), (3, .int x3)]) : W p l e ({ frames := 1, cells := σ0.2.2.2.2.2.1, slots := σ0.2.2.2.2.2.2, locals := 24 }) s m args below meth c H locs cells slots (MQ below (cl_Q true D c0 (some (.int r)) cl_no σ0 σ') args s (σ0.2.2.2.2.2.1 - σ'.2.2.2.2.2.1) (σ0.2.2.2.2.2.2 - σ'.2.2.2.2.2.2) (cl_A c0 σ0.2.2.2.1 s.heap.size)) (F0 m 0 ls []) := by
  unfold bc_X11_type_0 at h
  refine lv_iload_n C.1 C.2.1 dX11_type_0 rfl (lv_at hl 2 rfl) ?_
  refine lv_if_lt (tgt := 10) C.1 C.2.1 dX11_type_1 (by decide) (fun hc => ?_) (fun hc => ?_)
  · rw [if_pos hc] at h
    refine lv_bipush (v := (-2:Int32)) C.1 C.2.1 dX11_type_10 (by decide) ?_
    exact cl_iret ⟨rfl, rfl⟩ rfl C G h dX11_type_12
  · rw [if_neg hc] at h
    refine lv_iload_n C.1 C.2.1 dX11_type_4 rfl (lv_at hl 2 rfl) ?_
    refine lv_bipush (v := (8:Int32)) C.1 C.2.1 dX11_type_5 (by decide) ?_
    refine lv_icmp_le (tgt := 13) C.1 C.2.1 dX11_type_7 (by decide) (fun hc => ?_) (fun hc => ?_)
    · rw [if_pos hc] at h
      refine lv_aload_n C.1 C.2.1 dX11_type_13 rfl (lv_at hl 0 rfl) ?_
      refine cg_11_10 C G ha dX11_type_14 (fun t_1 => ?_)
      have t_1 : (T 1).1 = 20 := by rw [t_1]
      refine lv_lload_n C.1 C.2.1 dX11_type_17 rfl (lv_at hl 1 rfl) ?_
      refine lv_iload_n C.1 C.2.1 dX11_type_18 rfl (lv_at hl 2 rfl) ?_
      obtain ⟨r_3, σ_2, hq, h_4⟩ := bd2_some h
      refine cl_callV (ci := 4) (rest := []) C G rfl t_1 cw_RX11_95 [.long x1, .int x3] _ (kc_X4_addOctets l D c0 (by rw [G.1]; exact t_1) hq) (Nat.le_of_ble_eq_true rfl) (Nat.le_of_ble_eq_true rfl) rfl rfl hl.1 (Nat.le_of_ble_eq_true rfl) dX11_type_19 (fun T_5 H locs cells slots t_6 hu G_7 => ?_)
      have ha := hu.kind ha (by decide)
      refine W.eq (g2 := F0 m 22 ls [.int r_3]) rfl ?_
      exact cl_iret ⟨rfl, rfl⟩ rfl C G_7 h_4 dX11_type_22
    · rw [if_neg hc] at h
      refine lv_bipush (v := (-2:Int32)) C.1 C.2.1 dX11_type_10 (by decide) ?_
      exact cl_iret ⟨rfl, rfl⟩ rfl C G h dX11_type_12
noncomputable def fc_X11_type (a : Nat) (x1 : Int64) (x3 : Int32) (σ : cl_S) : Option (Int32 × cl_S) := bc_X11_type_0 a x1 x3 σ
theorem kc_X11_type (l : Launch) (D : cl_D) (c0 : Nat) {r : Int32} {a : Nat} {x1 : Int64} {x3 : Int32} {σ σ' : cl_S} (ha : (σ.2.2.2.1 a).1 = 27) (h : fc_X11_type a x1 x3 σ = some (r, σ')) : cl_Met true l D c0 yX11_type cX11_type 4 (some .int) 1 24 [.ref (c0 + a), .long x1, .int x3] σ (some (.int r)) cl_no σ' :=
  cl_of (by decide) (Nat.le_of_ble_eq_true rfl) (fun p e s m args below meth c ls C hn G hl => wc_X11_type_0 C h G ha hl)
abbrev cX11_assemble : ByteArray := prog_1_method_3_code
def yX11_assemble : MethodName := ⟨RX11, "assemble", "()I"⟩
theorem dX11_assemble_0 : decode cX11_assemble 0 = .ok (.aload_n 0, 1) := by decide +kernel
theorem dX11_assemble_1 : decode cX11_assemble 1 = .ok (.getfield 21, 3) := by decide +kernel
theorem dX11_assemble_4 : decode cX11_assemble 4 = .ok (.invokevirtual 99, 3) := by decide +kernel
theorem dX11_assemble_7 : decode cX11_assemble 7 = .ok (.istore_n 1, 1) := by decide +kernel
theorem dX11_assemble_8 : decode cX11_assemble 8 = .ok (.iload_n 1, 1) := by decide +kernel
theorem dX11_assemble_9 : decode cX11_assemble 9 = .ok (.ifCond .eq 8, 3) := by decide +kernel
theorem dX11_assemble_12 : decode cX11_assemble 12 = .ok (.bipush (-10), 2) := by decide +kernel
theorem dX11_assemble_14 : decode cX11_assemble 14 = .ok (.iload_n 1, 1) := by decide +kernel
theorem dX11_assemble_15 : decode cX11_assemble 15 = .ok (.isub, 1) := by decide +kernel
theorem dX11_assemble_16 : decode cX11_assemble 16 = .ok (.ireturn, 1) := by decide +kernel
theorem dX11_assemble_17 : decode cX11_assemble 17 = .ok (.aload_n 0, 1) := by decide +kernel
theorem dX11_assemble_18 : decode cX11_assemble 18 = .ok (.aload_n 0, 1) := by decide +kernel
theorem dX11_assemble_19 : decode cX11_assemble 19 = .ok (.getfield 21, 3) := by decide +kernel
theorem dX11_assemble_22 : decode cX11_assemble 22 = .ok (.getfield 103, 3) := by decide +kernel
theorem dX11_assemble_25 : decode cX11_assemble 25 = .ok (.putfield 107, 3) := by decide +kernel
theorem dX11_assemble_28 : decode cX11_assemble 28 = .ok (.aload_n 0, 1) := by decide +kernel
theorem dX11_assemble_29 : decode cX11_assemble 29 = .ok (.getfield 21, 3) := by decide +kernel
theorem dX11_assemble_32 : decode cX11_assemble 32 = .ok (.getfield 110, 3) := by decide +kernel
theorem dX11_assemble_35 : decode cX11_assemble 35 = .ok (.iconst 0, 1) := by decide +kernel
theorem dX11_assemble_36 : decode cX11_assemble 36 = .ok (.aload_n 0, 1) := by decide +kernel
theorem dX11_assemble_37 : decode cX11_assemble 37 = .ok (.getfield 32, 3) := by decide +kernel
theorem dX11_assemble_40 : decode cX11_assemble 40 = .ok (.iconst 0, 1) := by decide +kernel
theorem dX11_assemble_41 : decode cX11_assemble 41 = .ok (.aload_n 0, 1) := by decide +kernel
theorem dX11_assemble_42 : decode cX11_assemble 42 = .ok (.getfield 107, 3) := by decide +kernel
theorem dX11_assemble_45 : decode cX11_assemble 45 = .ok (.invokestatic 113, 3) := by decide +kernel
theorem dX11_assemble_48 : decode cX11_assemble 48 = .ok (.aload_n 0, 1) := by decide +kernel
theorem dX11_assemble_49 : decode cX11_assemble 49 = .ok (.getfield 107, 3) := by decide +kernel
theorem dX11_assemble_52 : decode cX11_assemble 52 = .ok (.ireturn, 1) := by decide +kernel
theorem cc_X11_assemble : Cond.code yX11_assemble cX11_assemble 2 (some .int) ∈ rf_tb := rf_at 751 (by decide +kernel) (by decide +kernel)
theorem cw_RX11_99 : cl_wV RX11 RX0 yX0_translate cX0_translate 2 (some .int) 99 0 := ⟨⟨rf_at 752 (by decide +kernel) (by decide +kernel), rf_at 753 (by decide +kernel) (by decide +kernel), rf_at 754 (by decide +kernel) (by decide +kernel), cc_X0_translate, rf_at 3 (by decide +kernel) (by decide +kernel)⟩, ⟨by decide, by decide, by decide +kernel⟩⟩
theorem mw_RX11_113 : Cond.methodLink RX11 113 arraycopyName ∈ rf_tb := rf_at 889 (by decide +kernel) (by decide +kernel)
noncomputable def bc_X11_assemble_0 (a : Nat) (σ : cl_S) : Option (Int32 × cl_S) := bd2 (fc_X0_translate 6 σ) (fun r_3 σ_2 => (if r_3 = 0 then vl (cl_w σ_2 a 4 (σ_2.1 6 4)) (fun σ_10 => cpg (0:Int32) (0:Int32) (σ_10.1 a 4) 2048 2048 (vl (cl_cp σ_10 (6 + 2) 18 (0:Int32) (0:Int32) (σ_10.1 a 4)) (fun σ_17 => some ((σ_17.1 a 4), σ_17)))) else some (((-10:Int32) - r_3), σ_2)))
set_option maxHeartbeats 4000000 in
theorem wc_X11_assemble_0 (C : cl_C D p s m args meth c cX11_assemble 2 (some .int) RX11) {r : Int32} {a : Nat} {σ0 σ σ' : cl_S} {T : Nat → Nat × Nat} {H : Heap} {locs : List Loc} {ls : Array Slot} {cells slots : Nat} (h : bc_X11_assemble_0 a σ = some (r, σ')) (G : cl_G true D c0 ({ frames := 7, cells := σ0.2.2.2.2.2.1, slots := σ0.2.2.2.2.2.2, locals := 158 }) s σ0.2.2.2.1 T σ H locs cells slots) (ha : (T a).1 = 27) (hl : lv_has ls 2 [(0, .ref (c0 + a))]) : W p l e ({ frames := 7, cells := σ0.2.2.2.2.2.1, slots := σ0.2.2.2.2.2.2, locals := 158 }) s m args below meth c H locs cells slots (MQ below (cl_Q true D c0 (some (.int r)) cl_no σ0 σ') args s (σ0.2.2.2.2.2.1 - σ'.2.2.2.2.2.1) (σ0.2.2.2.2.2.2 - σ'.2.2.2.2.2.2) (cl_A c0 σ0.2.2.2.1 s.heap.size)) (F0 m 0 ls []) := by
  unfold bc_X11_assemble_0 at h
  refine lv_aload_n C.1 C.2.1 dX11_assemble_0 rfl (lv_at hl 0 rfl) ?_
  refine cg_11_21 C G ha dX11_assemble_1 (fun t_1 => ?_)
  have t_1 : (T 6).1 = 16 := by rw [t_1]
  obtain ⟨r_3, σ_2, hq, h_4⟩ := bd2_some h
  refine cl_callV (ci := 0) (rest := []) C G rfl t_1 cw_RX11_99 [] _ (kc_X0_translate l D c0 (by rw [G.1]; exact t_1) hq) (Nat.le_of_ble_eq_true rfl) (Nat.le_of_ble_eq_true rfl) rfl rfl hl.1 (Nat.le_of_ble_eq_true rfl) dX11_assemble_4 (fun T_5 H locs cells slots t_6 hu G_7 => ?_)
  have ha := hu.kind ha (by decide)
  refine W.eq (g2 := F0 m 7 ls [.int r_3]) rfl ?_
  refine lv_istore_n (lv' := [(1, .int r_3), (0, .ref (c0 + a))]) C.1 C.2.1 dX11_assemble_7 rfl hl (by decide) rfl (fun ls hl_8 => ?_)
  refine lv_iload_n C.1 C.2.1 dX11_assemble_8 rfl (lv_at hl_8 0 rfl) ?_
  refine lv_if_eq (tgt := 17) C.1 C.2.1 dX11_assemble_9 (by decide) (fun hc => ?_) (fun hc => ?_)
  · rw [if_pos hc] at h_4
    refine lv_aload_n C.1 C.2.1 dX11_assemble_17 rfl (lv_at hl_8 1 rfl) ?_
    refine lv_aload_n C.1 C.2.1 dX11_assemble_18 rfl (lv_at hl_8 1 rfl) ?_
    refine cg_11_21 C G_7 ha dX11_assemble_19 (fun t_9 => ?_)
    have t_9 : (T_5 6).1 = 16 := by rw [t_9]
    refine cg_11_103 C G_7 t_9 dX11_assemble_22 ?_
    refine cp_11_107 C G_7 ha dX11_assemble_25 (fun H locs G_11 => ?_)
    refine cl_nm G_11 h_4 (fun σ_10 G_12 h_13 => ?_)
    refine lv_aload_n C.1 C.2.1 dX11_assemble_28 rfl (lv_at hl_8 1 rfl) ?_
    refine cg_11_21 C G_12 ha dX11_assemble_29 (fun t_14 => ?_)
    have t_14 : (T_5 6).1 = 16 := by rw [t_14]
    refine cg_11_110 C G_12 t_14 dX11_assemble_32 (fun t_15 => ?_)
    refine lv_iconst (v := (0:Int32)) C.1 C.2.1 dX11_assemble_35 (by decide) ?_
    refine lv_aload_n C.1 C.2.1 dX11_assemble_36 rfl (lv_at hl_8 1 rfl) ?_
    refine cg_11_32 C G_12 ha dX11_assemble_37 (fun t_16 => ?_)
    refine lv_iconst (v := (0:Int32)) C.1 C.2.1 dX11_assemble_40 (by decide) ?_
    refine lv_aload_n C.1 C.2.1 dX11_assemble_41 rfl (lv_at hl_8 1 rfl) ?_
    refine cg_11_107 C G_12 ha dX11_assemble_42 ?_
    obtain ⟨hcp, h_18⟩ := cpg_some h_13
    refine cl_copy C G_12 t_15 t_16 hcp (C.2.2.2.2.1 _ mw_RX11_113) (Nat.le_of_ble_eq_true rfl) (show 0 + 18 ≤ 158 from by decide) hl_8.1 dX11_assemble_45 (fun H locs G_19 => ?_)
    refine cl_nm G_19 h_18 (fun σ_17 G_20 h_21 => ?_)
    refine lv_aload_n C.1 C.2.1 dX11_assemble_48 rfl (lv_at hl_8 1 rfl) ?_
    refine cg_11_107 C G_20 ha dX11_assemble_49 ?_
    exact cl_iret ⟨rfl, rfl⟩ rfl C G_20 h_21 dX11_assemble_52
  · rw [if_neg hc] at h_4
    refine lv_bipush (v := (-10:Int32)) C.1 C.2.1 dX11_assemble_12 (by decide) ?_
    refine lv_iload_n C.1 C.2.1 dX11_assemble_14 rfl (lv_at hl_8 0 rfl) ?_
    refine lv_isub C.1 C.2.1 dX11_assemble_15 ?_
    exact cl_iret ⟨rfl, rfl⟩ rfl C G_7 h_4 dX11_assemble_16
noncomputable def fc_X11_assemble (a : Nat) (σ : cl_S) : Option (Int32 × cl_S) := bc_X11_assemble_0 a σ
theorem kc_X11_assemble (l : Launch) (D : cl_D) (c0 : Nat) {r : Int32} {a : Nat} {σ σ' : cl_S} (ha : (σ.2.2.2.1 a).1 = 27) (h : fc_X11_assemble a σ = some (r, σ')) : cl_Met true l D c0 yX11_assemble cX11_assemble 2 (some .int) 7 158 [.ref (c0 + a)] σ (some (.int r)) cl_no σ' :=
  cl_of (by decide) (Nat.le_of_ble_eq_true rfl) (fun p e s m args below meth c ls C hn G hl => wc_X11_assemble_0 C h G ha hl)
abbrev cX11_place : ByteArray := prog_1_method_4_code
def yX11_place : MethodName := ⟨RX11, "place", "()I"⟩
theorem dX11_place_0 : decode cX11_place 0 = .ok (.aload_n 0, 1) := by decide +kernel
theorem dX11_place_1 : decode cX11_place 1 = .ok (.getfield 21, 3) := by decide +kernel
theorem dX11_place_4 : decode cX11_place 4 = .ok (.getfield 119, 3) := by decide +kernel
theorem dX11_place_7 : decode cX11_place 7 = .ok (.ireturn, 1) := by decide +kernel
theorem cc_X11_place : Cond.code yX11_place cX11_place 1 (some .int) ∈ rf_tb := rf_at 895 (by decide +kernel) (by decide +kernel)
noncomputable def bc_X11_place_0 (a : Nat) (σ : cl_S) : Option (Int32 × cl_S) := some ((σ.1 6 13), σ)
set_option maxHeartbeats 4000000 in
theorem wc_X11_place_0 (C : cl_C D p s m args meth c cX11_place 1 (some .int) RX11) {r : Int32} {a : Nat} {σ0 σ σ' : cl_S} {T : Nat → Nat × Nat} {H : Heap} {locs : List Loc} {ls : Array Slot} {cells slots : Nat} (h : bc_X11_place_0 a σ = some (r, σ')) (G : cl_G true D c0 ({ frames := 0, cells := σ0.2.2.2.2.2.1, slots := σ0.2.2.2.2.2.2, locals := 0 }) s σ0.2.2.2.1 T σ H locs cells slots) (ha : (T a).1 = 27) (hl : lv_has ls 1 [(0, .ref (c0 + a))]) : W p l e ({ frames := 0, cells := σ0.2.2.2.2.2.1, slots := σ0.2.2.2.2.2.2, locals := 0 }) s m args below meth c H locs cells slots (MQ below (cl_Q true D c0 (some (.int r)) cl_no σ0 σ') args s (σ0.2.2.2.2.2.1 - σ'.2.2.2.2.2.1) (σ0.2.2.2.2.2.2 - σ'.2.2.2.2.2.2) (cl_A c0 σ0.2.2.2.1 s.heap.size)) (F0 m 0 ls []) := by
  unfold bc_X11_place_0 at h
  refine lv_aload_n C.1 C.2.1 dX11_place_0 rfl (lv_at hl 0 rfl) ?_
  refine cg_11_21 C G ha dX11_place_1 (fun t_1 => ?_)
  have t_1 : (T 6).1 = 16 := by rw [t_1]
  refine cg_11_119 C G t_1 dX11_place_4 ?_
  exact cl_iret ⟨rfl, rfl⟩ rfl C G h dX11_place_7
noncomputable def fc_X11_place (a : Nat) (σ : cl_S) : Option (Int32 × cl_S) := bc_X11_place_0 a σ
theorem kc_X11_place (l : Launch) (D : cl_D) (c0 : Nat) {r : Int32} {a : Nat} {σ σ' : cl_S} (ha : (σ.2.2.2.1 a).1 = 27) (h : fc_X11_place a σ = some (r, σ')) : cl_Met true l D c0 yX11_place cX11_place 1 (some .int) 0 0 [.ref (c0 + a)] σ (some (.int r)) cl_no σ' :=
  cl_of (by decide) (Nat.le_of_ble_eq_true rfl) (fun p e s m args below meth c ls C hn G hl => wc_X11_place_0 C h G ha hl)
abbrev cX11_feed : ByteArray := prog_1_method_5_code
def yX11_feed : MethodName := ⟨RX11, "feed", "(IIII)I"⟩
theorem dX11_feed_0 : decode cX11_feed 0 = .ok (.aload_n 0, 1) := by decide +kernel
theorem dX11_feed_1 : decode cX11_feed 1 = .ok (.getfield 107, 3) := by decide +kernel
theorem dX11_feed_4 : decode cX11_feed 4 = .ok (.iconst 4, 1) := by decide +kernel
theorem dX11_feed_5 : decode cX11_feed 5 = .ok (.iadd, 1) := by decide +kernel
theorem dX11_feed_6 : decode cX11_feed 6 = .ok (.sipush 2048, 3) := by decide +kernel
theorem dX11_feed_9 : decode cX11_feed 9 = .ok (.if_icmp .le 6, 3) := by decide +kernel
theorem dX11_feed_12 : decode cX11_feed 12 = .ok (.bipush (-4), 2) := by decide +kernel
theorem dX11_feed_14 : decode cX11_feed 14 = .ok (.ireturn, 1) := by decide +kernel
theorem dX11_feed_15 : decode cX11_feed 15 = .ok (.aload_n 0, 1) := by decide +kernel
theorem dX11_feed_16 : decode cX11_feed 16 = .ok (.getfield 32, 3) := by decide +kernel
theorem dX11_feed_19 : decode cX11_feed 19 = .ok (.aload_n 0, 1) := by decide +kernel
theorem dX11_feed_20 : decode cX11_feed 20 = .ok (.getfield 107, 3) := by decide +kernel
theorem dX11_feed_23 : decode cX11_feed 23 = .ok (.iload_n 1, 1) := by decide +kernel
theorem dX11_feed_24 : decode cX11_feed 24 = .ok (.iastore, 1) := by decide +kernel
theorem dX11_feed_25 : decode cX11_feed 25 = .ok (.aload_n 0, 1) := by decide +kernel
theorem dX11_feed_26 : decode cX11_feed 26 = .ok (.getfield 32, 3) := by decide +kernel
theorem dX11_feed_29 : decode cX11_feed 29 = .ok (.aload_n 0, 1) := by decide +kernel
theorem dX11_feed_30 : decode cX11_feed 30 = .ok (.getfield 107, 3) := by decide +kernel
theorem dX11_feed_33 : decode cX11_feed 33 = .ok (.iconst 1, 1) := by decide +kernel
theorem dX11_feed_34 : decode cX11_feed 34 = .ok (.iadd, 1) := by decide +kernel
theorem dX11_feed_35 : decode cX11_feed 35 = .ok (.iload_n 2, 1) := by decide +kernel
theorem dX11_feed_36 : decode cX11_feed 36 = .ok (.iastore, 1) := by decide +kernel
theorem dX11_feed_37 : decode cX11_feed 37 = .ok (.aload_n 0, 1) := by decide +kernel
theorem dX11_feed_38 : decode cX11_feed 38 = .ok (.getfield 32, 3) := by decide +kernel
theorem dX11_feed_41 : decode cX11_feed 41 = .ok (.aload_n 0, 1) := by decide +kernel
theorem dX11_feed_42 : decode cX11_feed 42 = .ok (.getfield 107, 3) := by decide +kernel
theorem dX11_feed_45 : decode cX11_feed 45 = .ok (.iconst 2, 1) := by decide +kernel
theorem dX11_feed_46 : decode cX11_feed 46 = .ok (.iadd, 1) := by decide +kernel
theorem dX11_feed_47 : decode cX11_feed 47 = .ok (.iload_n 3, 1) := by decide +kernel
theorem dX11_feed_48 : decode cX11_feed 48 = .ok (.iastore, 1) := by decide +kernel
theorem dX11_feed_49 : decode cX11_feed 49 = .ok (.aload_n 0, 1) := by decide +kernel
theorem dX11_feed_50 : decode cX11_feed 50 = .ok (.getfield 32, 3) := by decide +kernel
theorem dX11_feed_53 : decode cX11_feed 53 = .ok (.aload_n 0, 1) := by decide +kernel
theorem dX11_feed_54 : decode cX11_feed 54 = .ok (.getfield 107, 3) := by decide +kernel
theorem dX11_feed_57 : decode cX11_feed 57 = .ok (.iconst 3, 1) := by decide +kernel
theorem dX11_feed_58 : decode cX11_feed 58 = .ok (.iadd, 1) := by decide +kernel
theorem dX11_feed_59 : decode cX11_feed 59 = .ok (.iload 4, 2) := by decide +kernel
theorem dX11_feed_61 : decode cX11_feed 61 = .ok (.iastore, 1) := by decide +kernel
theorem dX11_feed_62 : decode cX11_feed 62 = .ok (.aload_n 0, 1) := by decide +kernel
theorem dX11_feed_63 : decode cX11_feed 63 = .ok (.dup, 1) := by decide +kernel
theorem dX11_feed_64 : decode cX11_feed 64 = .ok (.getfield 107, 3) := by decide +kernel
theorem dX11_feed_67 : decode cX11_feed 67 = .ok (.iconst 4, 1) := by decide +kernel
theorem dX11_feed_68 : decode cX11_feed 68 = .ok (.iadd, 1) := by decide +kernel
theorem dX11_feed_69 : decode cX11_feed 69 = .ok (.putfield 107, 3) := by decide +kernel
theorem dX11_feed_72 : decode cX11_feed 72 = .ok (.aload_n 0, 1) := by decide +kernel
theorem dX11_feed_73 : decode cX11_feed 73 = .ok (.getfield 107, 3) := by decide +kernel
theorem dX11_feed_76 : decode cX11_feed 76 = .ok (.ireturn, 1) := by decide +kernel
theorem cc_X11_feed : Cond.code yX11_feed cX11_feed 5 (some .int) ∈ rf_tb := rf_at 899 (by decide +kernel) (by decide +kernel)
noncomputable def bc_X11_feed_0 (a : Nat) (x1 : Int32) (x2 : Int32) (x3 : Int32) (x4 : Int32) (σ : cl_S) : Option (Int32 × cl_S) := (if ((σ.1 a 4) + (4:Int32)) ≤ (2048:Int32) then ix (σ.1 a 4) 2048 (vl (cl_w σ 18 (σ.1 a 4).toNatClampNeg x1) (fun σ_2 => ix ((σ_2.1 a 4) + (1:Int32)) 2048 (vl (cl_w σ_2 18 ((σ_2.1 a 4) + (1:Int32)).toNatClampNeg x2) (fun σ_8 => ix ((σ_8.1 a 4) + (2:Int32)) 2048 (vl (cl_w σ_8 18 ((σ_8.1 a 4) + (2:Int32)).toNatClampNeg x3) (fun σ_14 => ix ((σ_14.1 a 4) + (3:Int32)) 2048 (vl (cl_w σ_14 18 ((σ_14.1 a 4) + (3:Int32)).toNatClampNeg x4) (fun σ_20 => vl (cl_w σ_20 a 4 ((σ_20.1 a 4) + (4:Int32))) (fun σ_25 => some ((σ_25.1 a 4), σ_25)))))))))) else some ((-4:Int32), σ))
set_option maxHeartbeats 4000000 in
theorem wc_X11_feed_0 (C : cl_C D p s m args meth c cX11_feed 5 (some .int) RX11) {r : Int32} {a : Nat} {x1 : Int32} {x2 : Int32} {x3 : Int32} {x4 : Int32} {σ0 σ σ' : cl_S} {T : Nat → Nat × Nat} {H : Heap} {locs : List Loc} {ls : Array Slot} {cells slots : Nat} (h : bc_X11_feed_0 a x1 x2 x3 x4 σ = some (r, σ')) (G : cl_G true D c0 ({ frames := 0, cells := σ0.2.2.2.2.2.1, slots := σ0.2.2.2.2.2.2, locals := 0 }) s σ0.2.2.2.1 T σ H locs cells slots) (ha : (T a).1 = 27) (hl : lv_has ls 5 [(0, .ref (c0 + a)), (1, .int x1), (2, .int x2), (3, .int x3), (4, .int x4)]) : W p l e ({ frames := 0, cells := σ0.2.2.2.2.2.1, slots := σ0.2.2.2.2.2.2, locals := 0 }) s m args below meth c H locs cells slots (MQ below (cl_Q true D c0 (some (.int r)) cl_no σ0 σ') args s (σ0.2.2.2.2.2.1 - σ'.2.2.2.2.2.1) (σ0.2.2.2.2.2.2 - σ'.2.2.2.2.2.2) (cl_A c0 σ0.2.2.2.1 s.heap.size)) (F0 m 0 ls []) := by
  unfold bc_X11_feed_0 at h
  refine lv_aload_n C.1 C.2.1 dX11_feed_0 rfl (lv_at hl 0 rfl) ?_
  refine cg_11_107 C G ha dX11_feed_1 ?_
  refine lv_iconst (v := (4:Int32)) C.1 C.2.1 dX11_feed_4 (by decide) ?_
  refine lv_iadd C.1 C.2.1 dX11_feed_5 ?_
  refine lv_sipush (v := (2048:Int32)) C.1 C.2.1 dX11_feed_6 (by decide) ?_
  refine lv_icmp_le (tgt := 15) C.1 C.2.1 dX11_feed_9 (by decide) (fun hc => ?_) (fun hc => ?_)
  · rw [if_pos hc] at h
    refine lv_aload_n C.1 C.2.1 dX11_feed_15 rfl (lv_at hl 0 rfl) ?_
    refine cg_11_32 C G ha dX11_feed_16 (fun t_1 => ?_)
    refine lv_aload_n C.1 C.2.1 dX11_feed_19 rfl (lv_at hl 0 rfl) ?_
    refine cg_11_107 C G ha dX11_feed_20 ?_
    refine lv_iload_n C.1 C.2.1 dX11_feed_23 rfl (lv_at hl 1 rfl) ?_
    obtain ⟨hi, h_3⟩ := ix_some h
    refine cl_iast C G t_1 hi dX11_feed_24 (fun H locs G_4 => ?_)
    refine cl_nm G_4 h_3 (fun σ_2 G_5 h_6 => ?_)
    refine lv_aload_n C.1 C.2.1 dX11_feed_25 rfl (lv_at hl 0 rfl) ?_
    refine cg_11_32 C G_5 ha dX11_feed_26 (fun t_7 => ?_)
    refine lv_aload_n C.1 C.2.1 dX11_feed_29 rfl (lv_at hl 0 rfl) ?_
    refine cg_11_107 C G_5 ha dX11_feed_30 ?_
    refine lv_iconst (v := (1:Int32)) C.1 C.2.1 dX11_feed_33 (by decide) ?_
    refine lv_iadd C.1 C.2.1 dX11_feed_34 ?_
    refine lv_iload_n C.1 C.2.1 dX11_feed_35 rfl (lv_at hl 2 rfl) ?_
    obtain ⟨hi, h_9⟩ := ix_some h_6
    refine cl_iast C G_5 t_7 hi dX11_feed_36 (fun H locs G_10 => ?_)
    refine cl_nm G_10 h_9 (fun σ_8 G_11 h_12 => ?_)
    refine lv_aload_n C.1 C.2.1 dX11_feed_37 rfl (lv_at hl 0 rfl) ?_
    refine cg_11_32 C G_11 ha dX11_feed_38 (fun t_13 => ?_)
    refine lv_aload_n C.1 C.2.1 dX11_feed_41 rfl (lv_at hl 0 rfl) ?_
    refine cg_11_107 C G_11 ha dX11_feed_42 ?_
    refine lv_iconst (v := (2:Int32)) C.1 C.2.1 dX11_feed_45 (by decide) ?_
    refine lv_iadd C.1 C.2.1 dX11_feed_46 ?_
    refine lv_iload_n C.1 C.2.1 dX11_feed_47 rfl (lv_at hl 3 rfl) ?_
    obtain ⟨hi, h_15⟩ := ix_some h_12
    refine cl_iast C G_11 t_13 hi dX11_feed_48 (fun H locs G_16 => ?_)
    refine cl_nm G_16 h_15 (fun σ_14 G_17 h_18 => ?_)
    refine lv_aload_n C.1 C.2.1 dX11_feed_49 rfl (lv_at hl 0 rfl) ?_
    refine cg_11_32 C G_17 ha dX11_feed_50 (fun t_19 => ?_)
    refine lv_aload_n C.1 C.2.1 dX11_feed_53 rfl (lv_at hl 0 rfl) ?_
    refine cg_11_107 C G_17 ha dX11_feed_54 ?_
    refine lv_iconst (v := (3:Int32)) C.1 C.2.1 dX11_feed_57 (by decide) ?_
    refine lv_iadd C.1 C.2.1 dX11_feed_58 ?_
    refine lv_iload C.1 C.2.1 dX11_feed_59 (lv_at hl 4 rfl) ?_
    obtain ⟨hi, h_21⟩ := ix_some h_18
    refine cl_iast C G_17 t_19 hi dX11_feed_61 (fun H locs G_22 => ?_)
    refine cl_nm G_22 h_21 (fun σ_20 G_23 h_24 => ?_)
    refine lv_aload_n C.1 C.2.1 dX11_feed_62 rfl (lv_at hl 0 rfl) ?_
    refine lv_dup C.1 C.2.1 dX11_feed_63 rfl ?_
    refine cg_11_107 C G_23 ha dX11_feed_64 ?_
    refine lv_iconst (v := (4:Int32)) C.1 C.2.1 dX11_feed_67 (by decide) ?_
    refine lv_iadd C.1 C.2.1 dX11_feed_68 ?_
    refine cp_11_107 C G_23 ha dX11_feed_69 (fun H locs G_26 => ?_)
    refine cl_nm G_26 h_24 (fun σ_25 G_27 h_28 => ?_)
    refine lv_aload_n C.1 C.2.1 dX11_feed_72 rfl (lv_at hl 0 rfl) ?_
    refine cg_11_107 C G_27 ha dX11_feed_73 ?_
    exact cl_iret ⟨rfl, rfl⟩ rfl C G_27 h_28 dX11_feed_76
  · rw [if_neg hc] at h
    refine lv_bipush (v := (-4:Int32)) C.1 C.2.1 dX11_feed_12 (by decide) ?_
    exact cl_iret ⟨rfl, rfl⟩ rfl C G h dX11_feed_14
noncomputable def fc_X11_feed (a : Nat) (x1 : Int32) (x2 : Int32) (x3 : Int32) (x4 : Int32) (σ : cl_S) : Option (Int32 × cl_S) := bc_X11_feed_0 a x1 x2 x3 x4 σ
theorem kc_X11_feed (l : Launch) (D : cl_D) (c0 : Nat) {r : Int32} {a : Nat} {x1 : Int32} {x2 : Int32} {x3 : Int32} {x4 : Int32} {σ σ' : cl_S} (ha : (σ.2.2.2.1 a).1 = 27) (h : fc_X11_feed a x1 x2 x3 x4 σ = some (r, σ')) : cl_Met true l D c0 yX11_feed cX11_feed 5 (some .int) 0 0 [.ref (c0 + a), .int x1, .int x2, .int x3, .int x4] σ (some (.int r)) cl_no σ' :=
  cl_of (by decide) (Nat.le_of_ble_eq_true rfl) (fun p e s m args below meth c ls C hn G hl => wc_X11_feed_0 C h G ha hl)
abbrev cX11_show : ByteArray := prog_1_method_6_code
def yX11_show : MethodName := ⟨RX11, "show", "(I)I"⟩
theorem dX11_show_0 : decode cX11_show 0 = .ok (.aload_n 0, 1) := by decide +kernel
theorem dX11_show_1 : decode cX11_show 1 = .ok (.getfield 21, 3) := by decide +kernel
theorem dX11_show_4 : decode cX11_show 4 = .ok (.iload_n 1, 1) := by decide +kernel
theorem dX11_show_5 : decode cX11_show 5 = .ok (.invokevirtual 122, 3) := by decide +kernel
theorem dX11_show_8 : decode cX11_show 8 = .ok (.ireturn, 1) := by decide +kernel
theorem cc_X11_show : Cond.code yX11_show cX11_show 2 (some .int) ∈ rf_tb := rf_at 903 (by decide +kernel) (by decide +kernel)
theorem cw_RX11_122 : cl_wV RX11 RX0 yX0_describe cX0_describe 3 (some .int) 122 1 := ⟨⟨rf_at 904 (by decide +kernel) (by decide +kernel), rf_at 905 (by decide +kernel) (by decide +kernel), rf_at 906 (by decide +kernel) (by decide +kernel), cc_X0_describe, rf_at 3 (by decide +kernel) (by decide +kernel)⟩, ⟨by decide, by decide, by decide +kernel⟩⟩
noncomputable def bc_X11_show_0 (a : Nat) (x1 : Int32) (σ : cl_S) : Option (Int32 × cl_S) := bd2 (fc_X0_describe 6 x1 σ) (fun r_3 σ_2 => some (r_3, σ_2))
set_option maxHeartbeats 4000000 in
theorem wc_X11_show_0 (C : cl_C D p s m args meth c cX11_show 2 (some .int) RX11) {r : Int32} {a : Nat} {x1 : Int32} {σ0 σ σ' : cl_S} {T : Nat → Nat × Nat} {H : Heap} {locs : List Loc} {ls : Array Slot} {cells slots : Nat} (h : bc_X11_show_0 a x1 σ = some (r, σ')) (G : cl_G true D c0 ({ frames := 7, cells := σ0.2.2.2.2.2.1, slots := σ0.2.2.2.2.2.2, locals := 151 }) s σ0.2.2.2.1 T σ H locs cells slots) (ha : (T a).1 = 27) (hl : lv_has ls 2 [(0, .ref (c0 + a)), (1, .int x1)]) : W p l e ({ frames := 7, cells := σ0.2.2.2.2.2.1, slots := σ0.2.2.2.2.2.2, locals := 151 }) s m args below meth c H locs cells slots (MQ below (cl_Q true D c0 (some (.int r)) cl_no σ0 σ') args s (σ0.2.2.2.2.2.1 - σ'.2.2.2.2.2.1) (σ0.2.2.2.2.2.2 - σ'.2.2.2.2.2.2) (cl_A c0 σ0.2.2.2.1 s.heap.size)) (F0 m 0 ls []) := by
  unfold bc_X11_show_0 at h
  refine lv_aload_n C.1 C.2.1 dX11_show_0 rfl (lv_at hl 0 rfl) ?_
  refine cg_11_21 C G ha dX11_show_1 (fun t_1 => ?_)
  have t_1 : (T 6).1 = 16 := by rw [t_1]
  refine lv_iload_n C.1 C.2.1 dX11_show_4 rfl (lv_at hl 1 rfl) ?_
  obtain ⟨r_3, σ_2, hq, h_4⟩ := bd2_some h
  refine cl_callV (ci := 0) (rest := []) C G rfl t_1 cw_RX11_122 [.int x1] _ (kc_X0_describe l D c0 (by rw [G.1]; exact t_1) hq) (Nat.le_of_ble_eq_true rfl) (Nat.le_of_ble_eq_true rfl) rfl rfl hl.1 (Nat.le_of_ble_eq_true rfl) dX11_show_5 (fun T_5 H locs cells slots t_6 hu G_7 => ?_)
  have ha := hu.kind ha (by decide)
  refine W.eq (g2 := F0 m 8 ls [.int r_3]) rfl ?_
  exact cl_iret ⟨rfl, rfl⟩ rfl C G_7 h_4 dX11_show_8
noncomputable def fc_X11_show (a : Nat) (x1 : Int32) (σ : cl_S) : Option (Int32 × cl_S) := bc_X11_show_0 a x1 σ
theorem kc_X11_show (l : Launch) (D : cl_D) (c0 : Nat) {r : Int32} {a : Nat} {x1 : Int32} {σ σ' : cl_S} (ha : (σ.2.2.2.1 a).1 = 27) (h : fc_X11_show a x1 σ = some (r, σ')) : cl_Met true l D c0 yX11_show cX11_show 2 (some .int) 7 151 [.ref (c0 + a), .int x1] σ (some (.int r)) cl_no σ' :=
  cl_of (by decide) (Nat.le_of_ble_eq_true rfl) (fun p e s m args below meth c ls C hn G hl => wc_X11_show_0 C h G ha hl)
abbrev cX11_shown : ByteArray := prog_1_method_7_code
def yX11_shown : MethodName := ⟨RX11, "shown", "(I)I"⟩
theorem dX11_shown_0 : decode cX11_shown 0 = .ok (.iload_n 1, 1) := by decide +kernel
theorem dX11_shown_1 : decode cX11_shown 1 = .ok (.ifCond .lt 26, 3) := by decide +kernel
theorem dX11_shown_4 : decode cX11_shown 4 = .ok (.iload_n 1, 1) := by decide +kernel
theorem dX11_shown_5 : decode cX11_shown 5 = .ok (.aload_n 0, 1) := by decide +kernel
theorem dX11_shown_6 : decode cX11_shown 6 = .ok (.getfield 21, 3) := by decide +kernel
theorem dX11_shown_9 : decode cX11_shown 9 = .ok (.getfield 126, 3) := by decide +kernel
theorem dX11_shown_12 : decode cX11_shown 12 = .ok (.if_icmp .ge 15, 3) := by decide +kernel
theorem dX11_shown_15 : decode cX11_shown 15 = .ok (.aload_n 0, 1) := by decide +kernel
theorem dX11_shown_16 : decode cX11_shown 16 = .ok (.getfield 21, 3) := by decide +kernel
theorem dX11_shown_19 : decode cX11_shown 19 = .ok (.getfield 129, 3) := by decide +kernel
theorem dX11_shown_22 : decode cX11_shown 22 = .ok (.iload_n 1, 1) := by decide +kernel
theorem dX11_shown_23 : decode cX11_shown 23 = .ok (.caload, 1) := by decide +kernel
theorem dX11_shown_24 : decode cX11_shown 24 = .ok (.goto 4, 3) := by decide +kernel
theorem dX11_shown_27 : decode cX11_shown 27 = .ok (.iconst 0, 1) := by decide +kernel
theorem dX11_shown_28 : decode cX11_shown 28 = .ok (.ireturn, 1) := by decide +kernel
theorem cc_X11_shown : Cond.code yX11_shown cX11_shown 2 (some .int) ∈ rf_tb := rf_at 953 (by decide +kernel) (by decide +kernel)
noncomputable def bc_X11_shown_0 (a : Nat) (x1 : Int32) (σ : cl_S) : Option (Int32 × cl_S) := (if x1 < 0 then some ((0:Int32), σ) else (if (σ.1 6 15) ≤ x1 then some ((0:Int32), σ) else ix x1 40 (some ((σ.1 (6 + 8) x1.toNatClampNeg), σ))))
set_option maxHeartbeats 4000000 in
theorem wc_X11_shown_0 (C : cl_C D p s m args meth c cX11_shown 2 (some .int) RX11) {r : Int32} {a : Nat} {x1 : Int32} {σ0 σ σ' : cl_S} {T : Nat → Nat × Nat} {H : Heap} {locs : List Loc} {ls : Array Slot} {cells slots : Nat} (h : bc_X11_shown_0 a x1 σ = some (r, σ')) (G : cl_G true D c0 ({ frames := 0, cells := σ0.2.2.2.2.2.1, slots := σ0.2.2.2.2.2.2, locals := 0 }) s σ0.2.2.2.1 T σ H locs cells slots) (ha : (T a).1 = 27) (hl : lv_has ls 2 [(0, .ref (c0 + a)), (1, .int x1)]) : W p l e ({ frames := 0, cells := σ0.2.2.2.2.2.1, slots := σ0.2.2.2.2.2.2, locals := 0 }) s m args below meth c H locs cells slots (MQ below (cl_Q true D c0 (some (.int r)) cl_no σ0 σ') args s (σ0.2.2.2.2.2.1 - σ'.2.2.2.2.2.1) (σ0.2.2.2.2.2.2 - σ'.2.2.2.2.2.2) (cl_A c0 σ0.2.2.2.1 s.heap.size)) (F0 m 0 ls []) := by
  unfold bc_X11_shown_0 at h
  refine lv_iload_n C.1 C.2.1 dX11_shown_0 rfl (lv_at hl 1 rfl) ?_
  refine lv_if_lt (tgt := 27) C.1 C.2.1 dX11_shown_1 (by decide) (fun hc => ?_) (fun hc => ?_)
  · rw [if_pos hc] at h
    refine lv_iconst (v := (0:Int32)) C.1 C.2.1 dX11_shown_27 (by decide) ?_
    exact cl_iret ⟨rfl, rfl⟩ rfl C G h dX11_shown_28
  · rw [if_neg hc] at h
    refine lv_iload_n C.1 C.2.1 dX11_shown_4 rfl (lv_at hl 1 rfl) ?_
    refine lv_aload_n C.1 C.2.1 dX11_shown_5 rfl (lv_at hl 0 rfl) ?_
    refine cg_11_21 C G ha dX11_shown_6 (fun t_1 => ?_)
    have t_1 : (T 6).1 = 16 := by rw [t_1]
    refine cg_11_126 C G t_1 dX11_shown_9 ?_
    refine lv_icmp_ge (tgt := 27) C.1 C.2.1 dX11_shown_12 (by decide) (fun hc => ?_) (fun hc => ?_)
    · rw [if_pos hc] at h
      refine lv_iconst (v := (0:Int32)) C.1 C.2.1 dX11_shown_27 (by decide) ?_
      exact cl_iret ⟨rfl, rfl⟩ rfl C G h dX11_shown_28
    · rw [if_neg hc] at h
      refine lv_aload_n C.1 C.2.1 dX11_shown_15 rfl (lv_at hl 0 rfl) ?_
      refine cg_11_21 C G ha dX11_shown_16 (fun t_2 => ?_)
      have t_2 : (T 6).1 = 16 := by rw [t_2]
      refine cg_11_129 C G t_2 dX11_shown_19 (fun t_3 => ?_)
      refine lv_iload_n C.1 C.2.1 dX11_shown_22 rfl (lv_at hl 1 rfl) ?_
      obtain ⟨hi, h_4⟩ := ix_some h
      refine cl_cald C G t_3 hi dX11_shown_23 ?_
      refine lv_goto (tgt := 28) C.1 C.2.1 dX11_shown_24 (by decide) ?_
      exact cl_iret ⟨rfl, rfl⟩ rfl C G h_4 dX11_shown_28
noncomputable def fc_X11_shown (a : Nat) (x1 : Int32) (σ : cl_S) : Option (Int32 × cl_S) := bc_X11_shown_0 a x1 σ
theorem kc_X11_shown (l : Launch) (D : cl_D) (c0 : Nat) {r : Int32} {a : Nat} {x1 : Int32} {σ σ' : cl_S} (ha : (σ.2.2.2.1 a).1 = 27) (h : fc_X11_shown a x1 σ = some (r, σ')) : cl_Met true l D c0 yX11_shown cX11_shown 2 (some .int) 0 0 [.ref (c0 + a), .int x1] σ (some (.int r)) cl_no σ' :=
  cl_of (by decide) (Nat.le_of_ble_eq_true rfl) (fun p e s m args below meth c ls C hn G hl => wc_X11_shown_0 C h G ha hl)
abbrev cX11_drop : ByteArray := prog_1_method_8_code
def yX11_drop : MethodName := ⟨RX11, "drop", "(I)I"⟩
theorem dX11_drop_0 : decode cX11_drop 0 = .ok (.iload_n 1, 1) := by decide +kernel
theorem dX11_drop_1 : decode cX11_drop 1 = .ok (.ifCond .lt 11, 3) := by decide +kernel
theorem dX11_drop_4 : decode cX11_drop 4 = .ok (.iload_n 1, 1) := by decide +kernel
theorem dX11_drop_5 : decode cX11_drop 5 = .ok (.aload_n 0, 1) := by decide +kernel
theorem dX11_drop_6 : decode cX11_drop 6 = .ok (.getfield 107, 3) := by decide +kernel
theorem dX11_drop_9 : decode cX11_drop 9 = .ok (.if_icmp .le 6, 3) := by decide +kernel
theorem dX11_drop_12 : decode cX11_drop 12 = .ok (.bipush (-2), 2) := by decide +kernel
theorem dX11_drop_14 : decode cX11_drop 14 = .ok (.ireturn, 1) := by decide +kernel
theorem dX11_drop_15 : decode cX11_drop 15 = .ok (.aload_n 0, 1) := by decide +kernel
theorem dX11_drop_16 : decode cX11_drop 16 = .ok (.dup, 1) := by decide +kernel
theorem dX11_drop_17 : decode cX11_drop 17 = .ok (.getfield 107, 3) := by decide +kernel
theorem dX11_drop_20 : decode cX11_drop 20 = .ok (.iload_n 1, 1) := by decide +kernel
theorem dX11_drop_21 : decode cX11_drop 21 = .ok (.isub, 1) := by decide +kernel
theorem dX11_drop_22 : decode cX11_drop 22 = .ok (.putfield 107, 3) := by decide +kernel
theorem dX11_drop_25 : decode cX11_drop 25 = .ok (.aload_n 0, 1) := by decide +kernel
theorem dX11_drop_26 : decode cX11_drop 26 = .ok (.getfield 107, 3) := by decide +kernel
theorem dX11_drop_29 : decode cX11_drop 29 = .ok (.ireturn, 1) := by decide +kernel
theorem cc_X11_drop : Cond.code yX11_drop cX11_drop 2 (some .int) ∈ rf_tb := rf_at 957 (by decide +kernel) (by decide +kernel)
noncomputable def bc_X11_drop_0 (a : Nat) (x1 : Int32) (σ : cl_S) : Option (Int32 × cl_S) := (if x1 < 0 then some ((-2:Int32), σ) else (if x1 ≤ (σ.1 a 4) then vl (cl_w σ a 4 ((σ.1 a 4) - x1)) (fun σ_1 => some ((σ_1.1 a 4), σ_1)) else some ((-2:Int32), σ)))
set_option maxHeartbeats 4000000 in
theorem wc_X11_drop_0 (C : cl_C D p s m args meth c cX11_drop 2 (some .int) RX11) {r : Int32} {a : Nat} {x1 : Int32} {σ0 σ σ' : cl_S} {T : Nat → Nat × Nat} {H : Heap} {locs : List Loc} {ls : Array Slot} {cells slots : Nat} (h : bc_X11_drop_0 a x1 σ = some (r, σ')) (G : cl_G true D c0 ({ frames := 0, cells := σ0.2.2.2.2.2.1, slots := σ0.2.2.2.2.2.2, locals := 0 }) s σ0.2.2.2.1 T σ H locs cells slots) (ha : (T a).1 = 27) (hl : lv_has ls 2 [(0, .ref (c0 + a)), (1, .int x1)]) : W p l e ({ frames := 0, cells := σ0.2.2.2.2.2.1, slots := σ0.2.2.2.2.2.2, locals := 0 }) s m args below meth c H locs cells slots (MQ below (cl_Q true D c0 (some (.int r)) cl_no σ0 σ') args s (σ0.2.2.2.2.2.1 - σ'.2.2.2.2.2.1) (σ0.2.2.2.2.2.2 - σ'.2.2.2.2.2.2) (cl_A c0 σ0.2.2.2.1 s.heap.size)) (F0 m 0 ls []) := by
  unfold bc_X11_drop_0 at h
  refine lv_iload_n C.1 C.2.1 dX11_drop_0 rfl (lv_at hl 1 rfl) ?_
  refine lv_if_lt (tgt := 12) C.1 C.2.1 dX11_drop_1 (by decide) (fun hc => ?_) (fun hc => ?_)
  · rw [if_pos hc] at h
    refine lv_bipush (v := (-2:Int32)) C.1 C.2.1 dX11_drop_12 (by decide) ?_
    exact cl_iret ⟨rfl, rfl⟩ rfl C G h dX11_drop_14
  · rw [if_neg hc] at h
    refine lv_iload_n C.1 C.2.1 dX11_drop_4 rfl (lv_at hl 1 rfl) ?_
    refine lv_aload_n C.1 C.2.1 dX11_drop_5 rfl (lv_at hl 0 rfl) ?_
    refine cg_11_107 C G ha dX11_drop_6 ?_
    refine lv_icmp_le (tgt := 15) C.1 C.2.1 dX11_drop_9 (by decide) (fun hc => ?_) (fun hc => ?_)
    · rw [if_pos hc] at h
      refine lv_aload_n C.1 C.2.1 dX11_drop_15 rfl (lv_at hl 0 rfl) ?_
      refine lv_dup C.1 C.2.1 dX11_drop_16 rfl ?_
      refine cg_11_107 C G ha dX11_drop_17 ?_
      refine lv_iload_n C.1 C.2.1 dX11_drop_20 rfl (lv_at hl 1 rfl) ?_
      refine lv_isub C.1 C.2.1 dX11_drop_21 ?_
      refine cp_11_107 C G ha dX11_drop_22 (fun H locs G_2 => ?_)
      refine cl_nm G_2 h (fun σ_1 G_3 h_4 => ?_)
      refine lv_aload_n C.1 C.2.1 dX11_drop_25 rfl (lv_at hl 0 rfl) ?_
      refine cg_11_107 C G_3 ha dX11_drop_26 ?_
      exact cl_iret ⟨rfl, rfl⟩ rfl C G_3 h_4 dX11_drop_29
    · rw [if_neg hc] at h
      refine lv_bipush (v := (-2:Int32)) C.1 C.2.1 dX11_drop_12 (by decide) ?_
      exact cl_iret ⟨rfl, rfl⟩ rfl C G h dX11_drop_14
noncomputable def fc_X11_drop (a : Nat) (x1 : Int32) (σ : cl_S) : Option (Int32 × cl_S) := bc_X11_drop_0 a x1 σ
theorem kc_X11_drop (l : Launch) (D : cl_D) (c0 : Nat) {r : Int32} {a : Nat} {x1 : Int32} {σ σ' : cl_S} (ha : (σ.2.2.2.1 a).1 = 27) (h : fc_X11_drop a x1 σ = some (r, σ')) : cl_Met true l D c0 yX11_drop cX11_drop 2 (some .int) 0 0 [.ref (c0 + a), .int x1] σ (some (.int r)) cl_no σ' :=
  cl_of (by decide) (Nat.le_of_ble_eq_true rfl) (fun p e s m args below meth c ls C hn G hl => wc_X11_drop_0 C h G ha hl)
abbrev cX11_word : ByteArray := prog_1_method_9_code
def yX11_word : MethodName := ⟨RX11, "word", "(I)I"⟩
theorem dX11_word_0 : decode cX11_word 0 = .ok (.iload_n 1, 1) := by decide +kernel
theorem dX11_word_1 : decode cX11_word 1 = .ok (.ifCond .lt 20, 3) := by decide +kernel
theorem dX11_word_4 : decode cX11_word 4 = .ok (.iload_n 1, 1) := by decide +kernel
theorem dX11_word_5 : decode cX11_word 5 = .ok (.aload_n 0, 1) := by decide +kernel
theorem dX11_word_6 : decode cX11_word 6 = .ok (.getfield 107, 3) := by decide +kernel
theorem dX11_word_9 : decode cX11_word 9 = .ok (.if_icmp .ge 12, 3) := by decide +kernel
theorem dX11_word_12 : decode cX11_word 12 = .ok (.aload_n 0, 1) := by decide +kernel
theorem dX11_word_13 : decode cX11_word 13 = .ok (.getfield 32, 3) := by decide +kernel
theorem dX11_word_16 : decode cX11_word 16 = .ok (.iload_n 1, 1) := by decide +kernel
theorem dX11_word_17 : decode cX11_word 17 = .ok (.iaload, 1) := by decide +kernel
theorem dX11_word_18 : decode cX11_word 18 = .ok (.goto 4, 3) := by decide +kernel
theorem dX11_word_21 : decode cX11_word 21 = .ok (.iconst 0, 1) := by decide +kernel
theorem dX11_word_22 : decode cX11_word 22 = .ok (.ireturn, 1) := by decide +kernel
theorem cc_X11_word : Cond.code yX11_word cX11_word 2 (some .int) ∈ rf_tb := rf_at 961 (by decide +kernel) (by decide +kernel)
noncomputable def bc_X11_word_0 (a : Nat) (x1 : Int32) (σ : cl_S) : Option (Int32 × cl_S) := (if x1 < 0 then some ((0:Int32), σ) else (if (σ.1 a 4) ≤ x1 then some ((0:Int32), σ) else ix x1 2048 (some ((σ.1 18 x1.toNatClampNeg), σ))))
set_option maxHeartbeats 4000000 in
theorem wc_X11_word_0 (C : cl_C D p s m args meth c cX11_word 2 (some .int) RX11) {r : Int32} {a : Nat} {x1 : Int32} {σ0 σ σ' : cl_S} {T : Nat → Nat × Nat} {H : Heap} {locs : List Loc} {ls : Array Slot} {cells slots : Nat} (h : bc_X11_word_0 a x1 σ = some (r, σ')) (G : cl_G true D c0 ({ frames := 0, cells := σ0.2.2.2.2.2.1, slots := σ0.2.2.2.2.2.2, locals := 0 }) s σ0.2.2.2.1 T σ H locs cells slots) (ha : (T a).1 = 27) (hl : lv_has ls 2 [(0, .ref (c0 + a)), (1, .int x1)]) : W p l e ({ frames := 0, cells := σ0.2.2.2.2.2.1, slots := σ0.2.2.2.2.2.2, locals := 0 }) s m args below meth c H locs cells slots (MQ below (cl_Q true D c0 (some (.int r)) cl_no σ0 σ') args s (σ0.2.2.2.2.2.1 - σ'.2.2.2.2.2.1) (σ0.2.2.2.2.2.2 - σ'.2.2.2.2.2.2) (cl_A c0 σ0.2.2.2.1 s.heap.size)) (F0 m 0 ls []) := by
  unfold bc_X11_word_0 at h
  refine lv_iload_n C.1 C.2.1 dX11_word_0 rfl (lv_at hl 1 rfl) ?_
  refine lv_if_lt (tgt := 21) C.1 C.2.1 dX11_word_1 (by decide) (fun hc => ?_) (fun hc => ?_)
  · rw [if_pos hc] at h
    refine lv_iconst (v := (0:Int32)) C.1 C.2.1 dX11_word_21 (by decide) ?_
    exact cl_iret ⟨rfl, rfl⟩ rfl C G h dX11_word_22
  · rw [if_neg hc] at h
    refine lv_iload_n C.1 C.2.1 dX11_word_4 rfl (lv_at hl 1 rfl) ?_
    refine lv_aload_n C.1 C.2.1 dX11_word_5 rfl (lv_at hl 0 rfl) ?_
    refine cg_11_107 C G ha dX11_word_6 ?_
    refine lv_icmp_ge (tgt := 21) C.1 C.2.1 dX11_word_9 (by decide) (fun hc => ?_) (fun hc => ?_)
    · rw [if_pos hc] at h
      refine lv_iconst (v := (0:Int32)) C.1 C.2.1 dX11_word_21 (by decide) ?_
      exact cl_iret ⟨rfl, rfl⟩ rfl C G h dX11_word_22
    · rw [if_neg hc] at h
      refine lv_aload_n C.1 C.2.1 dX11_word_12 rfl (lv_at hl 0 rfl) ?_
      refine cg_11_32 C G ha dX11_word_13 (fun t_1 => ?_)
      refine lv_iload_n C.1 C.2.1 dX11_word_16 rfl (lv_at hl 1 rfl) ?_
      obtain ⟨hi, h_2⟩ := ix_some h
      refine cl_iald C G t_1 hi dX11_word_17 ?_
      refine lv_goto (tgt := 22) C.1 C.2.1 dX11_word_18 (by decide) ?_
      exact cl_iret ⟨rfl, rfl⟩ rfl C G h_2 dX11_word_22
noncomputable def fc_X11_word (a : Nat) (x1 : Int32) (σ : cl_S) : Option (Int32 × cl_S) := bc_X11_word_0 a x1 σ
theorem kc_X11_word (l : Launch) (D : cl_D) (c0 : Nat) {r : Int32} {a : Nat} {x1 : Int32} {σ σ' : cl_S} (ha : (σ.2.2.2.1 a).1 = 27) (h : fc_X11_word a x1 σ = some (r, σ')) : cl_Met true l D c0 yX11_word cX11_word 2 (some .int) 0 0 [.ref (c0 + a), .int x1] σ (some (.int r)) cl_no σ' :=
  cl_of (by decide) (Nat.le_of_ble_eq_true rfl) (fun p e s m args below meth c ls C hn G hl => wc_X11_word_0 C h G ha hl)
end CQ13
