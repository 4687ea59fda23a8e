section CQ14
variable {p : Program} {l : Launch} {e : Env} {s : State} {m : MethodId} {args : Array Value} {below : List Frame} {meth : Method} {c : Code} {D : cl_D} {c0 : Nat}
abbrev cX11_keep : ByteArray := prog_1_method_10_code
def yX11_keep : MethodName := ⟨RX11, "keep", "(I)I"⟩
theorem dX11_keep_0 : decode cX11_keep 0 = .ok (.iload_n 1, 1) := by decide +kernel
theorem dX11_keep_1 : decode cX11_keep 1 = .ok (.ifCond .lt 9, 3) := by decide +kernel
theorem dX11_keep_4 : decode cX11_keep 4 = .ok (.iload_n 1, 1) := by decide +kernel
theorem dX11_keep_5 : decode cX11_keep 5 = .ok (.bipush 9, 2) := by decide +kernel
theorem dX11_keep_7 : decode cX11_keep 7 = .ok (.if_icmp .le 5, 3) := by decide +kernel
theorem dX11_keep_10 : decode cX11_keep 10 = .ok (.iconst (-1), 1) := by decide +kernel
theorem dX11_keep_11 : decode cX11_keep 11 = .ok (.ireturn, 1) := by decide +kernel
theorem dX11_keep_12 : decode cX11_keep 12 = .ok (.iload_n 1, 1) := by decide +kernel
theorem dX11_keep_13 : decode cX11_keep 13 = .ok (.bipush 8, 2) := by decide +kernel
theorem dX11_keep_15 : decode cX11_keep 15 = .ok (.if_icmp .ne 9, 3) := by decide +kernel
theorem dX11_keep_18 : decode cX11_keep 18 = .ok (.sipush 256, 3) := by decide +kernel
theorem dX11_keep_21 : decode cX11_keep 21 = .ok (.goto 18, 3) := by decide +kernel
theorem dX11_keep_24 : decode cX11_keep 24 = .ok (.iload_n 1, 1) := by decide +kernel
theorem dX11_keep_25 : decode cX11_keep 25 = .ok (.bipush 9, 2) := by decide +kernel
theorem dX11_keep_27 : decode cX11_keep 27 = .ok (.if_icmp .ne 9, 3) := by decide +kernel
theorem dX11_keep_30 : decode cX11_keep 30 = .ok (.sipush 200, 3) := by decide +kernel
theorem dX11_keep_33 : decode cX11_keep 33 = .ok (.goto 6, 3) := by decide +kernel
theorem dX11_keep_36 : decode cX11_keep 36 = .ok (.sipush 2048, 3) := by decide +kernel
theorem dX11_keep_39 : decode cX11_keep 39 = .ok (.istore_n 2, 1) := by decide +kernel
theorem dX11_keep_40 : decode cX11_keep 40 = .ok (.aload_n 0, 1) := by decide +kernel
theorem dX11_keep_41 : decode cX11_keep 41 = .ok (.getfield 107, 3) := by decide +kernel
theorem dX11_keep_44 : decode cX11_keep 44 = .ok (.ifCond .eq 11, 3) := by decide +kernel
theorem dX11_keep_47 : decode cX11_keep 47 = .ok (.aload_n 0, 1) := by decide +kernel
theorem dX11_keep_48 : decode cX11_keep 48 = .ok (.getfield 107, 3) := by decide +kernel
theorem dX11_keep_51 : decode cX11_keep 51 = .ok (.iload_n 2, 1) := by decide +kernel
theorem dX11_keep_52 : decode cX11_keep 52 = .ok (.if_icmp .le 6, 3) := by decide +kernel
theorem dX11_keep_55 : decode cX11_keep 55 = .ok (.bipush (-2), 2) := by decide +kernel
theorem dX11_keep_57 : decode cX11_keep 57 = .ok (.ireturn, 1) := by decide +kernel
theorem dX11_keep_58 : decode cX11_keep 58 = .ok (.aload_n 0, 1) := by decide +kernel
theorem dX11_keep_59 : decode cX11_keep 59 = .ok (.getfield 32, 3) := by decide +kernel
theorem dX11_keep_62 : decode cX11_keep 62 = .ok (.iconst 0, 1) := by decide +kernel
theorem dX11_keep_63 : decode cX11_keep 63 = .ok (.aload_n 0, 1) := by decide +kernel
theorem dX11_keep_64 : decode cX11_keep 64 = .ok (.getfield 38, 3) := by decide +kernel
theorem dX11_keep_67 : decode cX11_keep 67 = .ok (.iload_n 1, 1) := by decide +kernel
theorem dX11_keep_68 : decode cX11_keep 68 = .ok (.aaload, 1) := by decide +kernel
theorem dX11_keep_69 : decode cX11_keep 69 = .ok (.iconst 0, 1) := by decide +kernel
theorem dX11_keep_70 : decode cX11_keep 70 = .ok (.aload_n 0, 1) := by decide +kernel
theorem dX11_keep_71 : decode cX11_keep 71 = .ok (.getfield 107, 3) := by decide +kernel
theorem dX11_keep_74 : decode cX11_keep 74 = .ok (.invokestatic 113, 3) := by decide +kernel
theorem dX11_keep_77 : decode cX11_keep 77 = .ok (.aload_n 0, 1) := by decide +kernel
theorem dX11_keep_78 : decode cX11_keep 78 = .ok (.getfield 41, 3) := by decide +kernel
theorem dX11_keep_81 : decode cX11_keep 81 = .ok (.iload_n 1, 1) := by decide +kernel
theorem dX11_keep_82 : decode cX11_keep 82 = .ok (.aload_n 0, 1) := by decide +kernel
theorem dX11_keep_83 : decode cX11_keep 83 = .ok (.getfield 107, 3) := by decide +kernel
theorem dX11_keep_86 : decode cX11_keep 86 = .ok (.iastore, 1) := by decide +kernel
theorem dX11_keep_87 : decode cX11_keep 87 = .ok (.aload_n 0, 1) := by decide +kernel
theorem dX11_keep_88 : decode cX11_keep 88 = .ok (.iconst 0, 1) := by decide +kernel
theorem dX11_keep_89 : decode cX11_keep 89 = .ok (.putfield 107, 3) := by decide +kernel
theorem dX11_keep_92 : decode cX11_keep 92 = .ok (.aload_n 0, 1) := by decide +kernel
theorem dX11_keep_93 : decode cX11_keep 93 = .ok (.getfield 41, 3) := by decide +kernel
theorem dX11_keep_96 : decode cX11_keep 96 = .ok (.iload_n 1, 1) := by decide +kernel
theorem dX11_keep_97 : decode cX11_keep 97 = .ok (.iaload, 1) := by decide +kernel
theorem dX11_keep_98 : decode cX11_keep 98 = .ok (.ireturn, 1) := by decide +kernel
theorem cc_X11_keep : Cond.code yX11_keep cX11_keep 3 (some .int) ∈ rf_tb := rf_at 965 (by decide +kernel) (by decide +kernel)
noncomputable def bc_X11_keep_39 (a : Nat) (x1 : Int32) (v0 : Int32) (σ : cl_S) : Option (Int32 × cl_S) := (if (σ.1 a 4) = 0 then some ((-2:Int32), σ) else (if (σ.1 a 4) ≤ v0 then ix x1 10 (vl (σ.2.2.1 19 x1.toNatClampNeg) (fun r_6 => nn r_6 (fun a_9 => cpg (0:Int32) (0:Int32) (σ.1 a 4) 2048 (σ.2.2.2.1 a_9).2 (vl (cl_cp σ 18 a_9 (0:Int32) (0:Int32) (σ.1 a 4)) (fun σ_13 => ix x1 10 (vl (cl_w σ_13 30 x1.toNatClampNeg (σ_13.1 a 4)) (fun σ_19 => vl (cl_w σ_19 a 4 (0:Int32)) (fun σ_24 => ix x1 10 (some ((σ_24.1 30 x1.toNatClampNeg), σ_24)))))))))) else some ((-2:Int32), σ)))
set_option maxHeartbeats 4000000 in
theorem wc_X11_keep_39 (C : cl_C D p s m args meth c cX11_keep 3 (some .int) RX11) {r : Int32} {a : Nat} {x1 : Int32} {v0 : Int32} {σ0 σ σ' : cl_S} {T : Nat → Nat × Nat} {H : Heap} {locs : List Loc} {ls : Array Slot} {cells slots : Nat} (h : bc_X11_keep_39 a x1 v0 σ = some (r, σ')) (G : cl_G true D c0 ({ frames := 1, cells := σ0.2.2.2.2.2.1, slots := σ0.2.2.2.2.2.2, locals := 48 }) s σ0.2.2.2.1 T σ H locs cells slots) (ha : (T a).1 = 27) (hl : lv_has ls 3 [(0, .ref (c0 + a)), (1, .int x1)]) : W p l e ({ frames := 1, cells := σ0.2.2.2.2.2.1, slots := σ0.2.2.2.2.2.2, locals := 48 }) s m args below meth c H locs cells slots (MQ below (cl_Q true D c0 (some (.int r)) cl_no σ0 σ') args s (σ0.2.2.2.2.2.1 - σ'.2.2.2.2.2.1) (σ0.2.2.2.2.2.2 - σ'.2.2.2.2.2.2) (cl_A c0 σ0.2.2.2.1 s.heap.size)) (F0 m 39 ls [.int v0]) := by
  unfold bc_X11_keep_39 at h
  refine lv_istore_n (lv' := [(2, .int v0), (0, .ref (c0 + a)), (1, .int x1)]) C.1 C.2.1 dX11_keep_39 rfl hl (by decide) rfl (fun ls hl_1 => ?_)
  refine lv_aload_n C.1 C.2.1 dX11_keep_40 rfl (lv_at hl_1 1 rfl) ?_
  refine cg_11_107 C G ha dX11_keep_41 ?_
  refine lv_if_eq (tgt := 55) C.1 C.2.1 dX11_keep_44 (by decide) (fun hc => ?_) (fun hc => ?_)
  · rw [if_pos hc] at h
    refine lv_bipush (v := (-2:Int32)) C.1 C.2.1 dX11_keep_55 (by decide) ?_
    exact cl_iret ⟨rfl, rfl⟩ rfl C G h dX11_keep_57
  · rw [if_neg hc] at h
    refine lv_aload_n C.1 C.2.1 dX11_keep_47 rfl (lv_at hl_1 1 rfl) ?_
    refine cg_11_107 C G ha dX11_keep_48 ?_
    refine lv_iload_n C.1 C.2.1 dX11_keep_51 rfl (lv_at hl_1 0 rfl) ?_
    refine lv_icmp_le (tgt := 58) C.1 C.2.1 dX11_keep_52 (by decide) (fun hc => ?_) (fun hc => ?_)
    · rw [if_pos hc] at h
      refine lv_aload_n C.1 C.2.1 dX11_keep_58 rfl (lv_at hl_1 1 rfl) ?_
      refine cg_11_32 C G ha dX11_keep_59 (fun t_2 => ?_)
      refine lv_iconst (v := (0:Int32)) C.1 C.2.1 dX11_keep_62 (by decide) ?_
      refine lv_aload_n C.1 C.2.1 dX11_keep_63 rfl (lv_at hl_1 1 rfl) ?_
      refine cg_11_38 C G ha dX11_keep_64 (fun t_3 => ?_)
      refine lv_iload_n C.1 C.2.1 dX11_keep_67 rfl (lv_at hl_1 2 rfl) ?_
      obtain ⟨hi, h_4⟩ := ix_some h
      refine cl_aald C G t_3 (by decide) (by decide) rfl hi dX11_keep_68 (fun t_5 => ?_)
      refine vt_r (K := 1) t_5 h_4 (fun r_6 t_7 h_8 => ?_)
      refine lv_iconst (v := (0:Int32)) C.1 C.2.1 dX11_keep_69 (by decide) ?_
      refine lv_aload_n C.1 C.2.1 dX11_keep_70 rfl (lv_at hl_1 1 rfl) ?_
      refine cg_11_107 C G ha dX11_keep_71 ?_
      obtain ⟨a_9, rfl, h_11⟩ := nn_some h_8
      have t_10 := t_7 _ rfl
      have t_12 : T a_9 = (1, (σ.2.2.2.1 a_9).2) := by rw [G.1]; exact Prod.ext t_10 rfl
      obtain ⟨hcp, h_14⟩ := cpg_some h_11
      refine cl_copy C G t_2 t_12 hcp (C.2.2.2.2.1 _ mw_RX11_113) (Nat.le_of_ble_eq_true rfl) (show 0 + 18 ≤ 48 from by decide) hl_1.1 dX11_keep_74 (fun H locs G_15 => ?_)
      refine cl_nm G_15 h_14 (fun σ_13 G_16 h_17 => ?_)
      refine lv_aload_n C.1 C.2.1 dX11_keep_77 rfl (lv_at hl_1 1 rfl) ?_
      refine cg_11_41 C G_16 ha dX11_keep_78 (fun t_18 => ?_)
      refine lv_iload_n C.1 C.2.1 dX11_keep_81 rfl (lv_at hl_1 2 rfl) ?_
      refine lv_aload_n C.1 C.2.1 dX11_keep_82 rfl (lv_at hl_1 1 rfl) ?_
      refine cg_11_107 C G_16 ha dX11_keep_83 ?_
      obtain ⟨hi, h_20⟩ := ix_some h_17
      refine cl_iast C G_16 t_18 hi dX11_keep_86 (fun H locs G_21 => ?_)
      refine cl_nm G_21 h_20 (fun σ_19 G_22 h_23 => ?_)
      refine lv_aload_n C.1 C.2.1 dX11_keep_87 rfl (lv_at hl_1 1 rfl) ?_
      refine lv_iconst (v := (0:Int32)) C.1 C.2.1 dX11_keep_88 (by decide) ?_
      refine cp_11_107 C G_22 ha dX11_keep_89 (fun H locs G_25 => ?_)
      refine cl_nm G_25 h_23 (fun σ_24 G_26 h_27 => ?_)
      refine lv_aload_n C.1 C.2.1 dX11_keep_92 rfl (lv_at hl_1 1 rfl) ?_
      refine cg_11_41 C G_26 ha dX11_keep_93 (fun t_28 => ?_)
      refine lv_iload_n C.1 C.2.1 dX11_keep_96 rfl (lv_at hl_1 2 rfl) ?_
      obtain ⟨hi, h_29⟩ := ix_some h_27
      refine cl_iald C G_26 t_28 hi dX11_keep_97 ?_
      exact cl_iret ⟨rfl, rfl⟩ rfl C G_26 h_29 dX11_keep_98
    · rw [if_neg hc] at h
      refine lv_bipush (v := (-2:Int32)) C.1 C.2.1 dX11_keep_55 (by decide) ?_
      exact cl_iret ⟨rfl, rfl⟩ rfl C G h dX11_keep_57
noncomputable def bc_X11_keep_0 (a : Nat) (x1 : Int32) (σ : cl_S) : Option (Int32 × cl_S) := (if x1 < 0 then some ((-1:Int32), σ) else (if x1 ≤ (9:Int32) then (if x1 = (8:Int32) then bc_X11_keep_39 a x1 (256:Int32) σ else (if x1 = (9:Int32) then bc_X11_keep_39 a x1 (200:Int32) σ else bc_X11_keep_39 a x1 (2048:Int32) σ)) else some ((-1:Int32), σ)))
set_option maxHeartbeats 4000000 in
theorem wc_X11_keep_0 (C : cl_C D p s m args meth c cX11_keep 3 (some .int) RX11) {r : Int32} {a : Nat} {x1 : Int32} {σ0 σ σ' : cl_S} {T : Nat → Nat × Nat} {H : Heap} {locs : List Loc} {ls : Array Slot} {cells slots : Nat} (h : bc_X11_keep_0 a x1 σ = some (r, σ')) (G : cl_G true D c0 ({ frames := 1, cells := σ0.2.2.2.2.2.1, slots := σ0.2.2.2.2.2.2, locals := 48 }) s σ0.2.2.2.1 T σ H locs cells slots) (ha : (T a).1 = 27) (hl : lv_has ls 3 [(0, .ref (c0 + a)), (1, .int x1)]) : W p l e ({ frames := 1, cells := σ0.2.2.2.2.2.1, slots := σ0.2.2.2.2.2.2, locals := 48 }) s m args below meth c H locs cells slots (MQ below (cl_Q true D c0 (some (.int r)) cl_no σ0 σ') args s (σ0.2.2.2.2.2.1 - σ'.2.2.2.2.2.1) (σ0.2.2.2.2.2.2 - σ'.2.2.2.2.2.2) (cl_A c0 σ0.2.2.2.1 s.heap.size)) (F0 m 0 ls []) := by
  unfold bc_X11_keep_0 at h
  refine lv_iload_n C.1 C.2.1 dX11_keep_0 rfl (lv_at hl 1 rfl) ?_
  refine lv_if_lt (tgt := 10) C.1 C.2.1 dX11_keep_1 (by decide) (fun hc => ?_) (fun hc => ?_)
  · rw [if_pos hc] at h
    refine lv_iconst (v := (-1:Int32)) C.1 C.2.1 dX11_keep_10 (by decide) ?_
    exact cl_iret ⟨rfl, rfl⟩ rfl C G h dX11_keep_11
  · rw [if_neg hc] at h
    refine lv_iload_n C.1 C.2.1 dX11_keep_4 rfl (lv_at hl 1 rfl) ?_
    refine lv_bipush (v := (9:Int32)) C.1 C.2.1 dX11_keep_5 (by decide) ?_
    refine lv_icmp_le (tgt := 12) C.1 C.2.1 dX11_keep_7 (by decide) (fun hc => ?_) (fun hc => ?_)
    · rw [if_pos hc] at h
      refine lv_iload_n C.1 C.2.1 dX11_keep_12 rfl (lv_at hl 1 rfl) ?_
      refine lv_bipush (v := (8:Int32)) C.1 C.2.1 dX11_keep_13 (by decide) ?_
      refine lv_icmp_ne (tgt := 24) C.1 C.2.1 dX11_keep_15 (by decide) (fun hc => ?_) (fun hc => ?_)
      · rw [if_neg hc] at h
        refine lv_iload_n C.1 C.2.1 dX11_keep_24 rfl (lv_at hl 1 rfl) ?_
        refine lv_bipush (v := (9:Int32)) C.1 C.2.1 dX11_keep_25 (by decide) ?_
        refine lv_icmp_ne (tgt := 36) C.1 C.2.1 dX11_keep_27 (by decide) (fun hc => ?_) (fun hc => ?_)
        · rw [if_neg hc] at h
          refine lv_sipush (v := (2048:Int32)) C.1 C.2.1 dX11_keep_36 (by decide) ?_
          exact wc_X11_keep_39 C h G ha (lv_sub hl [0, 1] rfl)
        · rw [if_pos hc] at h
          refine lv_sipush (v := (200:Int32)) C.1 C.2.1 dX11_keep_30 (by decide) ?_
          refine lv_goto (tgt := 39) C.1 C.2.1 dX11_keep_33 (by decide) ?_
          exact wc_X11_keep_39 C h G ha (lv_sub hl [0, 1] rfl)
      · rw [if_pos hc] at h
        refine lv_sipush (v := (256:Int32)) C.1 C.2.1 dX11_keep_18 (by decide) ?_
        refine lv_goto (tgt := 39) C.1 C.2.1 dX11_keep_21 (by decide) ?_
        exact wc_X11_keep_39 C h G ha (lv_sub hl [0, 1] rfl)
    · rw [if_neg hc] at h
      refine lv_iconst (v := (-1:Int32)) C.1 C.2.1 dX11_keep_10 (by decide) ?_
      exact cl_iret ⟨rfl, rfl⟩ rfl C G h dX11_keep_11
noncomputable def fc_X11_keep (a : Nat) (x1 : Int32) (σ : cl_S) : Option (Int32 × cl_S) := bc_X11_keep_0 a x1 σ
theorem kc_X11_keep (l : Launch) (D : cl_D) (c0 : Nat) {r : Int32} {a : Nat} {x1 : Int32} {σ σ' : cl_S} (ha : (σ.2.2.2.1 a).1 = 27) (h : fc_X11_keep a x1 σ = some (r, σ')) : cl_Met true l D c0 yX11_keep cX11_keep 3 (some .int) 1 48 [.ref (c0 + a), .int x1] σ (some (.int r)) cl_no σ' :=
  cl_of (by decide) (Nat.le_of_ble_eq_true rfl) (fun p e s m args below meth c ls C hn G hl => wc_X11_keep_0 C h G ha hl)
abbrev cX11_safe : ByteArray := prog_1_method_11_code
def yX11_safe : MethodName := ⟨RX11, "safe", "(II)I"⟩
theorem dX11_safe_0 : decode cX11_safe 0 = .ok (.iload_n 1, 1) := by decide +kernel
theorem dX11_safe_1 : decode cX11_safe 1 = .ok (.ifCond .lt 18, 3) := by decide +kernel
theorem dX11_safe_4 : decode cX11_safe 4 = .ok (.iload_n 1, 1) := by decide +kernel
theorem dX11_safe_5 : decode cX11_safe 5 = .ok (.bipush 8, 2) := by decide +kernel
theorem dX11_safe_7 : decode cX11_safe 7 = .ok (.if_icmp .ge 12, 3) := by decide +kernel
theorem dX11_safe_10 : decode cX11_safe 10 = .ok (.aload_n 0, 1) := by decide +kernel
theorem dX11_safe_11 : decode cX11_safe 11 = .ok (.getfield 41, 3) := by decide +kernel
theorem dX11_safe_14 : decode cX11_safe 14 = .ok (.iload_n 1, 1) := by decide +kernel
theorem dX11_safe_15 : decode cX11_safe 15 = .ok (.iaload, 1) := by decide +kernel
theorem dX11_safe_16 : decode cX11_safe 16 = .ok (.ifCond .ne 5, 3) := by decide +kernel
theorem dX11_safe_19 : decode cX11_safe 19 = .ok (.iconst (-1), 1) := by decide +kernel
theorem dX11_safe_20 : decode cX11_safe 20 = .ok (.ireturn, 1) := by decide +kernel
theorem dX11_safe_21 : decode cX11_safe 21 = .ok (.iload_n 2, 1) := by decide +kernel
theorem dX11_safe_22 : decode cX11_safe 22 = .ok (.bipush 16, 2) := by decide +kernel
theorem dX11_safe_24 : decode cX11_safe 24 = .ok (.if_icmp .lt 20, 3) := by decide +kernel
theorem dX11_safe_27 : decode cX11_safe 27 = .ok (.iload_n 2, 1) := by decide +kernel
theorem dX11_safe_28 : decode cX11_safe 28 = .ok (.sipush 2048, 3) := by decide +kernel
theorem dX11_safe_31 : decode cX11_safe 31 = .ok (.if_icmp .gt 13, 3) := by decide +kernel
theorem dX11_safe_34 : decode cX11_safe 34 = .ok (.aload_n 0, 1) := by decide +kernel
theorem dX11_safe_35 : decode cX11_safe 35 = .ok (.getfield 41, 3) := by decide +kernel
theorem dX11_safe_38 : decode cX11_safe 38 = .ok (.iload_n 1, 1) := by decide +kernel
theorem dX11_safe_39 : decode cX11_safe 39 = .ok (.iaload, 1) := by decide +kernel
theorem dX11_safe_40 : decode cX11_safe 40 = .ok (.iload_n 2, 1) := by decide +kernel
theorem dX11_safe_41 : decode cX11_safe 41 = .ok (.if_icmp .le 6, 3) := by decide +kernel
theorem dX11_safe_44 : decode cX11_safe 44 = .ok (.bipush (-2), 2) := by decide +kernel
theorem dX11_safe_46 : decode cX11_safe 46 = .ok (.ireturn, 1) := by decide +kernel
theorem dX11_safe_47 : decode cX11_safe 47 = .ok (.aload_n 0, 1) := by decide +kernel
theorem dX11_safe_48 : decode cX11_safe 48 = .ok (.getfield 28, 3) := by decide +kernel
theorem dX11_safe_51 : decode cX11_safe 51 = .ok (.aload_n 0, 1) := by decide +kernel
theorem dX11_safe_52 : decode cX11_safe 52 = .ok (.getfield 38, 3) := by decide +kernel
theorem dX11_safe_55 : decode cX11_safe 55 = .ok (.iload_n 1, 1) := by decide +kernel
theorem dX11_safe_56 : decode cX11_safe 56 = .ok (.aaload, 1) := by decide +kernel
theorem dX11_safe_57 : decode cX11_safe 57 = .ok (.aload_n 0, 1) := by decide +kernel
theorem dX11_safe_58 : decode cX11_safe 58 = .ok (.getfield 41, 3) := by decide +kernel
theorem dX11_safe_61 : decode cX11_safe 61 = .ok (.iload_n 1, 1) := by decide +kernel
theorem dX11_safe_62 : decode cX11_safe 62 = .ok (.iaload, 1) := by decide +kernel
theorem dX11_safe_63 : decode cX11_safe 63 = .ok (.iload_n 2, 1) := by decide +kernel
theorem dX11_safe_64 : decode cX11_safe 64 = .ok (.invokevirtual 133, 3) := by decide +kernel
theorem dX11_safe_67 : decode cX11_safe 67 = .ok (.istore_n 3, 1) := by decide +kernel
theorem dX11_safe_68 : decode cX11_safe 68 = .ok (.iload_n 3, 1) := by decide +kernel
theorem dX11_safe_69 : decode cX11_safe 69 = .ok (.ifCond .ge 7, 3) := by decide +kernel
theorem dX11_safe_72 : decode cX11_safe 72 = .ok (.iconst 1, 1) := by decide +kernel
theorem dX11_safe_73 : decode cX11_safe 73 = .ok (.goto 7, 3) := by decide +kernel
theorem dX11_safe_76 : decode cX11_safe 76 = .ok (.bipush (-100), 2) := by decide +kernel
theorem dX11_safe_78 : decode cX11_safe 78 = .ok (.iload_n 3, 1) := by decide +kernel
theorem dX11_safe_79 : decode cX11_safe 79 = .ok (.isub, 1) := by decide +kernel
theorem dX11_safe_80 : decode cX11_safe 80 = .ok (.ireturn, 1) := by decide +kernel
theorem cc_X11_safe : Cond.code yX11_safe cX11_safe 4 (some .int) ∈ rf_tb := rf_at 969 (by decide +kernel) (by decide +kernel)
theorem cw_RX11_133 : cl_wV RX11 RX7 yX7_leastBad cX7_leastBad 5 (some .int) 133 3 := ⟨⟨rf_at 970 (by decide +kernel) (by decide +kernel), rf_at 971 (by decide +kernel) (by decide +kernel), rf_at 972 (by decide +kernel) (by decide +kernel), cc_X7_leastBad, rf_at 8 (by decide +kernel) (by decide +kernel)⟩, ⟨by decide, by decide, by decide +kernel⟩⟩
noncomputable def bc_X11_safe_0 (a : Nat) (x1 : Int32) (x2 : Int32) (σ : cl_S) : Option (Int32 × cl_S) := (if x1 < 0 then some ((-1:Int32), σ) else (if (8:Int32) ≤ x1 then some ((-1:Int32), σ) else ix x1 10 ((if (σ.1 30 x1.toNatClampNeg) = 0 then some ((-1:Int32), σ) else (if x2 < (16:Int32) then some ((-2:Int32), σ) else (if (2048:Int32) < x2 then some ((-2:Int32), σ) else ix x1 10 ((if (σ.1 30 x1.toNatClampNeg) ≤ x2 then ix x1 10 (vl (σ.2.2.1 19 x1.toNatClampNeg) (fun r_9 => ix x1 10 (bd2 (fc_X7_leastBad 15 r_9 (σ.1 30 x1.toNatClampNeg) x2 σ) (fun r_15 σ_14 => (if 0 ≤ r_15 then some (((-100:Int32) - r_15), σ_14) else some ((1:Int32), σ_14)))))) else some ((-2:Int32), σ)))))))))
set_option maxHeartbeats 4000000 in
theorem wc_X11_safe_0 (C : cl_C D p s m args meth c cX11_safe 4 (some .int) RX11) {r : Int32} {a : Nat} {x1 : Int32} {x2 : Int32} {σ0 σ σ' : cl_S} {T : Nat → Nat × Nat} {H : Heap} {locs : List Loc} {ls : Array Slot} {cells slots : Nat} (h : bc_X11_safe_0 a x1 x2 σ = some (r, σ')) (G : cl_G true D c0 ({ frames := 4, cells := σ0.2.2.2.2.2.1, slots := σ0.2.2.2.2.2.2, locals := 90 }) s σ0.2.2.2.1 T σ H locs cells slots) (ha : (T a).1 = 27) (hl : lv_has ls 4 [(0, .ref (c0 + a)), (1, .int x1), (2, .int x2)]) : W p l e ({ frames := 4, cells := σ0.2.2.2.2.2.1, slots := σ0.2.2.2.2.2.2, locals := 90 }) s m args below meth c H locs cells slots (MQ below (cl_Q true D c0 (some (.int r)) cl_no σ0 σ') args s (σ0.2.2.2.2.2.1 - σ'.2.2.2.2.2.1) (σ0.2.2.2.2.2.2 - σ'.2.2.2.2.2.2) (cl_A c0 σ0.2.2.2.1 s.heap.size)) (F0 m 0 ls []) := by
  unfold bc_X11_safe_0 at h
  refine lv_iload_n C.1 C.2.1 dX11_safe_0 rfl (lv_at hl 1 rfl) ?_
  refine lv_if_lt (tgt := 19) C.1 C.2.1 dX11_safe_1 (by decide) (fun hc => ?_) (fun hc => ?_)
  · rw [if_pos hc] at h
    refine lv_iconst (v := (-1:Int32)) C.1 C.2.1 dX11_safe_19 (by decide) ?_
    exact cl_iret ⟨rfl, rfl⟩ rfl C G h dX11_safe_20
  · rw [if_neg hc] at h
    refine lv_iload_n C.1 C.2.1 dX11_safe_4 rfl (lv_at hl 1 rfl) ?_
    refine lv_bipush (v := (8:Int32)) C.1 C.2.1 dX11_safe_5 (by decide) ?_
    refine lv_icmp_ge (tgt := 19) C.1 C.2.1 dX11_safe_7 (by decide) (fun hc => ?_) (fun hc => ?_)
    · rw [if_pos hc] at h
      refine lv_iconst (v := (-1:Int32)) C.1 C.2.1 dX11_safe_19 (by decide) ?_
      exact cl_iret ⟨rfl, rfl⟩ rfl C G h dX11_safe_20
    · rw [if_neg hc] at h
      refine lv_aload_n C.1 C.2.1 dX11_safe_10 rfl (lv_at hl 0 rfl) ?_
      refine cg_11_41 C G ha dX11_safe_11 (fun t_1 => ?_)
      refine lv_iload_n C.1 C.2.1 dX11_safe_14 rfl (lv_at hl 1 rfl) ?_
      obtain ⟨hi, h_2⟩ := ix_some h
      refine cl_iald C G t_1 hi dX11_safe_15 ?_
      refine lv_if_ne (tgt := 21) C.1 C.2.1 dX11_safe_16 (by decide) (fun hc => ?_) (fun hc => ?_)
      · rw [if_neg hc] at h_2
        refine lv_iload_n C.1 C.2.1 dX11_safe_21 rfl (lv_at hl 2 rfl) ?_
        refine lv_bipush (v := (16:Int32)) C.1 C.2.1 dX11_safe_22 (by decide) ?_
        refine lv_icmp_lt (tgt := 44) C.1 C.2.1 dX11_safe_24 (by decide) (fun hc => ?_) (fun hc => ?_)
        · rw [if_pos hc] at h_2
          refine lv_bipush (v := (-2:Int32)) C.1 C.2.1 dX11_safe_44 (by decide) ?_
          exact cl_iret ⟨rfl, rfl⟩ rfl C G h_2 dX11_safe_46
        · rw [if_neg hc] at h_2
          refine lv_iload_n C.1 C.2.1 dX11_safe_27 rfl (lv_at hl 2 rfl) ?_
          refine lv_sipush (v := (2048:Int32)) C.1 C.2.1 dX11_safe_28 (by decide) ?_
          refine lv_icmp_gt (tgt := 44) C.1 C.2.1 dX11_safe_31 (by decide) (fun hc => ?_) (fun hc => ?_)
          · rw [if_pos hc] at h_2
            refine lv_bipush (v := (-2:Int32)) C.1 C.2.1 dX11_safe_44 (by decide) ?_
            exact cl_iret ⟨rfl, rfl⟩ rfl C G h_2 dX11_safe_46
          · rw [if_neg hc] at h_2
            refine lv_aload_n C.1 C.2.1 dX11_safe_34 rfl (lv_at hl 0 rfl) ?_
            refine cg_11_41 C G ha dX11_safe_35 (fun t_3 => ?_)
            refine lv_iload_n C.1 C.2.1 dX11_safe_38 rfl (lv_at hl 1 rfl) ?_
            obtain ⟨hi, h_4⟩ := ix_some h_2
            refine cl_iald C G t_3 hi dX11_safe_39 ?_
            refine lv_iload_n C.1 C.2.1 dX11_safe_40 rfl (lv_at hl 2 rfl) ?_
            refine lv_icmp_le (tgt := 47) C.1 C.2.1 dX11_safe_41 (by decide) (fun hc => ?_) (fun hc => ?_)
            · rw [if_pos hc] at h_4
              refine lv_aload_n C.1 C.2.1 dX11_safe_47 rfl (lv_at hl 0 rfl) ?_
              refine cg_11_28 C G ha dX11_safe_48 (fun t_5 => ?_)
              have t_5 : (T 15).1 = 23 := by rw [t_5]
              refine lv_aload_n C.1 C.2.1 dX11_safe_51 rfl (lv_at hl 0 rfl) ?_
              refine cg_11_38 C G ha dX11_safe_52 (fun t_6 => ?_)
              refine lv_iload_n C.1 C.2.1 dX11_safe_55 rfl (lv_at hl 1 rfl) ?_
              obtain ⟨hi, h_7⟩ := ix_some h_4
              refine cl_aald C G t_6 (by decide) (by decide) rfl hi dX11_safe_56 (fun t_8 => ?_)
              refine vt_r (K := 1) t_8 h_7 (fun r_9 t_10 h_11 => ?_)
              refine lv_aload_n C.1 C.2.1 dX11_safe_57 rfl (lv_at hl 0 rfl) ?_
              refine cg_11_41 C G ha dX11_safe_58 (fun t_12 => ?_)
              refine lv_iload_n C.1 C.2.1 dX11_safe_61 rfl (lv_at hl 1 rfl) ?_
              obtain ⟨hi, h_13⟩ := ix_some h_11
              refine cl_iald C G t_12 hi dX11_safe_62 ?_
              refine lv_iload_n C.1 C.2.1 dX11_safe_63 rfl (lv_at hl 2 rfl) ?_
              obtain ⟨r_15, σ_14, hq, h_16⟩ := bd2_some h_13
              refine cl_callV (ci := 7) (rest := []) C G rfl t_5 cw_RX11_133 [cl_rf c0 r_9, .int (σ.1 30 x1.toNatClampNeg), .int x2] _ (kc_X7_leastBad l D c0 (by rw [G.1]; exact t_5) hq (by rw [G.1]; exact t_10)) (Nat.le_of_ble_eq_true rfl) (Nat.le_of_ble_eq_true rfl) rfl rfl hl.1 (Nat.le_of_ble_eq_true rfl) dX11_safe_64 (fun T_17 H locs cells slots t_18 hu G_19 => ?_)
              have ha := hu.kind ha (by decide)
              refine W.eq (g2 := F0 m 67 ls [.int r_15]) rfl ?_
              refine lv_istore_n (lv' := [(3, .int r_15), (0, .ref (c0 + a)), (1, .int x1), (2, .int x2)]) C.1 C.2.1 dX11_safe_67 rfl hl (by decide) rfl (fun ls hl_20 => ?_)
              refine lv_iload_n C.1 C.2.1 dX11_safe_68 rfl (lv_at hl_20 0 rfl) ?_
              refine lv_if_ge (tgt := 76) C.1 C.2.1 dX11_safe_69 (by decide) (fun hc => ?_) (fun hc => ?_)
              · rw [if_pos hc] at h_16
                refine lv_bipush (v := (-100:Int32)) C.1 C.2.1 dX11_safe_76 (by decide) ?_
                refine lv_iload_n C.1 C.2.1 dX11_safe_78 rfl (lv_at hl_20 0 rfl) ?_
                refine lv_isub C.1 C.2.1 dX11_safe_79 ?_
                exact cl_iret ⟨rfl, rfl⟩ rfl C G_19 h_16 dX11_safe_80
              · rw [if_neg hc] at h_16
                refine lv_iconst (v := (1:Int32)) C.1 C.2.1 dX11_safe_72 (by decide) ?_
                refine lv_goto (tgt := 80) C.1 C.2.1 dX11_safe_73 (by decide) ?_
                exact cl_iret ⟨rfl, rfl⟩ rfl C G_19 h_16 dX11_safe_80
            · rw [if_neg hc] at h_4
              refine lv_bipush (v := (-2:Int32)) C.1 C.2.1 dX11_safe_44 (by decide) ?_
              exact cl_iret ⟨rfl, rfl⟩ rfl C G h_4 dX11_safe_46
      · rw [if_pos hc] at h_2
        refine lv_iconst (v := (-1:Int32)) C.1 C.2.1 dX11_safe_19 (by decide) ?_
        exact cl_iret ⟨rfl, rfl⟩ rfl C G h_2 dX11_safe_20
noncomputable def fc_X11_safe (a : Nat) (x1 : Int32) (x2 : Int32) (σ : cl_S) : Option (Int32 × cl_S) := bc_X11_safe_0 a x1 x2 σ
theorem kc_X11_safe (l : Launch) (D : cl_D) (c0 : Nat) {r : Int32} {a : Nat} {x1 : Int32} {x2 : Int32} {σ σ' : cl_S} (ha : (σ.2.2.2.1 a).1 = 27) (h : fc_X11_safe a x1 x2 σ = some (r, σ')) : cl_Met true l D c0 yX11_safe cX11_safe 4 (some .int) 4 90 [.ref (c0 + a), .int x1, .int x2] σ (some (.int r)) cl_no σ' :=
  cl_of (by decide) (Nat.le_of_ble_eq_true rfl) (fun p e s m args below meth c ls C hn G hl => wc_X11_safe_0 C h G ha hl)
abbrev cX11_startBoot : ByteArray := prog_1_method_13_code
def yX11_startBoot : MethodName := ⟨RX11, "startBoot", "()V"⟩
theorem dX11_startBoot_0 : decode cX11_startBoot 0 = .ok (.aload_n 0, 1) := by decide +kernel
theorem dX11_startBoot_1 : decode cX11_startBoot 1 = .ok (.getfield 81, 3) := by decide +kernel
theorem dX11_startBoot_4 : decode cX11_startBoot 4 = .ok (.getfield 157, 3) := by decide +kernel
theorem dX11_startBoot_7 : decode cX11_startBoot 7 = .ok (.astore_n 1, 1) := by decide +kernel
theorem dX11_startBoot_8 : decode cX11_startBoot 8 = .ok (.aload_n 0, 1) := by decide +kernel
theorem dX11_startBoot_9 : decode cX11_startBoot 9 = .ok (.getfield 73, 3) := by decide +kernel
theorem dX11_startBoot_12 : decode cX11_startBoot 12 = .ok (.aload_n 0, 1) := by decide +kernel
theorem dX11_startBoot_13 : decode cX11_startBoot 13 = .ok (.getfield 69, 3) := by decide +kernel
theorem dX11_startBoot_16 : decode cX11_startBoot 16 = .ok (.invokevirtual 160, 3) := by decide +kernel
theorem dX11_startBoot_19 : decode cX11_startBoot 19 = .ok (.aload_n 0, 1) := by decide +kernel
theorem dX11_startBoot_20 : decode cX11_startBoot 20 = .ok (.getfield 81, 3) := by decide +kernel
theorem dX11_startBoot_23 : decode cX11_startBoot 23 = .ok (.aload_n 0, 1) := by decide +kernel
theorem dX11_startBoot_24 : decode cX11_startBoot 24 = .ok (.getfield 91, 3) := by decide +kernel
theorem dX11_startBoot_27 : decode cX11_startBoot 27 = .ok (.invokevirtual 164, 3) := by decide +kernel
theorem dX11_startBoot_30 : decode cX11_startBoot 30 = .ok (.aload_n 0, 1) := by decide +kernel
theorem dX11_startBoot_31 : decode cX11_startBoot 31 = .ok (.aload_n 1, 1) := by decide +kernel
theorem dX11_startBoot_32 : decode cX11_startBoot 32 = .ok (.putfield 91, 3) := by decide +kernel
theorem dX11_startBoot_35 : decode cX11_startBoot 35 = .ok (.aload_n 0, 1) := by decide +kernel
theorem dX11_startBoot_36 : decode cX11_startBoot 36 = .ok (.getfield 47, 3) := by decide +kernel
theorem dX11_startBoot_39 : decode cX11_startBoot 39 = .ok (.iconst 4, 1) := by decide +kernel
theorem dX11_startBoot_40 : decode cX11_startBoot 40 = .ok (.aload_n 0, 1) := by decide +kernel
theorem dX11_startBoot_41 : decode cX11_startBoot 41 = .ok (.getfield 47, 3) := by decide +kernel
theorem dX11_startBoot_44 : decode cX11_startBoot 44 = .ok (.aload_n 0, 1) := by decide +kernel
theorem dX11_startBoot_45 : decode cX11_startBoot 45 = .ok (.getfield 38, 3) := by decide +kernel
theorem dX11_startBoot_48 : decode cX11_startBoot 48 = .ok (.bipush 8, 2) := by decide +kernel
theorem dX11_startBoot_50 : decode cX11_startBoot 50 = .ok (.aaload, 1) := by decide +kernel
theorem dX11_startBoot_51 : decode cX11_startBoot 51 = .ok (.aload_n 0, 1) := by decide +kernel
theorem dX11_startBoot_52 : decode cX11_startBoot 52 = .ok (.getfield 41, 3) := by decide +kernel
theorem dX11_startBoot_55 : decode cX11_startBoot 55 = .ok (.bipush 8, 2) := by decide +kernel
theorem dX11_startBoot_57 : decode cX11_startBoot 57 = .ok (.iaload, 1) := by decide +kernel
theorem dX11_startBoot_58 : decode cX11_startBoot 58 = .ok (.invokevirtual 168, 3) := by decide +kernel
theorem dX11_startBoot_61 : decode cX11_startBoot 61 = .ok (.aload_n 0, 1) := by decide +kernel
theorem dX11_startBoot_62 : decode cX11_startBoot 62 = .ok (.getfield 47, 3) := by decide +kernel
theorem dX11_startBoot_65 : decode cX11_startBoot 65 = .ok (.getfield 62, 3) := by decide +kernel
theorem dX11_startBoot_68 : decode cX11_startBoot 68 = .ok (.aload_n 0, 1) := by decide +kernel
theorem dX11_startBoot_69 : decode cX11_startBoot 69 = .ok (.getfield 47, 3) := by decide +kernel
theorem dX11_startBoot_72 : decode cX11_startBoot 72 = .ok (.getfield 62, 3) := by decide +kernel
theorem dX11_startBoot_75 : decode cX11_startBoot 75 = .ok (.invokevirtual 171, 3) := by decide +kernel
theorem dX11_startBoot_78 : decode cX11_startBoot 78 = .ok (.astore_n 2, 1) := by decide +kernel
theorem dX11_startBoot_79 : decode cX11_startBoot 79 = .ok (.aload_n 0, 1) := by decide +kernel
theorem dX11_startBoot_80 : decode cX11_startBoot 80 = .ok (.getfield 47, 3) := by decide +kernel
theorem dX11_startBoot_83 : decode cX11_startBoot 83 = .ok (.iconst 4, 1) := by decide +kernel
theorem dX11_startBoot_84 : decode cX11_startBoot 84 = .ok (.aload_n 0, 1) := by decide +kernel
theorem dX11_startBoot_85 : decode cX11_startBoot 85 = .ok (.getfield 47, 3) := by decide +kernel
theorem dX11_startBoot_88 : decode cX11_startBoot 88 = .ok (.aload_n 0, 1) := by decide +kernel
theorem dX11_startBoot_89 : decode cX11_startBoot 89 = .ok (.getfield 38, 3) := by decide +kernel
theorem dX11_startBoot_92 : decode cX11_startBoot 92 = .ok (.bipush 9, 2) := by decide +kernel
theorem dX11_startBoot_94 : decode cX11_startBoot 94 = .ok (.aaload, 1) := by decide +kernel
theorem dX11_startBoot_95 : decode cX11_startBoot 95 = .ok (.aload_n 0, 1) := by decide +kernel
theorem dX11_startBoot_96 : decode cX11_startBoot 96 = .ok (.getfield 41, 3) := by decide +kernel
theorem dX11_startBoot_99 : decode cX11_startBoot 99 = .ok (.bipush 9, 2) := by decide +kernel
theorem dX11_startBoot_101 : decode cX11_startBoot 101 = .ok (.iaload, 1) := by decide +kernel
theorem dX11_startBoot_102 : decode cX11_startBoot 102 = .ok (.invokevirtual 168, 3) := by decide +kernel
theorem dX11_startBoot_105 : decode cX11_startBoot 105 = .ok (.aload_n 0, 1) := by decide +kernel
theorem dX11_startBoot_106 : decode cX11_startBoot 106 = .ok (.getfield 47, 3) := by decide +kernel
theorem dX11_startBoot_109 : decode cX11_startBoot 109 = .ok (.getfield 62, 3) := by decide +kernel
theorem dX11_startBoot_112 : decode cX11_startBoot 112 = .ok (.aload_n 0, 1) := by decide +kernel
theorem dX11_startBoot_113 : decode cX11_startBoot 113 = .ok (.getfield 47, 3) := by decide +kernel
theorem dX11_startBoot_116 : decode cX11_startBoot 116 = .ok (.getfield 62, 3) := by decide +kernel
theorem dX11_startBoot_119 : decode cX11_startBoot 119 = .ok (.invokevirtual 171, 3) := by decide +kernel
theorem dX11_startBoot_122 : decode cX11_startBoot 122 = .ok (.astore_n 3, 1) := by decide +kernel
theorem dX11_startBoot_123 : decode cX11_startBoot 123 = .ok (.aload_n 0, 1) := by decide +kernel
theorem dX11_startBoot_124 : decode cX11_startBoot 124 = .ok (.getfield 47, 3) := by decide +kernel
theorem dX11_startBoot_127 : decode cX11_startBoot 127 = .ok (.iconst 3, 1) := by decide +kernel
theorem dX11_startBoot_128 : decode cX11_startBoot 128 = .ok (.aload_n 2, 1) := by decide +kernel
theorem dX11_startBoot_129 : decode cX11_startBoot 129 = .ok (.aload_n 3, 1) := by decide +kernel
theorem dX11_startBoot_130 : decode cX11_startBoot 130 = .ok (.aload_n 0, 1) := by decide +kernel
theorem dX11_startBoot_131 : decode cX11_startBoot 131 = .ok (.getfield 47, 3) := by decide +kernel
theorem dX11_startBoot_134 : decode cX11_startBoot 134 = .ok (.getfield 62, 3) := by decide +kernel
theorem dX11_startBoot_137 : decode cX11_startBoot 137 = .ok (.invokevirtual 171, 3) := by decide +kernel
theorem dX11_startBoot_140 : decode cX11_startBoot 140 = .ok (.astore 4, 2) := by decide +kernel
theorem dX11_startBoot_142 : decode cX11_startBoot 142 = .ok (.aload_n 0, 1) := by decide +kernel
theorem dX11_startBoot_143 : decode cX11_startBoot 143 = .ok (.getfield 47, 3) := by decide +kernel
theorem dX11_startBoot_146 : decode cX11_startBoot 146 = .ok (.iconst 4, 1) := by decide +kernel
theorem dX11_startBoot_147 : decode cX11_startBoot 147 = .ok (.aload 4, 2) := by decide +kernel
theorem dX11_startBoot_149 : decode cX11_startBoot 149 = .ok (.aload_n 0, 1) := by decide +kernel
theorem dX11_startBoot_150 : decode cX11_startBoot 150 = .ok (.getfield 47, 3) := by decide +kernel
theorem dX11_startBoot_153 : decode cX11_startBoot 153 = .ok (.getfield 62, 3) := by decide +kernel
theorem dX11_startBoot_156 : decode cX11_startBoot 156 = .ok (.aload_n 0, 1) := by decide +kernel
theorem dX11_startBoot_157 : decode cX11_startBoot 157 = .ok (.getfield 47, 3) := by decide +kernel
theorem dX11_startBoot_160 : decode cX11_startBoot 160 = .ok (.getfield 62, 3) := by decide +kernel
theorem dX11_startBoot_163 : decode cX11_startBoot 163 = .ok (.invokevirtual 171, 3) := by decide +kernel
theorem dX11_startBoot_166 : decode cX11_startBoot 166 = .ok (.astore 5, 2) := by decide +kernel
theorem dX11_startBoot_168 : decode cX11_startBoot 168 = .ok (.iconst 0, 1) := by decide +kernel
theorem dX11_startBoot_169 : decode cX11_startBoot 169 = .ok (.istore 6, 2) := by decide +kernel
theorem dX11_startBoot_171 : decode cX11_startBoot 171 = .ok (.iload 6, 2) := by decide +kernel
theorem dX11_startBoot_173 : decode cX11_startBoot 173 = .ok (.aload_n 0, 1) := by decide +kernel
theorem dX11_startBoot_174 : decode cX11_startBoot 174 = .ok (.getfield 81, 3) := by decide +kernel
theorem dX11_startBoot_177 : decode cX11_startBoot 177 = .ok (.getfield 157, 3) := by decide +kernel
theorem dX11_startBoot_180 : decode cX11_startBoot 180 = .ok (.getfield 145, 3) := by decide +kernel
theorem dX11_startBoot_183 : decode cX11_startBoot 183 = .ok (.if_icmp .ge 117, 3) := by decide +kernel
theorem dX11_startBoot_186 : decode cX11_startBoot 186 = .ok (.aload_n 0, 1) := by decide +kernel
theorem dX11_startBoot_187 : decode cX11_startBoot 187 = .ok (.getfield 81, 3) := by decide +kernel
theorem dX11_startBoot_190 : decode cX11_startBoot 190 = .ok (.getfield 175, 3) := by decide +kernel
theorem dX11_startBoot_193 : decode cX11_startBoot 193 = .ok (.iload 6, 2) := by decide +kernel
theorem dX11_startBoot_195 : decode cX11_startBoot 195 = .ok (.aaload, 1) := by decide +kernel
theorem dX11_startBoot_196 : decode cX11_startBoot 196 = .ok (.astore 7, 2) := by decide +kernel
theorem dX11_startBoot_198 : decode cX11_startBoot 198 = .ok (.aload 7, 2) := by decide +kernel
theorem dX11_startBoot_200 : decode cX11_startBoot 200 = .ok (.aload_n 0, 1) := by decide +kernel
theorem dX11_startBoot_201 : decode cX11_startBoot 201 = .ok (.getfield 47, 3) := by decide +kernel
theorem dX11_startBoot_204 : decode cX11_startBoot 204 = .ok (.aload_n 0, 1) := by decide +kernel
theorem dX11_startBoot_205 : decode cX11_startBoot 205 = .ok (.getfield 38, 3) := by decide +kernel
theorem dX11_startBoot_208 : decode cX11_startBoot 208 = .ok (.iload 6, 2) := by decide +kernel
theorem dX11_startBoot_210 : decode cX11_startBoot 210 = .ok (.aaload, 1) := by decide +kernel
theorem dX11_startBoot_211 : decode cX11_startBoot 211 = .ok (.aload_n 0, 1) := by decide +kernel
theorem dX11_startBoot_212 : decode cX11_startBoot 212 = .ok (.getfield 41, 3) := by decide +kernel
theorem dX11_startBoot_215 : decode cX11_startBoot 215 = .ok (.iload 6, 2) := by decide +kernel
theorem dX11_startBoot_217 : decode cX11_startBoot 217 = .ok (.iaload, 1) := by decide +kernel
theorem dX11_startBoot_218 : decode cX11_startBoot 218 = .ok (.invokevirtual 168, 3) := by decide +kernel
theorem dX11_startBoot_221 : decode cX11_startBoot 221 = .ok (.putfield 179, 3) := by decide +kernel
theorem dX11_startBoot_224 : decode cX11_startBoot 224 = .ok (.aload 7, 2) := by decide +kernel
theorem dX11_startBoot_226 : decode cX11_startBoot 226 = .ok (.aload_n 0, 1) := by decide +kernel
theorem dX11_startBoot_227 : decode cX11_startBoot 227 = .ok (.getfield 47, 3) := by decide +kernel
theorem dX11_startBoot_230 : decode cX11_startBoot 230 = .ok (.aload 5, 2) := by decide +kernel
theorem dX11_startBoot_232 : decode cX11_startBoot 232 = .ok (.iload 6, 2) := by decide +kernel
theorem dX11_startBoot_234 : decode cX11_startBoot 234 = .ok (.aload 7, 2) := by decide +kernel
theorem dX11_startBoot_236 : decode cX11_startBoot 236 = .ok (.getfield 179, 3) := by decide +kernel
theorem dX11_startBoot_239 : decode cX11_startBoot 239 = .ok (.invokevirtual 184, 3) := by decide +kernel
theorem dX11_startBoot_242 : decode cX11_startBoot 242 = .ok (.putfield 188, 3) := by decide +kernel
theorem dX11_startBoot_245 : decode cX11_startBoot 245 = .ok (.aload 7, 2) := by decide +kernel
theorem dX11_startBoot_247 : decode cX11_startBoot 247 = .ok (.aload_n 0, 1) := by decide +kernel
theorem dX11_startBoot_248 : decode cX11_startBoot 248 = .ok (.getfield 47, 3) := by decide +kernel
theorem dX11_startBoot_251 : decode cX11_startBoot 251 = .ok (.bipush 9, 2) := by decide +kernel
theorem dX11_startBoot_253 : decode cX11_startBoot 253 = .ok (.aload_n 0, 1) := by decide +kernel
theorem dX11_startBoot_254 : decode cX11_startBoot 254 = .ok (.getfield 47, 3) := by decide +kernel
theorem dX11_startBoot_257 : decode cX11_startBoot 257 = .ok (.getfield 190, 3) := by decide +kernel
theorem dX11_startBoot_260 : decode cX11_startBoot 260 = .ok (.aload 7, 2) := by decide +kernel
theorem dX11_startBoot_262 : decode cX11_startBoot 262 = .ok (.getfield 188, 3) := by decide +kernel
theorem dX11_startBoot_265 : decode cX11_startBoot 265 = .ok (.aload_n 0, 1) := by decide +kernel
theorem dX11_startBoot_266 : decode cX11_startBoot 266 = .ok (.getfield 47, 3) := by decide +kernel
theorem dX11_startBoot_269 : decode cX11_startBoot 269 = .ok (.getfield 62, 3) := by decide +kernel
theorem dX11_startBoot_272 : decode cX11_startBoot 272 = .ok (.invokevirtual 171, 3) := by decide +kernel
theorem dX11_startBoot_275 : decode cX11_startBoot 275 = .ok (.putfield 193, 3) := by decide +kernel
theorem dX11_startBoot_278 : decode cX11_startBoot 278 = .ok (.aload 7, 2) := by decide +kernel
theorem dX11_startBoot_280 : decode cX11_startBoot 280 = .ok (.getfield 196, 3) := by decide +kernel
theorem dX11_startBoot_283 : decode cX11_startBoot 283 = .ok (.aload 7, 2) := by decide +kernel
theorem dX11_startBoot_285 : decode cX11_startBoot 285 = .ok (.getfield 179, 3) := by decide +kernel
theorem dX11_startBoot_288 : decode cX11_startBoot 288 = .ok (.getfield 200, 3) := by decide +kernel
theorem dX11_startBoot_291 : decode cX11_startBoot 291 = .ok (.invokevirtual 203, 3) := by decide +kernel
theorem dX11_startBoot_294 : decode cX11_startBoot 294 = .ok (.iinc 6 1, 3) := by decide +kernel
theorem dX11_startBoot_297 : decode cX11_startBoot 297 = .ok (.goto (-126), 3) := by decide +kernel
theorem dX11_startBoot_300 : decode cX11_startBoot 300 = .ok (.aload_n 0, 1) := by decide +kernel
theorem dX11_startBoot_301 : decode cX11_startBoot 301 = .ok (.getfield 81, 3) := by decide +kernel
theorem dX11_startBoot_304 : decode cX11_startBoot 304 = .ok (.iconst 1, 1) := by decide +kernel
theorem dX11_startBoot_305 : decode cX11_startBoot 305 = .ok (.putfield 137, 3) := by decide +kernel
theorem dX11_startBoot_308 : decode cX11_startBoot 308 = .ok (.return_, 1) := by decide +kernel
theorem cc_X11_startBoot : Cond.code yX11_startBoot cX11_startBoot 8 none ∈ rf_tb := rf_at 1037 (by decide +kernel) (by decide +kernel)
theorem cw_RX11_160 : cl_wV RX11 RX3 yX3_copyFrom cX3_copyFrom 3 none 160 1 := ⟨⟨rf_at 1038 (by decide +kernel) (by decide +kernel), rf_at 1039 (by decide +kernel) (by decide +kernel), rf_at 1040 (by decide +kernel) (by decide +kernel), cc_X3_copyFrom, rf_at 12 (by decide +kernel) (by decide +kernel)⟩, ⟨by decide, by decide, by decide +kernel⟩⟩
theorem cw_RX11_164 : cl_wV RX11 RX5 yX5_begin cX5_begin 3 none 164 1 := ⟨⟨rf_at 1042 (by decide +kernel) (by decide +kernel), rf_at 1043 (by decide +kernel) (by decide +kernel), rf_at 1044 (by decide +kernel) (by decide +kernel), cc_X5_begin, rf_at 13 (by decide +kernel) (by decide +kernel)⟩, ⟨by decide, by decide, by decide +kernel⟩⟩
theorem cw_RX11_168 : cl_wV RX11 RX10 yX10_row cX10_row 6 (some (.object "PartHouse$Term")) 168 2 := ⟨⟨rf_at 1061 (by decide +kernel) (by decide +kernel), rf_at 1062 (by decide +kernel) (by decide +kernel), rf_at 1063 (by decide +kernel) (by decide +kernel), cc_X10_row, rf_at 9 (by decide +kernel) (by decide +kernel)⟩, ⟨by decide, by decide, by decide +kernel⟩⟩
theorem cw_RX11_171 : cl_wV RX11 RX10 yX10_made cX10_made 6 (some (.object "PartHouse$Term")) 171 4 := ⟨⟨rf_at 1080 (by decide +kernel) (by decide +kernel), rf_at 311 (by decide +kernel) (by decide +kernel), rf_at 312 (by decide +kernel) (by decide +kernel), cc_X10_made, rf_at 9 (by decide +kernel) (by decide +kernel)⟩, ⟨by decide, by decide, by decide +kernel⟩⟩
theorem cw_RX11_184 : cl_wV RX11 RX10 yX10_measured cX10_measured 6 (some (.object "PartHouse$Term")) 184 3 := ⟨⟨rf_at 1081 (by decide +kernel) (by decide +kernel), rf_at 1082 (by decide +kernel) (by decide +kernel), rf_at 1083 (by decide +kernel) (by decide +kernel), cc_X10_measured, rf_at 9 (by decide +kernel) (by decide +kernel)⟩, ⟨by decide, by decide, by decide +kernel⟩⟩
theorem cw_RX11_203 : cl_wV RX11 RX2 yX2_load cX2_load 2 none 203 1 := ⟨⟨rf_at 1085 (by decide +kernel) (by decide +kernel), rf_at 1086 (by decide +kernel) (by decide +kernel), rf_at 1087 (by decide +kernel) (by decide +kernel), cc_X2_load, rf_at 16 (by decide +kernel) (by decide +kernel)⟩, ⟨by decide, by decide, by decide +kernel⟩⟩
noncomputable def lc_X11_startBoot_171 (a : Nat) (x5 : (Option Nat)) (x6 : Int32) (σ : cl_S) : Option ((Int32 × cl_S) ⊕ (Int32 × cl_S)) := vl (σ.2.2.1 47 3) (fun r_128 => nn r_128 (fun a_131 => (if (σ.1 a_131 0) ≤ x6 then some (.inr (x6, σ)) else ix x6 8 (vl (σ.2.2.1 (47 + 12 + cl_md 47) x6.toNatClampNeg) (fun r_138 => ix x6 10 (vl (σ.2.2.1 19 x6.toNatClampNeg) (fun r_146 => ix x6 10 (bd2 (fc_X10_row 31 r_146 (σ.1 30 x6.toNatClampNeg) σ) (fun r_152 σ_151 => nn r_138 (fun a_157 => vl (cl_wr σ_151 a_157 15 r_152) (fun σ_160 => vl (σ_160.2.2.1 a_157 15) (fun r_166 => bd2 (fc_X10_measured 31 x5 x6 r_166 σ_160) (fun r_170 σ_169 => vl (cl_wr σ_169 a_157 16 r_170) (fun σ_175 => vl (σ_175.2.2.1 31 5) (fun r_182 => vl (σ_175.2.2.1 a_157 16) (fun r_186 => vl (σ_175.2.2.1 31 4) (fun r_191 => bd2 (fc_X10_made 31 (9:Int32) r_182 r_186 r_191 σ_175) (fun r_195 σ_194 => vl (cl_wr σ_194 a_157 17 r_195) (fun σ_200 => vl (σ_200.2.2.1 a_157 15) (fun r_206 => nn r_206 (fun a_209 => nn (σ_200.2.2.1 a_209 6) (fun a_212 => bd1 (fc_X2_load (a_157 + 1) (some a_212) σ_200) (fun σ_215 => vl (x6 + (1:Int32)) (fun x6_220 => some (.inl (x6_220, σ_215))))))))))))))))))))))))))
noncomputable def ec_X11_startBoot_171 (a : Nat) (x5 : (Option Nat)) (x6 : Int32) (σ : cl_S) : Option (cl_S) := vl (cl_w σ 47 8 (1:Int32)) (fun σ_224 => some σ_224)
noncomputable def bc_X11_startBoot_171 (a : Nat) (x5 : (Option Nat)) (x6 : Int32) (σ : cl_S) : Option (cl_S) := (lp (fun z : (Int32 × cl_S) => lc_X11_startBoot_171 a x5 z.1 z.2) (x6, σ)).bind (fun z => ec_X11_startBoot_171 a x5 z.1 z.2)
set_option maxHeartbeats 4000000 in
theorem wc_X11_startBoot_171 (C : cl_C D p s m args meth c cX11_startBoot 8 none RX11) {a : Nat} {x5 : (Option Nat)} {x6 : Int32} {σ0 σ σ' : cl_S} {T : Nat → Nat × Nat} {H : Heap} {locs : List Loc} {ls : Array Slot} {cells slots : Nat} (h : bc_X11_startBoot_171 a x5 x6 σ = some σ') (G : cl_G true D c0 ({ frames := 5, cells := σ0.2.2.2.2.2.1, slots := σ0.2.2.2.2.2.2, locals := 121 }) s σ0.2.2.2.1 T σ H locs cells slots) (ha : (T a).1 = 27) (f5 : cl_RT T x5 25) (hl : lv_has ls 8 [(0, .ref (c0 + a)), (5, cl_rf c0 x5), (6, .int x6)]) : W p l e ({ frames := 5, cells := σ0.2.2.2.2.2.1, slots := σ0.2.2.2.2.2.2, locals := 121 }) s m args below meth c H locs cells slots (MQ below (cl_Q true D c0 none cl_no σ0 σ') args s (σ0.2.2.2.2.2.1 - σ'.2.2.2.2.2.1) (σ0.2.2.2.2.2.2 - σ'.2.2.2.2.2.2) (cl_A c0 σ0.2.2.2.1 s.heap.size)) (F0 m 171 ls []) := by
  unfold bc_X11_startBoot_171 at h
  obtain ⟨y, hy, h⟩ := bd_some h
  have hE : (fun z : (Int32 × cl_S) => ∀ (T : Nat → Nat × Nat) (H : Heap) (locs : List Loc) (ls : Array Slot) (cells slots : Nat), cl_G true D c0 ({ frames := 5, cells := σ0.2.2.2.2.2.1, slots := σ0.2.2.2.2.2.2, locals := 121 }) s σ0.2.2.2.1 T z.2 H locs cells slots → (T a).1 = 27 → cl_RT T x5 25 → lv_has ls 8 [(0, .ref (c0 + a)), (5, cl_rf c0 x5), (6, .int (z.1))] → W p l e ({ frames := 5, cells := σ0.2.2.2.2.2.1, slots := σ0.2.2.2.2.2.2, locals := 121 }) s m args below meth c H locs cells slots (MQ below (cl_Q true D c0 none cl_no σ0 σ') args s (σ0.2.2.2.2.2.1 - σ'.2.2.2.2.2.1) (σ0.2.2.2.2.2.2 - σ'.2.2.2.2.2.2) (cl_A c0 σ0.2.2.2.1 s.heap.size)) (F0 m 300 ls [])) y := by
    clear hy G ha f5 hl
    intro T H locs ls cells slots G ha f5 hl
    obtain ⟨x6, σ⟩ := y
    dsimp only at h G ha f5 hl
    unfold ec_X11_startBoot_171 at h
    refine lv_aload_n C.1 C.2.1 dX11_startBoot_300 rfl (lv_at hl 0 rfl) ?_
    refine cg_11_81 C G ha dX11_startBoot_301 (fun t_223 => ?_)
    have t_223 : (T 47).1 = 21 := by rw [t_223]
    refine lv_iconst (v := (1:Int32)) C.1 C.2.1 dX11_startBoot_304 (by decide) ?_
    refine cp_11_137 C G t_223 rfl rfl dX11_startBoot_305 (fun H locs G_225 => ?_)
    refine cl_nm G_225 h (fun σ_224 G_226 h_227 => ?_)
    exact cl_vret ⟨rfl, rfl⟩ rfl C G_226 h_227 dX11_startBoot_308
  refine lp_recE (fun z : (Int32 × cl_S) => ∀ (T : Nat → Nat × Nat) (H : Heap) (locs : List Loc) (ls : Array Slot) (cells slots : Nat), cl_G true D c0 ({ frames := 5, cells := σ0.2.2.2.2.2.1, slots := σ0.2.2.2.2.2.2, locals := 121 }) s σ0.2.2.2.1 T z.2 H locs cells slots → (T a).1 = 27 → cl_RT T x5 25 → lv_has ls 8 [(0, .ref (c0 + a)), (5, cl_rf c0 x5), (6, .int (z.1))] → W p l e ({ frames := 5, cells := σ0.2.2.2.2.2.1, slots := σ0.2.2.2.2.2.2, locals := 121 }) s m args below meth c H locs cells slots (MQ below (cl_Q true D c0 none cl_no σ0 σ') args s (σ0.2.2.2.2.2.1 - σ'.2.2.2.2.2.1) (σ0.2.2.2.2.2.2 - σ'.2.2.2.2.2.2) (cl_A c0 σ0.2.2.2.1 s.heap.size)) (F0 m 171 ls [])) (fun z : (Int32 × cl_S) => ∀ (T : Nat → Nat × Nat) (H : Heap) (locs : List Loc) (ls : Array Slot) (cells slots : Nat), cl_G true D c0 ({ frames := 5, cells := σ0.2.2.2.2.2.1, slots := σ0.2.2.2.2.2.2, locals := 121 }) s σ0.2.2.2.1 T z.2 H locs cells slots → (T a).1 = 27 → cl_RT T x5 25 → lv_has ls 8 [(0, .ref (c0 + a)), (5, cl_rf c0 x5), (6, .int (z.1))] → W p l e ({ frames := 5, cells := σ0.2.2.2.2.2.1, slots := σ0.2.2.2.2.2.2, locals := 121 }) s m args below meth c H locs cells slots (MQ below (cl_Q true D c0 none cl_no σ0 σ') args s (σ0.2.2.2.2.2.1 - σ'.2.2.2.2.2.1) (σ0.2.2.2.2.2.2 - σ'.2.2.2.2.2.2) (cl_A c0 σ0.2.2.2.1 s.heap.size)) (F0 m 300 ls [])) ?_ _ _ hy hE _ _ _ _ _ _ G ha f5 hl
  clear hE hy G ha f5 hl h
  intro z o h hP T H locs ls cells slots G ha f5 hl
  obtain ⟨x6, σ⟩ := z
  dsimp only at h G ha f5 hl
  unfold lc_X11_startBoot_171 at h
  refine lv_iload C.1 C.2.1 dX11_startBoot_171 (lv_at hl 2 rfl) ?_
  refine lv_aload_n C.1 C.2.1 dX11_startBoot_173 rfl (lv_at hl 0 rfl) ?_
  refine cg_11_81 C G ha dX11_startBoot_174 (fun t_126 => ?_)
  have t_126 : (T 47).1 = 21 := by rw [t_126]
  refine cg_11_157 C G t_126 dX11_startBoot_177 (fun t_127 => ?_)
  refine vt_r (K := 17) t_127 h (fun r_128 t_129 h_130 => ?_)
  obtain ⟨a_131, rfl, h_133⟩ := nn_some h_130
  have t_132 := t_129 _ rfl
  refine cg_11_145 C G t_132 dX11_startBoot_180 ?_
  refine lv_icmp_ge (tgt := 300) C.1 C.2.1 dX11_startBoot_183 (by decide) (fun hc => ?_) (fun hc => ?_)
  · rw [if_pos hc] at h_133
    cases h_133
    exact hP _ _ _ _ _ _ G ha f5 (lv_sub hl [0, 1, 2] rfl)
  · rw [if_neg hc] at h_133
    refine lv_aload_n C.1 C.2.1 dX11_startBoot_186 rfl (lv_at hl 0 rfl) ?_
    refine cg_11_81 C G ha dX11_startBoot_187 (fun t_134 => ?_)
    have t_134 : (T 47).1 = 21 := by rw [t_134]
    refine cg_11_175 C G t_134 dX11_startBoot_190 (fun t_135 => ?_)
    refine lv_iload C.1 C.2.1 dX11_startBoot_193 (lv_at hl 2 rfl) ?_
    obtain ⟨hi, h_136⟩ := ix_some h_133
    refine cl_aald C G t_135 (by decide) (by decide) rfl hi dX11_startBoot_195 (fun t_137 => ?_)
    refine vt_r (K := 22) t_137 h_136 (fun r_138 t_139 h_140 => ?_)
    refine cl_astore (lv' := [(7, cl_rf c0 r_138), (0, .ref (c0 + a)), (5, cl_rf c0 x5), (6, .int x6)]) C.1 C.2.1 dX11_startBoot_196 hl (by decide) (by first | rfl | (cases x5 <;> rfl)) (fun ls hl_141 => ?_)
    refine cl_aload C.1 C.2.1 dX11_startBoot_198 (lv_at hl_141 0 rfl) ?_
    refine lv_aload_n C.1 C.2.1 dX11_startBoot_200 rfl (lv_at hl_141 1 rfl) ?_
    refine cg_11_47 C G ha dX11_startBoot_201 (fun t_142 => ?_)
    have t_142 : (T 31).1 = 26 := by rw [t_142]
    refine lv_aload_n C.1 C.2.1 dX11_startBoot_204 rfl (lv_at hl_141 1 rfl) ?_
    refine cg_11_38 C G ha dX11_startBoot_205 (fun t_143 => ?_)
    refine lv_iload C.1 C.2.1 dX11_startBoot_208 (lv_at hl_141 3 rfl) ?_
    obtain ⟨hi, h_144⟩ := ix_some h_140
    refine cl_aald C G t_143 (by decide) (by decide) rfl hi dX11_startBoot_210 (fun t_145 => ?_)
    refine vt_r (K := 1) t_145 h_144 (fun r_146 t_147 h_148 => ?_)
    refine lv_aload_n C.1 C.2.1 dX11_startBoot_211 rfl (lv_at hl_141 1 rfl) ?_
    refine cg_11_41 C G ha dX11_startBoot_212 (fun t_149 => ?_)
    refine lv_iload C.1 C.2.1 dX11_startBoot_215 (lv_at hl_141 3 rfl) ?_
    obtain ⟨hi, h_150⟩ := ix_some h_148
    refine cl_iald C G t_149 hi dX11_startBoot_217 ?_
    obtain ⟨r_152, σ_151, hq, h_153⟩ := bd2_some h_150
    refine cl_callV (ci := 10) (rest := [cl_rf c0 r_138]) C G rfl t_142 cw_RX11_168 [cl_rf c0 r_146, .int (σ.1 30 x6.toNatClampNeg)] _ (kc_X10_row l D c0 (by rw [G.1]; exact t_142) hq (by rw [G.1]; exact t_147)) (Nat.le_of_ble_eq_true rfl) (Nat.le_of_ble_eq_true rfl) rfl rfl hl_141.1 (by cases r_138 <;> exact Nat.le_of_ble_eq_true rfl) dX11_startBoot_218 (fun T_154 H locs cells slots t_155 hu G_156 => ?_)
    have t_139 := t_139.up hu (by decide)
    have ha := hu.kind ha (by decide)
    have f5 := f5.up hu (by decide)
    refine W.eq (g2 := F0 m 221 ls [cl_rf c0 r_152, cl_rf c0 r_138]) rfl ?_
    obtain ⟨a_157, rfl, h_159⟩ := nn_some h_153
    have t_158 := t_139 _ rfl
    refine cp_11_179 (x := r_152) C G_156 t_158 t_155 dX11_startBoot_221 (fun H locs G_161 => ?_)
    refine cl_nm G_161 h_159 (fun σ_160 G_162 h_163 => ?_)
    refine lv_aload C.1 C.2.1 dX11_startBoot_224 (lv_at hl_141 0 rfl) ?_
    refine lv_aload_n C.1 C.2.1 dX11_startBoot_226 rfl (lv_at hl_141 1 rfl) ?_
    refine cg_11_47 C G_162 ha dX11_startBoot_227 (fun t_164 => ?_)
    have t_164 : (T_154 31).1 = 26 := by rw [t_164]
    refine cl_aload C.1 C.2.1 dX11_startBoot_230 (lv_at hl_141 2 rfl) ?_
    refine lv_iload C.1 C.2.1 dX11_startBoot_232 (lv_at hl_141 3 rfl) ?_
    refine lv_aload C.1 C.2.1 dX11_startBoot_234 (lv_at hl_141 0 rfl) ?_
    refine cg_11_179 C G_162 t_158 dX11_startBoot_236 (fun t_165 => ?_)
    refine vt_r (K := 25) t_165 h_163 (fun r_166 t_167 h_168 => ?_)
    obtain ⟨r_170, σ_169, hq, h_171⟩ := bd2_some h_168
    refine cl_callV (ci := 10) (rest := [.ref (c0 + a_157)]) C G_162 rfl t_164 cw_RX11_184 [cl_rf c0 x5, .int x6, cl_rf c0 r_166] _ (kc_X10_measured l D c0 (by rw [G_162.1]; exact t_164) hq (by rw [G_162.1]; exact f5) (by rw [G_162.1]; exact t_167)) (Nat.le_of_ble_eq_true rfl) (Nat.le_of_ble_eq_true rfl) rfl rfl hl_141.1 (Nat.le_of_ble_eq_true rfl) dX11_startBoot_239 (fun T_172 H locs cells slots t_173 hu G_174 => ?_)
    have t_158 := hu.kind t_158 (by decide)
    have ha := hu.kind ha (by decide)
    have f5 := f5.up hu (by decide)
    refine W.eq (g2 := F0 m 242 ls [cl_rf c0 r_170, .ref (c0 + a_157)]) rfl ?_
    refine cp_11_188 (x := r_170) C G_174 t_158 t_173 dX11_startBoot_242 (fun H locs G_176 => ?_)
    refine cl_nm G_176 h_171 (fun σ_175 G_177 h_178 => ?_)
    refine lv_aload C.1 C.2.1 dX11_startBoot_245 (lv_at hl_141 0 rfl) ?_
    refine lv_aload_n C.1 C.2.1 dX11_startBoot_247 rfl (lv_at hl_141 1 rfl) ?_
    refine cg_11_47 C G_177 ha dX11_startBoot_248 (fun t_179 => ?_)
    have t_179 : (T_172 31).1 = 26 := by rw [t_179]
    refine lv_bipush (v := (9:Int32)) C.1 C.2.1 dX11_startBoot_251 (by decide) ?_
    refine lv_aload_n C.1 C.2.1 dX11_startBoot_253 rfl (lv_at hl_141 1 rfl) ?_
    refine cg_11_47 C G_177 ha dX11_startBoot_254 (fun t_180 => ?_)
    have t_180 : (T_172 31).1 = 26 := by rw [t_180]
    refine cg_11_190 C G_177 t_180 dX11_startBoot_257 (fun t_181 => ?_)
    refine vt_r (K := 25) t_181 h_178 (fun r_182 t_183 h_184 => ?_)
    refine lv_aload C.1 C.2.1 dX11_startBoot_260 (lv_at hl_141 0 rfl) ?_
    refine cg_11_188 C G_177 t_158 dX11_startBoot_262 (fun t_185 => ?_)
    refine vt_r (K := 25) t_185 h_184 (fun r_186 t_187 h_188 => ?_)
    refine lv_aload_n C.1 C.2.1 dX11_startBoot_265 rfl (lv_at hl_141 1 rfl) ?_
    refine cg_11_47 C G_177 ha dX11_startBoot_266 (fun t_189 => ?_)
    have t_189 : (T_172 31).1 = 26 := by rw [t_189]
    refine cg_11_62 C G_177 t_189 dX11_startBoot_269 (fun t_190 => ?_)
    refine vt_r (K := 25) t_190 h_188 (fun r_191 t_192 h_193 => ?_)
    obtain ⟨r_195, σ_194, hq, h_196⟩ := bd2_some h_193
    refine cl_callV (ci := 10) (rest := [.ref (c0 + a_157)]) C G_177 rfl t_179 cw_RX11_171 [.int (9:Int32), cl_rf c0 r_182, cl_rf c0 r_186, cl_rf c0 r_191] _ (kc_X10_made l D c0 (by rw [G_177.1]; exact t_179) hq (by rw [G_177.1]; exact t_183) (by rw [G_177.1]; exact t_187) (by rw [G_177.1]; exact t_192)) (Nat.le_of_ble_eq_true rfl) (Nat.le_of_ble_eq_true rfl) rfl rfl hl_141.1 (Nat.le_of_ble_eq_true rfl) dX11_startBoot_272 (fun T_197 H locs cells slots t_198 hu G_199 => ?_)
    have t_158 := hu.kind t_158 (by decide)
    have ha := hu.kind ha (by decide)
    have f5 := f5.up hu (by decide)
    refine W.eq (g2 := F0 m 275 ls [cl_rf c0 r_195, .ref (c0 + a_157)]) rfl ?_
    refine cp_11_193 (x := r_195) C G_199 t_158 t_198 dX11_startBoot_275 (fun H locs G_201 => ?_)
    refine cl_nm G_201 h_196 (fun σ_200 G_202 h_203 => ?_)
    refine lv_aload C.1 C.2.1 dX11_startBoot_278 (lv_at hl_141 0 rfl) ?_
    refine cg_11_196 C G_202 t_158 dX11_startBoot_280 (fun t_204 => ?_)
    have t_204 : (T_197 (a_157 + 1)).1 = 18 := by rw [t_204]
    refine lv_aload C.1 C.2.1 dX11_startBoot_283 (lv_at hl_141 0 rfl) ?_
    refine cg_11_179 C G_202 t_158 dX11_startBoot_285 (fun t_205 => ?_)
    refine vt_r (K := 25) t_205 h_203 (fun r_206 t_207 h_208 => ?_)
    obtain ⟨a_209, rfl, h_211⟩ := nn_some h_208
    have t_210 := t_207 _ rfl
    obtain ⟨a_212, hw, h_214⟩ := nn_some h_211
    refine cg_11_200 C G_202 t_210 hw dX11_startBoot_288 (fun t_213 => ?_)
    obtain ⟨σ_215, hq, h_216⟩ := bd1_some h_214
    refine cl_callV (ci := 2) (rest := []) C G_202 rfl t_204 cw_RX11_203 [.ref (c0 + a_212)] _ (kc_X2_load l D c0 (by rw [G_202.1]; exact t_204) hq (by rw [G_202.1]; exact (cl_RTs (by rw [t_213])))) (Nat.le_of_ble_eq_true rfl) (Nat.le_of_ble_eq_true rfl) rfl rfl hl_141.1 (Nat.le_of_ble_eq_true rfl) dX11_startBoot_291 (fun T_217 H locs cells slots t_218 hu G_219 => ?_)
    have t_158 := hu.kind t_158 (by decide)
    have ha := hu.kind ha (by decide)
    have f5 := f5.up hu (by decide)
    refine W.eq (g2 := F0 m 294 ls []) rfl ?_
    refine vl_ex h_216 (fun x6_220 ey h_221 => ?_)
    refine lv_iinc (v := x6_220) (lv' := [(6, .int x6_220), (7, .ref (c0 + a_157)), (0, .ref (c0 + a)), (5, cl_rf c0 x5)]) C.1 C.2.1 dX11_startBoot_294 hl_141 (k := 3) rfl (by rw [ey]; rfl) (by decide) (by first | rfl | (cases x5 <;> rfl)) (fun ls hl_222 => ?_)
    refine lv_goto (tgt := 171) C.1 C.2.1 dX11_startBoot_297 (by decide) ?_
    cases h_221
    exact hP _ _ _ _ _ _ G_219 ha f5 (lv_sub hl_222 [2, 3, 0] rfl)
noncomputable def bc_X11_startBoot_0 (a : Nat) (σ : cl_S) : Option (cl_S) := vl (σ.2.2.1 47 3) (fun r_3 => bd1 (fc_X3_copyFrom 44 (some 41) σ) (fun σ_9 => vl (σ_9.2.2.1 a 13) (fun r_16 => bd1 (fc_X5_begin 47 r_16 σ_9) (fun σ_19 => vl (cl_wr σ_19 a 13 r_3) (fun σ_24 => ix (8:Int32) 10 (vl (σ_24.2.2.1 19 (8:Int32).toNatClampNeg) (fun r_33 => ix (8:Int32) 10 (bd2 (fc_X10_row 31 r_33 (σ_24.1 30 (8:Int32).toNatClampNeg) σ_24) (fun r_39 σ_38 => vl (σ_38.2.2.1 31 4) (fun r_46 => vl (σ_38.2.2.1 31 4) (fun r_51 => bd2 (fc_X10_made 31 (4:Int32) r_39 r_46 r_51 σ_38) (fun r_55 σ_54 => ix (9:Int32) 10 (vl (σ_54.2.2.1 19 (9:Int32).toNatClampNeg) (fun r_66 => ix (9:Int32) 10 (bd2 (fc_X10_row 31 r_66 (σ_54.1 30 (9:Int32).toNatClampNeg) σ_54) (fun r_72 σ_71 => vl (σ_71.2.2.1 31 4) (fun r_79 => vl (σ_71.2.2.1 31 4) (fun r_84 => bd2 (fc_X10_made 31 (4:Int32) r_72 r_79 r_84 σ_71) (fun r_88 σ_87 => vl (σ_87.2.2.1 31 4) (fun r_97 => bd2 (fc_X10_made 31 (3:Int32) r_55 r_88 r_97 σ_87) (fun r_101 σ_100 => vl (σ_100.2.2.1 31 4) (fun r_110 => vl (σ_100.2.2.1 31 4) (fun r_115 => bd2 (fc_X10_made 31 (4:Int32) r_101 r_110 r_115 σ_100) (fun r_119 σ_118 => bc_X11_startBoot_171 a r_119 (0:Int32) σ_118))))))))))))))))))))))))
set_option maxHeartbeats 4000000 in
theorem wc_X11_startBoot_0 (C : cl_C D p s m args meth c cX11_startBoot 8 none RX11) {a : Nat} {σ0 σ σ' : cl_S} {T : Nat → Nat × Nat} {H : Heap} {locs : List Loc} {ls : Array Slot} {cells slots : Nat} (h : bc_X11_startBoot_0 a σ = some σ') (G : cl_G true D c0 ({ frames := 5, cells := σ0.2.2.2.2.2.1, slots := σ0.2.2.2.2.2.2, locals := 121 }) s σ0.2.2.2.1 T σ H locs cells slots) (ha : (T a).1 = 27) (hl : lv_has ls 8 [(0, .ref (c0 + a))]) : W p l e ({ frames := 5, cells := σ0.2.2.2.2.2.1, slots := σ0.2.2.2.2.2.2, locals := 121 }) s m args below meth c H locs cells slots (MQ below (cl_Q true D c0 none cl_no σ0 σ') args s (σ0.2.2.2.2.2.1 - σ'.2.2.2.2.2.1) (σ0.2.2.2.2.2.2 - σ'.2.2.2.2.2.2) (cl_A c0 σ0.2.2.2.1 s.heap.size)) (F0 m 0 ls []) := by
  unfold bc_X11_startBoot_0 at h
  refine lv_aload_n C.1 C.2.1 dX11_startBoot_0 rfl (lv_at hl 0 rfl) ?_
  refine cg_11_81 C G ha dX11_startBoot_1 (fun t_1 => ?_)
  have t_1 : (T 47).1 = 21 := by rw [t_1]
  refine cg_11_157 C G t_1 dX11_startBoot_4 (fun t_2 => ?_)
  refine vt_r (K := 17) t_2 h (fun r_3 t_4 h_5 => ?_)
  refine cl_astore_n (lv' := [(1, cl_rf c0 r_3), (0, .ref (c0 + a))]) C.1 C.2.1 dX11_startBoot_7 rfl hl (by decide) rfl (fun ls hl_6 => ?_)
  refine lv_aload_n C.1 C.2.1 dX11_startBoot_8 rfl (lv_at hl_6 1 rfl) ?_
  refine cg_11_73 C G ha dX11_startBoot_9 (fun t_7 => ?_)
  have t_7 : (T 44).1 = 19 := by rw [t_7]
  refine lv_aload_n C.1 C.2.1 dX11_startBoot_12 rfl (lv_at hl_6 1 rfl) ?_
  refine cg_11_69 C G ha dX11_startBoot_13 (fun t_8 => ?_)
  have t_8 : (T 41).1 = 19 := by rw [t_8]
  obtain ⟨σ_9, hq, h_10⟩ := bd1_some h_5
  refine cl_callV (ci := 3) (rest := []) C G rfl t_7 cw_RX11_160 [.ref (c0 + 41)] _ (kc_X3_copyFrom l D c0 (by rw [G.1]; exact t_7) hq (by rw [G.1]; exact (cl_RTs t_8))) (Nat.le_of_ble_eq_true rfl) (Nat.le_of_ble_eq_true rfl) rfl rfl hl_6.1 (Nat.le_of_ble_eq_true rfl) dX11_startBoot_16 (fun T_11 H locs cells slots t_12 hu G_13 => ?_)
  have t_4 := t_4.up hu (by decide)
  have ha := hu.kind ha (by decide)
  refine W.eq (g2 := F0 m 19 ls []) rfl ?_
  refine lv_aload_n C.1 C.2.1 dX11_startBoot_19 rfl (lv_at hl_6 1 rfl) ?_
  refine cg_11_81 C G_13 ha dX11_startBoot_20 (fun t_14 => ?_)
  have t_14 : (T_11 47).1 = 21 := by rw [t_14]
  refine lv_aload_n C.1 C.2.1 dX11_startBoot_23 rfl (lv_at hl_6 1 rfl) ?_
  refine cg_11_91 C G_13 ha dX11_startBoot_24 (fun t_15 => ?_)
  refine vt_r (K := 17) t_15 h_10 (fun r_16 t_17 h_18 => ?_)
  obtain ⟨σ_19, hq, h_20⟩ := bd1_some h_18
  refine cl_callV (ci := 5) (rest := []) C G_13 rfl t_14 cw_RX11_164 [cl_rf c0 r_16] _ (kc_X5_begin l D c0 (by rw [G_13.1]; exact t_14) hq (by rw [G_13.1]; exact t_17)) (Nat.le_of_ble_eq_true rfl) (Nat.le_of_ble_eq_true rfl) rfl rfl hl_6.1 (Nat.le_of_ble_eq_true rfl) dX11_startBoot_27 (fun T_21 H locs cells slots t_22 hu G_23 => ?_)
  have t_4 := t_4.up hu (by decide)
  have ha := hu.kind ha (by decide)
  refine W.eq (g2 := F0 m 30 ls []) rfl ?_
  refine lv_aload_n C.1 C.2.1 dX11_startBoot_30 rfl (lv_at hl_6 1 rfl) ?_
  refine cl_aload_n C.1 C.2.1 dX11_startBoot_31 rfl (lv_at hl_6 0 rfl) ?_
  refine cp_11_91 (x := r_3) C G_23 ha t_4 dX11_startBoot_32 (fun H locs G_25 => ?_)
  refine cl_nm G_25 h_20 (fun σ_24 G_26 h_27 => ?_)
  refine lv_aload_n C.1 C.2.1 dX11_startBoot_35 rfl (lv_at hl_6 1 rfl) ?_
  refine cg_11_47 C G_26 ha dX11_startBoot_36 (fun t_28 => ?_)
  have t_28 : (T_21 31).1 = 26 := by rw [t_28]
  refine lv_iconst (v := (4:Int32)) C.1 C.2.1 dX11_startBoot_39 (by decide) ?_
  refine lv_aload_n C.1 C.2.1 dX11_startBoot_40 rfl (lv_at hl_6 1 rfl) ?_
  refine cg_11_47 C G_26 ha dX11_startBoot_41 (fun t_29 => ?_)
  have t_29 : (T_21 31).1 = 26 := by rw [t_29]
  refine lv_aload_n C.1 C.2.1 dX11_startBoot_44 rfl (lv_at hl_6 1 rfl) ?_
  refine cg_11_38 C G_26 ha dX11_startBoot_45 (fun t_30 => ?_)
  refine lv_bipush (v := (8:Int32)) C.1 C.2.1 dX11_startBoot_48 (by decide) ?_
  obtain ⟨hi, h_31⟩ := ix_some h_27
  refine cl_aald C G_26 t_30 (by decide) (by decide) rfl hi dX11_startBoot_50 (fun t_32 => ?_)
  refine vt_r (K := 1) t_32 h_31 (fun r_33 t_34 h_35 => ?_)
  refine lv_aload_n C.1 C.2.1 dX11_startBoot_51 rfl (lv_at hl_6 1 rfl) ?_
  refine cg_11_41 C G_26 ha dX11_startBoot_52 (fun t_36 => ?_)
  refine lv_bipush (v := (8:Int32)) C.1 C.2.1 dX11_startBoot_55 (by decide) ?_
  obtain ⟨hi, h_37⟩ := ix_some h_35
  refine cl_iald C G_26 t_36 hi dX11_startBoot_57 ?_
  obtain ⟨r_39, σ_38, hq, h_40⟩ := bd2_some h_37
  refine cl_callV (ci := 10) (rest := [.int (4:Int32), .ref (c0 + 31)]) C G_26 rfl t_29 cw_RX11_168 [cl_rf c0 r_33, .int (σ_24.1 30 (8:Int32).toNatClampNeg)] _ (kc_X10_row l D c0 (by rw [G_26.1]; exact t_29) hq (by rw [G_26.1]; exact t_34)) (Nat.le_of_ble_eq_true rfl) (Nat.le_of_ble_eq_true rfl) rfl rfl hl_6.1 (Nat.le_of_ble_eq_true rfl) dX11_startBoot_58 (fun T_41 H locs cells slots t_42 hu G_43 => ?_)
  have t_4 := t_4.up hu (by decide)
  have ha := hu.kind ha (by decide)
  have t_28 := hu.kind t_28 (by decide)
  refine W.eq (g2 := F0 m 61 ls [cl_rf c0 r_39, .int (4:Int32), .ref (c0 + 31)]) rfl ?_
  refine lv_aload_n C.1 C.2.1 dX11_startBoot_61 rfl (lv_at hl_6 1 rfl) ?_
  refine cg_11_47 C G_43 ha dX11_startBoot_62 (fun t_44 => ?_)
  have t_44 : (T_41 31).1 = 26 := by rw [t_44]
  refine cg_11_62 C G_43 t_44 dX11_startBoot_65 (fun t_45 => ?_)
  refine vt_r (K := 25) t_45 h_40 (fun r_46 t_47 h_48 => ?_)
  refine lv_aload_n C.1 C.2.1 dX11_startBoot_68 rfl (lv_at hl_6 1 rfl) ?_
  refine cg_11_47 C G_43 ha dX11_startBoot_69 (fun t_49 => ?_)
  have t_49 : (T_41 31).1 = 26 := by rw [t_49]
  refine cg_11_62 C G_43 t_49 dX11_startBoot_72 (fun t_50 => ?_)
  refine vt_r (K := 25) t_50 h_48 (fun r_51 t_52 h_53 => ?_)
  obtain ⟨r_55, σ_54, hq, h_56⟩ := bd2_some h_53
  refine cl_callV (ci := 10) (rest := []) C G_43 rfl t_28 cw_RX11_171 [.int (4:Int32), cl_rf c0 r_39, cl_rf c0 r_46, cl_rf c0 r_51] _ (kc_X10_made l D c0 (by rw [G_43.1]; exact t_28) hq (by rw [G_43.1]; exact t_42) (by rw [G_43.1]; exact t_47) (by rw [G_43.1]; exact t_52)) (Nat.le_of_ble_eq_true rfl) (Nat.le_of_ble_eq_true rfl) rfl rfl hl_6.1 (Nat.le_of_ble_eq_true rfl) dX11_startBoot_75 (fun T_57 H locs cells slots t_58 hu G_59 => ?_)
  have t_4 := t_4.up hu (by decide)
  have ha := hu.kind ha (by decide)
  refine W.eq (g2 := F0 m 78 ls [cl_rf c0 r_55]) rfl ?_
  refine cl_astore_n (lv' := [(2, cl_rf c0 r_55), (1, cl_rf c0 r_3), (0, .ref (c0 + a))]) C.1 C.2.1 dX11_startBoot_78 rfl hl_6 (by decide) (by first | rfl | (cases r_3 <;> rfl)) (fun ls hl_60 => ?_)
  refine lv_aload_n C.1 C.2.1 dX11_startBoot_79 rfl (lv_at hl_60 2 rfl) ?_
  refine cg_11_47 C G_59 ha dX11_startBoot_80 (fun t_61 => ?_)
  have t_61 : (T_57 31).1 = 26 := by rw [t_61]
  refine lv_iconst (v := (4:Int32)) C.1 C.2.1 dX11_startBoot_83 (by decide) ?_
  refine lv_aload_n C.1 C.2.1 dX11_startBoot_84 rfl (lv_at hl_60 2 rfl) ?_
  refine cg_11_47 C G_59 ha dX11_startBoot_85 (fun t_62 => ?_)
  have t_62 : (T_57 31).1 = 26 := by rw [t_62]
  refine lv_aload_n C.1 C.2.1 dX11_startBoot_88 rfl (lv_at hl_60 2 rfl) ?_
  refine cg_11_38 C G_59 ha dX11_startBoot_89 (fun t_63 => ?_)
  refine lv_bipush (v := (9:Int32)) C.1 C.2.1 dX11_startBoot_92 (by decide) ?_
  obtain ⟨hi, h_64⟩ := ix_some h_56
  refine cl_aald C G_59 t_63 (by decide) (by decide) rfl hi dX11_startBoot_94 (fun t_65 => ?_)
  refine vt_r (K := 1) t_65 h_64 (fun r_66 t_67 h_68 => ?_)
  refine lv_aload_n C.1 C.2.1 dX11_startBoot_95 rfl (lv_at hl_60 2 rfl) ?_
  refine cg_11_41 C G_59 ha dX11_startBoot_96 (fun t_69 => ?_)
  refine lv_bipush (v := (9:Int32)) C.1 C.2.1 dX11_startBoot_99 (by decide) ?_
  obtain ⟨hi, h_70⟩ := ix_some h_68
  refine cl_iald C G_59 t_69 hi dX11_startBoot_101 ?_
  obtain ⟨r_72, σ_71, hq, h_73⟩ := bd2_some h_70
  refine cl_callV (ci := 10) (rest := [.int (4:Int32), .ref (c0 + 31)]) C G_59 rfl t_62 cw_RX11_168 [cl_rf c0 r_66, .int (σ_54.1 30 (9:Int32).toNatClampNeg)] _ (kc_X10_row l D c0 (by rw [G_59.1]; exact t_62) hq (by rw [G_59.1]; exact t_67)) (Nat.le_of_ble_eq_true rfl) (Nat.le_of_ble_eq_true rfl) rfl rfl hl_60.1 (Nat.le_of_ble_eq_true rfl) dX11_startBoot_102 (fun T_74 H locs cells slots t_75 hu G_76 => ?_)
  have t_58 := t_58.up hu (by decide)
  have t_4 := t_4.up hu (by decide)
  have ha := hu.kind ha (by decide)
  have t_61 := hu.kind t_61 (by decide)
  refine W.eq (g2 := F0 m 105 ls [cl_rf c0 r_72, .int (4:Int32), .ref (c0 + 31)]) rfl ?_
  refine lv_aload_n C.1 C.2.1 dX11_startBoot_105 rfl (lv_at hl_60 2 rfl) ?_
  refine cg_11_47 C G_76 ha dX11_startBoot_106 (fun t_77 => ?_)
  have t_77 : (T_74 31).1 = 26 := by rw [t_77]
  refine cg_11_62 C G_76 t_77 dX11_startBoot_109 (fun t_78 => ?_)
  refine vt_r (K := 25) t_78 h_73 (fun r_79 t_80 h_81 => ?_)
  refine lv_aload_n C.1 C.2.1 dX11_startBoot_112 rfl (lv_at hl_60 2 rfl) ?_
  refine cg_11_47 C G_76 ha dX11_startBoot_113 (fun t_82 => ?_)
  have t_82 : (T_74 31).1 = 26 := by rw [t_82]
  refine cg_11_62 C G_76 t_82 dX11_startBoot_116 (fun t_83 => ?_)
  refine vt_r (K := 25) t_83 h_81 (fun r_84 t_85 h_86 => ?_)
  obtain ⟨r_88, σ_87, hq, h_89⟩ := bd2_some h_86
  refine cl_callV (ci := 10) (rest := []) C G_76 rfl t_61 cw_RX11_171 [.int (4:Int32), cl_rf c0 r_72, cl_rf c0 r_79, cl_rf c0 r_84] _ (kc_X10_made l D c0 (by rw [G_76.1]; exact t_61) hq (by rw [G_76.1]; exact t_75) (by rw [G_76.1]; exact t_80) (by rw [G_76.1]; exact t_85)) (Nat.le_of_ble_eq_true rfl) (Nat.le_of_ble_eq_true rfl) rfl rfl hl_60.1 (Nat.le_of_ble_eq_true rfl) dX11_startBoot_119 (fun T_90 H locs cells slots t_91 hu G_92 => ?_)
  have t_58 := t_58.up hu (by decide)
  have t_4 := t_4.up hu (by decide)
  have ha := hu.kind ha (by decide)
  refine W.eq (g2 := F0 m 122 ls [cl_rf c0 r_88]) rfl ?_
  refine cl_astore_n (lv' := [(3, cl_rf c0 r_88), (2, cl_rf c0 r_55), (1, cl_rf c0 r_3), (0, .ref (c0 + a))]) C.1 C.2.1 dX11_startBoot_122 rfl hl_60 (by decide) (by first | rfl | (cases r_55 <;> cases r_3 <;> rfl)) (fun ls hl_93 => ?_)
  refine lv_aload_n C.1 C.2.1 dX11_startBoot_123 rfl (lv_at hl_93 3 rfl) ?_
  refine cg_11_47 C G_92 ha dX11_startBoot_124 (fun t_94 => ?_)
  have t_94 : (T_90 31).1 = 26 := by rw [t_94]
  refine lv_iconst (v := (3:Int32)) C.1 C.2.1 dX11_startBoot_127 (by decide) ?_
  refine cl_aload_n C.1 C.2.1 dX11_startBoot_128 rfl (lv_at hl_93 1 rfl) ?_
  refine cl_aload_n C.1 C.2.1 dX11_startBoot_129 rfl (lv_at hl_93 0 rfl) ?_
  refine lv_aload_n C.1 C.2.1 dX11_startBoot_130 rfl (lv_at hl_93 3 rfl) ?_
  refine cg_11_47 C G_92 ha dX11_startBoot_131 (fun t_95 => ?_)
  have t_95 : (T_90 31).1 = 26 := by rw [t_95]
  refine cg_11_62 C G_92 t_95 dX11_startBoot_134 (fun t_96 => ?_)
  refine vt_r (K := 25) t_96 h_89 (fun r_97 t_98 h_99 => ?_)
  obtain ⟨r_101, σ_100, hq, h_102⟩ := bd2_some h_99
  refine cl_callV (ci := 10) (rest := []) C G_92 rfl t_94 cw_RX11_171 [.int (3:Int32), cl_rf c0 r_55, cl_rf c0 r_88, cl_rf c0 r_97] _ (kc_X10_made l D c0 (by rw [G_92.1]; exact t_94) hq (by rw [G_92.1]; exact t_58) (by rw [G_92.1]; exact t_91) (by rw [G_92.1]; exact t_98)) (Nat.le_of_ble_eq_true rfl) (Nat.le_of_ble_eq_true rfl) rfl rfl hl_93.1 (Nat.le_of_ble_eq_true rfl) dX11_startBoot_137 (fun T_103 H locs cells slots t_104 hu G_105 => ?_)
  have t_91 := t_91.up hu (by decide)
  have t_58 := t_58.up hu (by decide)
  have t_4 := t_4.up hu (by decide)
  have ha := hu.kind ha (by decide)
  refine W.eq (g2 := F0 m 140 ls [cl_rf c0 r_101]) rfl ?_
  refine cl_astore (lv' := [(4, cl_rf c0 r_101), (3, cl_rf c0 r_88), (2, cl_rf c0 r_55), (1, cl_rf c0 r_3), (0, .ref (c0 + a))]) C.1 C.2.1 dX11_startBoot_140 hl_93 (by decide) (by first | rfl | (cases r_88 <;> cases r_55 <;> cases r_3 <;> rfl)) (fun ls hl_106 => ?_)
  refine lv_aload_n C.1 C.2.1 dX11_startBoot_142 rfl (lv_at hl_106 4 rfl) ?_
  refine cg_11_47 C G_105 ha dX11_startBoot_143 (fun t_107 => ?_)
  have t_107 : (T_103 31).1 = 26 := by rw [t_107]
  refine lv_iconst (v := (4:Int32)) C.1 C.2.1 dX11_startBoot_146 (by decide) ?_
  refine cl_aload C.1 C.2.1 dX11_startBoot_147 (lv_at hl_106 0 rfl) ?_
  refine lv_aload_n C.1 C.2.1 dX11_startBoot_149 rfl (lv_at hl_106 4 rfl) ?_
  refine cg_11_47 C G_105 ha dX11_startBoot_150 (fun t_108 => ?_)
  have t_108 : (T_103 31).1 = 26 := by rw [t_108]
  refine cg_11_62 C G_105 t_108 dX11_startBoot_153 (fun t_109 => ?_)
  refine vt_r (K := 25) t_109 h_102 (fun r_110 t_111 h_112 => ?_)
  refine lv_aload_n C.1 C.2.1 dX11_startBoot_156 rfl (lv_at hl_106 4 rfl) ?_
  refine cg_11_47 C G_105 ha dX11_startBoot_157 (fun t_113 => ?_)
  have t_113 : (T_103 31).1 = 26 := by rw [t_113]
  refine cg_11_62 C G_105 t_113 dX11_startBoot_160 (fun t_114 => ?_)
  refine vt_r (K := 25) t_114 h_112 (fun r_115 t_116 h_117 => ?_)
  obtain ⟨r_119, σ_118, hq, h_120⟩ := bd2_some h_117
  refine cl_callV (ci := 10) (rest := []) C G_105 rfl t_107 cw_RX11_171 [.int (4:Int32), cl_rf c0 r_101, cl_rf c0 r_110, cl_rf c0 r_115] _ (kc_X10_made l D c0 (by rw [G_105.1]; exact t_107) hq (by rw [G_105.1]; exact t_104) (by rw [G_105.1]; exact t_111) (by rw [G_105.1]; exact t_116)) (Nat.le_of_ble_eq_true rfl) (Nat.le_of_ble_eq_true rfl) rfl rfl hl_106.1 (Nat.le_of_ble_eq_true rfl) dX11_startBoot_163 (fun T_121 H locs cells slots t_122 hu G_123 => ?_)
  have t_104 := t_104.up hu (by decide)
  have t_91 := t_91.up hu (by decide)
  have t_58 := t_58.up hu (by decide)
  have t_4 := t_4.up hu (by decide)
  have ha := hu.kind ha (by decide)
  refine W.eq (g2 := F0 m 166 ls [cl_rf c0 r_119]) rfl ?_
  refine cl_astore (lv' := [(5, cl_rf c0 r_119), (4, cl_rf c0 r_101), (3, cl_rf c0 r_88), (2, cl_rf c0 r_55), (1, cl_rf c0 r_3), (0, .ref (c0 + a))]) C.1 C.2.1 dX11_startBoot_166 hl_106 (by decide) (by first | rfl | (cases r_101 <;> cases r_88 <;> cases r_55 <;> cases r_3 <;> rfl)) (fun ls hl_124 => ?_)
  refine lv_iconst (v := (0:Int32)) C.1 C.2.1 dX11_startBoot_168 (by decide) ?_
  refine lv_istore (lv' := [(6, .int (0:Int32)), (5, cl_rf c0 r_119), (4, cl_rf c0 r_101), (3, cl_rf c0 r_88), (2, cl_rf c0 r_55), (1, cl_rf c0 r_3), (0, .ref (c0 + a))]) C.1 C.2.1 dX11_startBoot_169 hl_124 (by decide) (by first | rfl | (cases r_119 <;> cases r_101 <;> cases r_88 <;> cases r_55 <;> cases r_3 <;> rfl)) (fun ls hl_125 => ?_)
  exact wc_X11_startBoot_171 C h_120 G_123 ha t_122 (lv_sub hl_125 [6, 1, 0] rfl)
noncomputable def fc_X11_startBoot (a : Nat) (σ : cl_S) : Option (cl_S) := bc_X11_startBoot_0 a σ
theorem kc_X11_startBoot (l : Launch) (D : cl_D) (c0 : Nat) {a : Nat} {σ σ' : cl_S} (ha : (σ.2.2.2.1 a).1 = 27) (h : fc_X11_startBoot a σ = some σ') : cl_Met true l D c0 yX11_startBoot cX11_startBoot 8 none 5 121 [.ref (c0 + a)] σ none cl_no σ' :=
  cl_of (by decide) (Nat.le_of_ble_eq_true rfl) (fun p e s m args below meth c ls C hn G hl => wc_X11_startBoot_0 C h G ha hl)
abbrev cX11_boot : ByteArray := prog_1_method_12_code
def yX11_boot : MethodName := ⟨RX11, "boot", "()I"⟩
theorem dX11_boot_0 : decode cX11_boot 0 = .ok (.aload_n 0, 1) := by decide +kernel
theorem dX11_boot_1 : decode cX11_boot 1 = .ok (.getfield 81, 3) := by decide +kernel
theorem dX11_boot_4 : decode cX11_boot 4 = .ok (.getfield 137, 3) := by decide +kernel
theorem dX11_boot_7 : decode cX11_boot 7 = .ok (.ifCond .ne 23, 3) := by decide +kernel
theorem dX11_boot_10 : decode cX11_boot 10 = .ok (.aload_n 0, 1) := by decide +kernel
theorem dX11_boot_11 : decode cX11_boot 11 = .ok (.getfield 41, 3) := by decide +kernel
theorem dX11_boot_14 : decode cX11_boot 14 = .ok (.bipush 8, 2) := by decide +kernel
theorem dX11_boot_16 : decode cX11_boot 16 = .ok (.iaload, 1) := by decide +kernel
theorem dX11_boot_17 : decode cX11_boot 17 = .ok (.ifCond .eq 13, 3) := by decide +kernel
theorem dX11_boot_20 : decode cX11_boot 20 = .ok (.aload_n 0, 1) := by decide +kernel
theorem dX11_boot_21 : decode cX11_boot 21 = .ok (.getfield 41, 3) := by decide +kernel
theorem dX11_boot_24 : decode cX11_boot 24 = .ok (.bipush 9, 2) := by decide +kernel
theorem dX11_boot_26 : decode cX11_boot 26 = .ok (.iaload, 1) := by decide +kernel
theorem dX11_boot_27 : decode cX11_boot 27 = .ok (.ifCond .ne 6, 3) := by decide +kernel
theorem dX11_boot_30 : decode cX11_boot 30 = .ok (.bipush (-3), 2) := by decide +kernel
theorem dX11_boot_32 : decode cX11_boot 32 = .ok (.ireturn, 1) := by decide +kernel
theorem dX11_boot_33 : decode cX11_boot 33 = .ok (.aload_n 0, 1) := by decide +kernel
theorem dX11_boot_34 : decode cX11_boot 34 = .ok (.getfield 91, 3) := by decide +kernel
theorem dX11_boot_37 : decode cX11_boot 37 = .ok (.aload_n 0, 1) := by decide +kernel
theorem dX11_boot_38 : decode cX11_boot 38 = .ok (.getfield 38, 3) := by decide +kernel
theorem dX11_boot_41 : decode cX11_boot 41 = .ok (.bipush 9, 2) := by decide +kernel
theorem dX11_boot_43 : decode cX11_boot 43 = .ok (.aaload, 1) := by decide +kernel
theorem dX11_boot_44 : decode cX11_boot 44 = .ok (.aload_n 0, 1) := by decide +kernel
theorem dX11_boot_45 : decode cX11_boot 45 = .ok (.getfield 41, 3) := by decide +kernel
theorem dX11_boot_48 : decode cX11_boot 48 = .ok (.bipush 9, 2) := by decide +kernel
theorem dX11_boot_50 : decode cX11_boot 50 = .ok (.iaload, 1) := by decide +kernel
theorem dX11_boot_51 : decode cX11_boot 51 = .ok (.invokevirtual 141, 3) := by decide +kernel
theorem dX11_boot_54 : decode cX11_boot 54 = .ok (.istore_n 1, 1) := by decide +kernel
theorem dX11_boot_55 : decode cX11_boot 55 = .ok (.iload_n 1, 1) := by decide +kernel
theorem dX11_boot_56 : decode cX11_boot 56 = .ok (.ifCond .lt 8, 3) := by decide +kernel
theorem dX11_boot_59 : decode cX11_boot 59 = .ok (.bipush (-100), 2) := by decide +kernel
theorem dX11_boot_61 : decode cX11_boot 61 = .ok (.iload_n 1, 1) := by decide +kernel
theorem dX11_boot_62 : decode cX11_boot 62 = .ok (.isub, 1) := by decide +kernel
theorem dX11_boot_63 : decode cX11_boot 63 = .ok (.ireturn, 1) := by decide +kernel
theorem dX11_boot_64 : decode cX11_boot 64 = .ok (.iconst 0, 1) := by decide +kernel
theorem dX11_boot_65 : decode cX11_boot 65 = .ok (.istore_n 2, 1) := by decide +kernel
theorem dX11_boot_66 : decode cX11_boot 66 = .ok (.iload_n 2, 1) := by decide +kernel
theorem dX11_boot_67 : decode cX11_boot 67 = .ok (.aload_n 0, 1) := by decide +kernel
theorem dX11_boot_68 : decode cX11_boot 68 = .ok (.getfield 91, 3) := by decide +kernel
theorem dX11_boot_71 : decode cX11_boot 71 = .ok (.getfield 145, 3) := by decide +kernel
theorem dX11_boot_74 : decode cX11_boot 74 = .ok (.if_icmp .ge 41, 3) := by decide +kernel
theorem dX11_boot_77 : decode cX11_boot 77 = .ok (.aload_n 0, 1) := by decide +kernel
theorem dX11_boot_78 : decode cX11_boot 78 = .ok (.getfield 41, 3) := by decide +kernel
theorem dX11_boot_81 : decode cX11_boot 81 = .ok (.iload_n 2, 1) := by decide +kernel
theorem dX11_boot_82 : decode cX11_boot 82 = .ok (.iaload, 1) := by decide +kernel
theorem dX11_boot_83 : decode cX11_boot 83 = .ok (.ifCond .eq 21, 3) := by decide +kernel
theorem dX11_boot_86 : decode cX11_boot 86 = .ok (.aload_n 0, 1) := by decide +kernel
theorem dX11_boot_87 : decode cX11_boot 87 = .ok (.getfield 41, 3) := by decide +kernel
theorem dX11_boot_90 : decode cX11_boot 90 = .ok (.iload_n 2, 1) := by decide +kernel
theorem dX11_boot_91 : decode cX11_boot 91 = .ok (.iaload, 1) := by decide +kernel
theorem dX11_boot_92 : decode cX11_boot 92 = .ok (.aload_n 0, 1) := by decide +kernel
theorem dX11_boot_93 : decode cX11_boot 93 = .ok (.getfield 91, 3) := by decide +kernel
theorem dX11_boot_96 : decode cX11_boot 96 = .ok (.getfield 148, 3) := by decide +kernel
theorem dX11_boot_99 : decode cX11_boot 99 = .ok (.iload_n 2, 1) := by decide +kernel
theorem dX11_boot_100 : decode cX11_boot 100 = .ok (.iaload, 1) := by decide +kernel
theorem dX11_boot_101 : decode cX11_boot 101 = .ok (.if_icmp .le 8, 3) := by decide +kernel
theorem dX11_boot_104 : decode cX11_boot 104 = .ok (.bipush (-20), 2) := by decide +kernel
theorem dX11_boot_106 : decode cX11_boot 106 = .ok (.iload_n 2, 1) := by decide +kernel
theorem dX11_boot_107 : decode cX11_boot 107 = .ok (.isub, 1) := by decide +kernel
theorem dX11_boot_108 : decode cX11_boot 108 = .ok (.ireturn, 1) := by decide +kernel
theorem dX11_boot_109 : decode cX11_boot 109 = .ok (.iinc 2 1, 3) := by decide +kernel
theorem dX11_boot_112 : decode cX11_boot 112 = .ok (.goto (-46), 3) := by decide +kernel
theorem dX11_boot_115 : decode cX11_boot 115 = .ok (.aload_n 0, 1) := by decide +kernel
theorem dX11_boot_116 : decode cX11_boot 116 = .ok (.getfield 151, 3) := by decide +kernel
theorem dX11_boot_119 : decode cX11_boot 119 = .ok (.bipush 40, 2) := by decide +kernel
theorem dX11_boot_121 : decode cX11_boot 121 = .ok (.if_icmp .lt 6, 3) := by decide +kernel
theorem dX11_boot_124 : decode cX11_boot 124 = .ok (.bipush (-4), 2) := by decide +kernel
theorem dX11_boot_126 : decode cX11_boot 126 = .ok (.ireturn, 1) := by decide +kernel
theorem dX11_boot_127 : decode cX11_boot 127 = .ok (.aload_n 0, 1) := by decide +kernel
theorem dX11_boot_128 : decode cX11_boot 128 = .ok (.dup, 1) := by decide +kernel
theorem dX11_boot_129 : decode cX11_boot 129 = .ok (.getfield 151, 3) := by decide +kernel
theorem dX11_boot_132 : decode cX11_boot 132 = .ok (.iconst 1, 1) := by decide +kernel
theorem dX11_boot_133 : decode cX11_boot 133 = .ok (.iadd, 1) := by decide +kernel
theorem dX11_boot_134 : decode cX11_boot 134 = .ok (.putfield 151, 3) := by decide +kernel
theorem dX11_boot_137 : decode cX11_boot 137 = .ok (.aload_n 0, 1) := by decide +kernel
theorem dX11_boot_138 : decode cX11_boot 138 = .ok (.invokevirtual 154, 3) := by decide +kernel
theorem dX11_boot_141 : decode cX11_boot 141 = .ok (.aload_n 0, 1) := by decide +kernel
theorem dX11_boot_142 : decode cX11_boot 142 = .ok (.getfield 81, 3) := by decide +kernel
theorem dX11_boot_145 : decode cX11_boot 145 = .ok (.getfield 157, 3) := by decide +kernel
theorem dX11_boot_148 : decode cX11_boot 148 = .ok (.getfield 145, 3) := by decide +kernel
theorem dX11_boot_151 : decode cX11_boot 151 = .ok (.ireturn, 1) := by decide +kernel
theorem cc_X11_boot : Cond.code yX11_boot cX11_boot 3 (some .int) ∈ rf_tb := rf_at 1008 (by decide +kernel) (by decide +kernel)
theorem cw_RX11_141 : cl_wV RX11 RX1 yX1_read cX1_read 5 (some .int) 141 2 := ⟨⟨rf_at 1009 (by decide +kernel) (by decide +kernel), rf_at 1010 (by decide +kernel) (by decide +kernel), rf_at 1011 (by decide +kernel) (by decide +kernel), cc_X1_read, rf_at 14 (by decide +kernel) (by decide +kernel)⟩, ⟨by decide, by decide, by decide +kernel⟩⟩
theorem cw_RX11_154 : cl_wV RX11 RX11 yX11_startBoot cX11_startBoot 8 none 154 0 := ⟨⟨rf_at 1034 (by decide +kernel) (by decide +kernel), rf_at 1036 (by decide +kernel) (by decide +kernel), rf_sel (q := (yX11_startBoot, 15)) 34 (by decide +kernel) (by decide +kernel), cc_X11_startBoot, rf_at 1 (by decide +kernel) (by decide +kernel)⟩, ⟨by decide, by decide, by decide +kernel⟩⟩
noncomputable def lc_X11_boot_66 (a : Nat) (x2 : Int32) (σ : cl_S) : Option ((Int32 × cl_S) ⊕ ((Int32 × cl_S) ⊕ (Int32 × cl_S))) := vl (σ.2.2.1 a 13) (fun r_30 => nn r_30 (fun a_33 => (if (σ.1 a_33 0) ≤ x2 then some (.inr (.inr (x2, σ))) else ix x2 10 ((if (σ.1 30 x2.toNatClampNeg) = 0 then some (.inr (.inl (((-20:Int32) - x2), σ))) else ix x2 10 (vl (σ.2.2.1 a 13) (fun r_41 => nn r_41 (fun a_44 => ix x2 8 ((if (σ.1 30 x2.toNatClampNeg) ≤ (σ.1 (a_44 + 2) x2.toNatClampNeg) then vl (x2 + (1:Int32)) (fun x2_49 => some (.inl (x2_49, σ))) else some (.inr (.inl (((-20:Int32) - x2), σ)))))))))))))
noncomputable def ec_X11_boot_66 (a : Nat) (x2 : Int32) (σ : cl_S) : Option (Int32 × cl_S) := (if (σ.1 a 14) < (40:Int32) then vl (cl_w σ a 14 ((σ.1 a 14) + (1:Int32))) (fun σ_52 => bd1 (fc_X11_startBoot a σ_52) (fun σ_56 => vl (σ_56.2.2.1 47 3) (fun r_63 => nn r_63 (fun a_66 => some ((σ_56.1 a_66 0), σ_56))))) else some ((-4:Int32), σ))
noncomputable def bc_X11_boot_66 (a : Nat) (x2 : Int32) (σ : cl_S) : Option (Int32 × cl_S) := (lp (fun z : (Int32 × cl_S) => lc_X11_boot_66 a z.1 z.2) (x2, σ)).bind (fun y => Sum.elim (fun z => some z) (fun z => ec_X11_boot_66 a z.1 z.2) y)
set_option maxHeartbeats 4000000 in
theorem wc_X11_boot_66 (C : cl_C D p s m args meth c cX11_boot 3 (some .int) RX11) {r : Int32} {a : Nat} {x2 : Int32} {σ0 σ σ' : cl_S} {T : Nat → Nat × Nat} {H : Heap} {locs : List Loc} {ls : Array Slot} {cells slots : Nat} (h : bc_X11_boot_66 a x2 σ = some (r, σ')) (G : cl_G true D c0 ({ frames := 6, cells := σ0.2.2.2.2.2.1, slots := σ0.2.2.2.2.2.2, locals := 148 }) s σ0.2.2.2.1 T σ H locs cells slots) (ha : (T a).1 = 27) (hl : lv_has ls 3 [(0, .ref (c0 + a)), (2, .int x2)]) : W p l e ({ frames := 6, cells := σ0.2.2.2.2.2.1, slots := σ0.2.2.2.2.2.2, locals := 148 }) s m args below meth c H locs cells slots (MQ below (cl_Q true D c0 (some (.int r)) cl_no σ0 σ') args s (σ0.2.2.2.2.2.1 - σ'.2.2.2.2.2.1) (σ0.2.2.2.2.2.2 - σ'.2.2.2.2.2.2) (cl_A c0 σ0.2.2.2.1 s.heap.size)) (F0 m 66 ls []) := by
  unfold bc_X11_boot_66 at h
  obtain ⟨y, hy, h⟩ := bd_some h
  have hE : (Sum.elim (fun z : Int32 × cl_S => z = (r, σ')) (fun z : (Int32 × cl_S) => ∀ (T : Nat → Nat × Nat) (H : Heap) (locs : List Loc) (ls : Array Slot) (cells slots : Nat), cl_G true D c0 ({ frames := 6, cells := σ0.2.2.2.2.2.1, slots := σ0.2.2.2.2.2.2, locals := 148 }) s σ0.2.2.2.1 T z.2 H locs cells slots → (T a).1 = 27 → lv_has ls 3 [(0, .ref (c0 + a)), (2, .int (z.1))] → W p l e ({ frames := 6, cells := σ0.2.2.2.2.2.1, slots := σ0.2.2.2.2.2.2, locals := 148 }) s m args below meth c H locs cells slots (MQ below (cl_Q true D c0 (some (.int r)) cl_no σ0 σ') args s (σ0.2.2.2.2.2.1 - σ'.2.2.2.2.2.1) (σ0.2.2.2.2.2.2 - σ'.2.2.2.2.2.2) (cl_A c0 σ0.2.2.2.1 s.heap.size)) (F0 m 115 ls []))) y := by
    clear hy G ha hl
    cases y with
    | inl z =>
      exact Option.some.inj h
    | inr z =>
      intro T H locs ls cells slots G ha hl
      have h := se_r h
      obtain ⟨x2, σ⟩ := z
      dsimp only at h G ha hl
      unfold ec_X11_boot_66 at h
      refine lv_aload_n C.1 C.2.1 dX11_boot_115 rfl (lv_at hl 0 rfl) ?_
      refine cg_11_151 C G ha dX11_boot_116 ?_
      refine lv_bipush (v := (40:Int32)) C.1 C.2.1 dX11_boot_119 (by decide) ?_
      refine lv_icmp_lt (tgt := 127) C.1 C.2.1 dX11_boot_121 (by decide) (fun hc => ?_) (fun hc => ?_)
      · rw [if_pos hc] at h
        refine lv_aload_n C.1 C.2.1 dX11_boot_127 rfl (lv_at hl 0 rfl) ?_
        refine lv_dup C.1 C.2.1 dX11_boot_128 rfl ?_
        refine cg_11_151 C G ha dX11_boot_129 ?_
        refine lv_iconst (v := (1:Int32)) C.1 C.2.1 dX11_boot_132 (by decide) ?_
        refine lv_iadd C.1 C.2.1 dX11_boot_133 ?_
        refine cp_11_151 C G ha dX11_boot_134 (fun H locs G_53 => ?_)
        refine cl_nm G_53 h (fun σ_52 G_54 h_55 => ?_)
        refine lv_aload_n C.1 C.2.1 dX11_boot_137 rfl (lv_at hl 0 rfl) ?_
        obtain ⟨σ_56, hq, h_57⟩ := bd1_some h_55
        refine cl_callV (ci := 11) (rest := []) C G_54 rfl ha cw_RX11_154 [] _ (kc_X11_startBoot l D c0 (by rw [G_54.1]; exact ha) hq) (Nat.le_of_ble_eq_true rfl) (Nat.le_of_ble_eq_true rfl) rfl rfl hl.1 (Nat.le_of_ble_eq_true rfl) dX11_boot_138 (fun T_58 H locs cells slots t_59 hu G_60 => ?_)
        have ha := hu.kind ha (by decide)
        refine W.eq (g2 := F0 m 141 ls []) rfl ?_
        refine lv_aload_n C.1 C.2.1 dX11_boot_141 rfl (lv_at hl 0 rfl) ?_
        refine cg_11_81 C G_60 ha dX11_boot_142 (fun t_61 => ?_)
        have t_61 : (T_58 47).1 = 21 := by rw [t_61]
        refine cg_11_157 C G_60 t_61 dX11_boot_145 (fun t_62 => ?_)
        refine vt_r (K := 17) t_62 h_57 (fun r_63 t_64 h_65 => ?_)
        obtain ⟨a_66, rfl, h_68⟩ := nn_some h_65
        have t_67 := t_64 _ rfl
        refine cg_11_145 C G_60 t_67 dX11_boot_148 ?_
        exact cl_iret ⟨rfl, rfl⟩ rfl C G_60 h_68 dX11_boot_151
      · rw [if_neg hc] at h
        refine lv_bipush (v := (-4:Int32)) C.1 C.2.1 dX11_boot_124 (by decide) ?_
        exact cl_iret ⟨rfl, rfl⟩ rfl C G h dX11_boot_126
  refine lp_recE (fun z : (Int32 × cl_S) => ∀ (T : Nat → Nat × Nat) (H : Heap) (locs : List Loc) (ls : Array Slot) (cells slots : Nat), cl_G true D c0 ({ frames := 6, cells := σ0.2.2.2.2.2.1, slots := σ0.2.2.2.2.2.2, locals := 148 }) s σ0.2.2.2.1 T z.2 H locs cells slots → (T a).1 = 27 → lv_has ls 3 [(0, .ref (c0 + a)), (2, .int (z.1))] → W p l e ({ frames := 6, cells := σ0.2.2.2.2.2.1, slots := σ0.2.2.2.2.2.2, locals := 148 }) s m args below meth c H locs cells slots (MQ below (cl_Q true D c0 (some (.int r)) cl_no σ0 σ') args s (σ0.2.2.2.2.2.1 - σ'.2.2.2.2.2.1) (σ0.2.2.2.2.2.2 - σ'.2.2.2.2.2.2) (cl_A c0 σ0.2.2.2.1 s.heap.size)) (F0 m 66 ls [])) (Sum.elim (fun z : Int32 × cl_S => z = (r, σ')) (fun z : (Int32 × cl_S) => ∀ (T : Nat → Nat × Nat) (H : Heap) (locs : List Loc) (ls : Array Slot) (cells slots : Nat), cl_G true D c0 ({ frames := 6, cells := σ0.2.2.2.2.2.1, slots := σ0.2.2.2.2.2.2, locals := 148 }) s σ0.2.2.2.1 T z.2 H locs cells slots → (T a).1 = 27 → lv_has ls 3 [(0, .ref (c0 + a)), (2, .int (z.1))] → W p l e ({ frames := 6, cells := σ0.2.2.2.2.2.1, slots := σ0.2.2.2.2.2.2, locals := 148 }) s m args below meth c H locs cells slots (MQ below (cl_Q true D c0 (some (.int r)) cl_no σ0 σ') args s (σ0.2.2.2.2.2.1 - σ'.2.2.2.2.2.1) (σ0.2.2.2.2.2.2 - σ'.2.2.2.2.2.2) (cl_A c0 σ0.2.2.2.1 s.heap.size)) (F0 m 115 ls []))) ?_ _ _ hy hE _ _ _ _ _ _ G ha hl
  clear hE hy G ha hl h
  intro z o h hP T H locs ls cells slots G ha hl
  obtain ⟨x2, σ⟩ := z
  dsimp only at h G ha hl
  unfold lc_X11_boot_66 at h
  refine lv_iload_n C.1 C.2.1 dX11_boot_66 rfl (lv_at hl 1 rfl) ?_
  refine lv_aload_n C.1 C.2.1 dX11_boot_67 rfl (lv_at hl 0 rfl) ?_
  refine cg_11_91 C G ha dX11_boot_68 (fun t_29 => ?_)
  refine vt_r (K := 17) t_29 h (fun r_30 t_31 h_32 => ?_)
  obtain ⟨a_33, rfl, h_35⟩ := nn_some h_32
  have t_34 := t_31 _ rfl
  refine cg_11_145 C G t_34 dX11_boot_71 ?_
  refine lv_icmp_ge (tgt := 115) C.1 C.2.1 dX11_boot_74 (by decide) (fun hc => ?_) (fun hc => ?_)
  · rw [if_pos hc] at h_35
    cases h_35
    exact hP _ _ _ _ _ _ G ha (lv_sub hl [0, 1] rfl)
  · rw [if_neg hc] at h_35
    refine lv_aload_n C.1 C.2.1 dX11_boot_77 rfl (lv_at hl 0 rfl) ?_
    refine cg_11_41 C G ha dX11_boot_78 (fun t_36 => ?_)
    refine lv_iload_n C.1 C.2.1 dX11_boot_81 rfl (lv_at hl 1 rfl) ?_
    obtain ⟨hi, h_37⟩ := ix_some h_35
    refine cl_iald C G t_36 hi dX11_boot_82 ?_
    refine lv_if_eq (tgt := 104) C.1 C.2.1 dX11_boot_83 (by decide) (fun hc => ?_) (fun hc => ?_)
    · rw [if_pos hc] at h_37
      refine lv_bipush (v := (-20:Int32)) C.1 C.2.1 dX11_boot_104 (by decide) ?_
      refine lv_iload_n C.1 C.2.1 dX11_boot_106 rfl (lv_at hl 1 rfl) ?_
      refine lv_isub C.1 C.2.1 dX11_boot_107 ?_
      cases h_37
      have hP := congrArg some hP
      exact cl_iret ⟨rfl, rfl⟩ rfl C G hP dX11_boot_108
    · rw [if_neg hc] at h_37
      refine lv_aload_n C.1 C.2.1 dX11_boot_86 rfl (lv_at hl 0 rfl) ?_
      refine cg_11_41 C G ha dX11_boot_87 (fun t_38 => ?_)
      refine lv_iload_n C.1 C.2.1 dX11_boot_90 rfl (lv_at hl 1 rfl) ?_
      obtain ⟨hi, h_39⟩ := ix_some h_37
      refine cl_iald C G t_38 hi dX11_boot_91 ?_
      refine lv_aload_n C.1 C.2.1 dX11_boot_92 rfl (lv_at hl 0 rfl) ?_
      refine cg_11_91 C G ha dX11_boot_93 (fun t_40 => ?_)
      refine vt_r (K := 17) t_40 h_39 (fun r_41 t_42 h_43 => ?_)
      obtain ⟨a_44, rfl, h_46⟩ := nn_some h_43
      have t_45 := t_42 _ rfl
      refine cg_11_148 C G t_45 dX11_boot_96 (fun t_47 => ?_)
      refine lv_iload_n C.1 C.2.1 dX11_boot_99 rfl (lv_at hl 1 rfl) ?_
      obtain ⟨hi, h_48⟩ := ix_some h_46
      refine cl_iald C G t_47 hi dX11_boot_100 ?_
      refine lv_icmp_le (tgt := 109) C.1 C.2.1 dX11_boot_101 (by decide) (fun hc => ?_) (fun hc => ?_)
      · rw [if_pos hc] at h_48
        refine vl_ex h_48 (fun x2_49 ey h_50 => ?_)
        refine lv_iinc (v := x2_49) (lv' := [(2, .int x2_49), (0, .ref (c0 + a))]) C.1 C.2.1 dX11_boot_109 hl (k := 1) rfl (by rw [ey]; rfl) (by decide) rfl (fun ls hl_51 => ?_)
        refine lv_goto (tgt := 66) C.1 C.2.1 dX11_boot_112 (by decide) ?_
        cases h_50
        exact hP _ _ _ _ _ _ G ha (lv_sub hl_51 [1, 0] rfl)
      · rw [if_neg hc] at h_48
        refine lv_bipush (v := (-20:Int32)) C.1 C.2.1 dX11_boot_104 (by decide) ?_
        refine lv_iload_n C.1 C.2.1 dX11_boot_106 rfl (lv_at hl 1 rfl) ?_
        refine lv_isub C.1 C.2.1 dX11_boot_107 ?_
        cases h_48
        have hP := congrArg some hP
        exact cl_iret ⟨rfl, rfl⟩ rfl C G hP dX11_boot_108
noncomputable def bc_X11_boot_0 (a : Nat) (σ : cl_S) : Option (Int32 × cl_S) := (if (σ.1 47 8) = 0 then ix (8:Int32) 10 ((if (σ.1 30 (8:Int32).toNatClampNeg) = 0 then some ((-3:Int32), σ) else ix (9:Int32) 10 ((if (σ.1 30 (9:Int32).toNatClampNeg) = 0 then some ((-3:Int32), σ) else vl (σ.2.2.1 a 13) (fun r_7 => ix (9:Int32) 10 (vl (σ.2.2.1 19 (9:Int32).toNatClampNeg) (fun r_13 => ix (9:Int32) 10 (nn r_7 (fun a_18 => bd2 (fc_X1_read a_18 r_13 (σ.1 30 (9:Int32).toNatClampNeg) σ) (fun r_22 σ_21 => (if r_22 < 0 then bc_X11_boot_66 a (0:Int32) σ_21 else some (((-100:Int32) - r_22), σ_21)))))))))))) else some ((-3:Int32), σ))
set_option maxHeartbeats 4000000 in
theorem wc_X11_boot_0 (C : cl_C D p s m args meth c cX11_boot 3 (some .int) RX11) {r : Int32} {a : Nat} {σ0 σ σ' : cl_S} {T : Nat → Nat × Nat} {H : Heap} {locs : List Loc} {ls : Array Slot} {cells slots : Nat} (h : bc_X11_boot_0 a σ = some (r, σ')) (G : cl_G true D c0 ({ frames := 6, cells := σ0.2.2.2.2.2.1, slots := σ0.2.2.2.2.2.2, locals := 148 }) s σ0.2.2.2.1 T σ H locs cells slots) (ha : (T a).1 = 27) (hl : lv_has ls 3 [(0, .ref (c0 + a))]) : W p l e ({ frames := 6, cells := σ0.2.2.2.2.2.1, slots := σ0.2.2.2.2.2.2, locals := 148 }) s m args below meth c H locs cells slots (MQ below (cl_Q true D c0 (some (.int r)) cl_no σ0 σ') args s (σ0.2.2.2.2.2.1 - σ'.2.2.2.2.2.1) (σ0.2.2.2.2.2.2 - σ'.2.2.2.2.2.2) (cl_A c0 σ0.2.2.2.1 s.heap.size)) (F0 m 0 ls []) := by
  unfold bc_X11_boot_0 at h
  refine lv_aload_n C.1 C.2.1 dX11_boot_0 rfl (lv_at hl 0 rfl) ?_
  refine cg_11_81 C G ha dX11_boot_1 (fun t_1 => ?_)
  have t_1 : (T 47).1 = 21 := by rw [t_1]
  refine cg_11_137 C G t_1 dX11_boot_4 ?_
  refine lv_if_ne (tgt := 30) C.1 C.2.1 dX11_boot_7 (by decide) (fun hc => ?_) (fun hc => ?_)
  · rw [if_neg hc] at h
    refine lv_bipush (v := (-3:Int32)) C.1 C.2.1 dX11_boot_30 (by decide) ?_
    exact cl_iret ⟨rfl, rfl⟩ rfl C G h dX11_boot_32
  · rw [if_pos hc] at h
    refine lv_aload_n C.1 C.2.1 dX11_boot_10 rfl (lv_at hl 0 rfl) ?_
    refine cg_11_41 C G ha dX11_boot_11 (fun t_2 => ?_)
    refine lv_bipush (v := (8:Int32)) C.1 C.2.1 dX11_boot_14 (by decide) ?_
    obtain ⟨hi, h_3⟩ := ix_some h
    refine cl_iald C G t_2 hi dX11_boot_16 ?_
    refine lv_if_eq (tgt := 30) C.1 C.2.1 dX11_boot_17 (by decide) (fun hc => ?_) (fun hc => ?_)
    · rw [if_pos hc] at h_3
      refine lv_bipush (v := (-3:Int32)) C.1 C.2.1 dX11_boot_30 (by decide) ?_
      exact cl_iret ⟨rfl, rfl⟩ rfl C G h_3 dX11_boot_32
    · rw [if_neg hc] at h_3
      refine lv_aload_n C.1 C.2.1 dX11_boot_20 rfl (lv_at hl 0 rfl) ?_
      refine cg_11_41 C G ha dX11_boot_21 (fun t_4 => ?_)
      refine lv_bipush (v := (9:Int32)) C.1 C.2.1 dX11_boot_24 (by decide) ?_
      obtain ⟨hi, h_5⟩ := ix_some h_3
      refine cl_iald C G t_4 hi dX11_boot_26 ?_
      refine lv_if_ne (tgt := 33) C.1 C.2.1 dX11_boot_27 (by decide) (fun hc => ?_) (fun hc => ?_)
      · rw [if_neg hc] at h_5
        refine lv_aload_n C.1 C.2.1 dX11_boot_33 rfl (lv_at hl 0 rfl) ?_
        refine cg_11_91 C G ha dX11_boot_34 (fun t_6 => ?_)
        refine vt_r (K := 17) t_6 h_5 (fun r_7 t_8 h_9 => ?_)
        refine lv_aload_n C.1 C.2.1 dX11_boot_37 rfl (lv_at hl 0 rfl) ?_
        refine cg_11_38 C G ha dX11_boot_38 (fun t_10 => ?_)
        refine lv_bipush (v := (9:Int32)) C.1 C.2.1 dX11_boot_41 (by decide) ?_
        obtain ⟨hi, h_11⟩ := ix_some h_9
        refine cl_aald C G t_10 (by decide) (by decide) rfl hi dX11_boot_43 (fun t_12 => ?_)
        refine vt_r (K := 1) t_12 h_11 (fun r_13 t_14 h_15 => ?_)
        refine lv_aload_n C.1 C.2.1 dX11_boot_44 rfl (lv_at hl 0 rfl) ?_
        refine cg_11_41 C G ha dX11_boot_45 (fun t_16 => ?_)
        refine lv_bipush (v := (9:Int32)) C.1 C.2.1 dX11_boot_48 (by decide) ?_
        obtain ⟨hi, h_17⟩ := ix_some h_15
        refine cl_iald C G t_16 hi dX11_boot_50 ?_
        obtain ⟨a_18, rfl, h_20⟩ := nn_some h_17
        have t_19 := t_8 _ rfl
        obtain ⟨r_22, σ_21, hq, h_23⟩ := bd2_some h_20
        refine cl_callV (ci := 1) (rest := []) C G rfl t_19 cw_RX11_141 [cl_rf c0 r_13, .int (σ.1 30 (9:Int32).toNatClampNeg)] _ (kc_X1_read l D c0 (by rw [G.1]; exact t_19) hq (by rw [G.1]; exact t_14)) (Nat.le_of_ble_eq_true rfl) (Nat.le_of_ble_eq_true rfl) rfl rfl hl.1 (Nat.le_of_ble_eq_true rfl) dX11_boot_51 (fun T_24 H locs cells slots t_25 hu G_26 => ?_)
        have ha := hu.kind ha (by decide)
        refine W.eq (g2 := F0 m 54 ls [.int r_22]) rfl ?_
        refine lv_istore_n (lv' := [(1, .int r_22), (0, .ref (c0 + a))]) C.1 C.2.1 dX11_boot_54 rfl hl (by decide) rfl (fun ls hl_27 => ?_)
        refine lv_iload_n C.1 C.2.1 dX11_boot_55 rfl (lv_at hl_27 0 rfl) ?_
        refine lv_if_lt (tgt := 64) C.1 C.2.1 dX11_boot_56 (by decide) (fun hc => ?_) (fun hc => ?_)
        · rw [if_pos hc] at h_23
          refine lv_iconst (v := (0:Int32)) C.1 C.2.1 dX11_boot_64 (by decide) ?_
          refine lv_istore_n (lv' := [(2, .int (0:Int32)), (1, .int r_22), (0, .ref (c0 + a))]) C.1 C.2.1 dX11_boot_65 rfl hl_27 (by decide) rfl (fun ls hl_28 => ?_)
          exact wc_X11_boot_66 C h_23 G_26 ha (lv_sub hl_28 [2, 0] rfl)
        · rw [if_neg hc] at h_23
          refine lv_bipush (v := (-100:Int32)) C.1 C.2.1 dX11_boot_59 (by decide) ?_
          refine lv_iload_n C.1 C.2.1 dX11_boot_61 rfl (lv_at hl_27 0 rfl) ?_
          refine lv_isub C.1 C.2.1 dX11_boot_62 ?_
          exact cl_iret ⟨rfl, rfl⟩ rfl C G_26 h_23 dX11_boot_63
      · rw [if_pos hc] at h_5
        refine lv_bipush (v := (-3:Int32)) C.1 C.2.1 dX11_boot_30 (by decide) ?_
        exact cl_iret ⟨rfl, rfl⟩ rfl C G h_5 dX11_boot_32
noncomputable def fc_X11_boot (a : Nat) (σ : cl_S) : Option (Int32 × cl_S) := bc_X11_boot_0 a σ
theorem kc_X11_boot (l : Launch) (D : cl_D) (c0 : Nat) {r : Int32} {a : Nat} {σ σ' : cl_S} (ha : (σ.2.2.2.1 a).1 = 27) (h : fc_X11_boot a σ = some (r, σ')) : cl_Met true l D c0 yX11_boot cX11_boot 3 (some .int) 6 148 [.ref (c0 + a)] σ (some (.int r)) cl_no σ' :=
  cl_of (by decide) (Nat.le_of_ble_eq_true rfl) (fun p e s m args below meth c ls C hn G hl => wc_X11_boot_0 C h G ha hl)
abbrev cX11_off : ByteArray := prog_1_method_14_code
def yX11_off : MethodName := ⟨RX11, "off", "()I"⟩
theorem dX11_off_0 : decode cX11_off 0 = .ok (.aload_n 0, 1) := by decide +kernel
theorem dX11_off_1 : decode cX11_off 1 = .ok (.getfield 81, 3) := by decide +kernel
theorem dX11_off_4 : decode cX11_off 4 = .ok (.getfield 137, 3) := by decide +kernel
theorem dX11_off_7 : decode cX11_off 7 = .ok (.ifCond .ne 6, 3) := by decide +kernel
theorem dX11_off_10 : decode cX11_off 10 = .ok (.bipush (-3), 2) := by decide +kernel
theorem dX11_off_12 : decode cX11_off 12 = .ok (.ireturn, 1) := by decide +kernel
theorem dX11_off_13 : decode cX11_off 13 = .ok (.aload_n 0, 1) := by decide +kernel
theorem dX11_off_14 : decode cX11_off 14 = .ok (.getfield 81, 3) := by decide +kernel
theorem dX11_off_17 : decode cX11_off 17 = .ok (.iconst 0, 1) := by decide +kernel
theorem dX11_off_18 : decode cX11_off 18 = .ok (.putfield 137, 3) := by decide +kernel
theorem dX11_off_21 : decode cX11_off 21 = .ok (.aload_n 0, 1) := by decide +kernel
theorem dX11_off_22 : decode cX11_off 22 = .ok (.getfield 81, 3) := by decide +kernel
theorem dX11_off_25 : decode cX11_off 25 = .ok (.getfield 209, 3) := by decide +kernel
theorem dX11_off_28 : decode cX11_off 28 = .ok (.ireturn, 1) := by decide +kernel
theorem cc_X11_off : Cond.code yX11_off cX11_off 1 (some .int) ∈ rf_tb := rf_at 1094 (by decide +kernel) (by decide +kernel)
noncomputable def bc_X11_off_0 (a : Nat) (σ : cl_S) : Option (Int32 × cl_S) := (if (σ.1 47 8) = 0 then some ((-3:Int32), σ) else vl (cl_w σ 47 8 (0:Int32)) (fun σ_3 => some ((σ_3.1 47 9), σ_3)))
set_option maxHeartbeats 4000000 in
theorem wc_X11_off_0 (C : cl_C D p s m args meth c cX11_off 1 (some .int) RX11) {r : Int32} {a : Nat} {σ0 σ σ' : cl_S} {T : Nat → Nat × Nat} {H : Heap} {locs : List Loc} {ls : Array Slot} {cells slots : Nat} (h : bc_X11_off_0 a σ = some (r, σ')) (G : cl_G true D c0 ({ frames := 0, cells := σ0.2.2.2.2.2.1, slots := σ0.2.2.2.2.2.2, locals := 0 }) s σ0.2.2.2.1 T σ H locs cells slots) (ha : (T a).1 = 27) (hl : lv_has ls 1 [(0, .ref (c0 + a))]) : W p l e ({ frames := 0, cells := σ0.2.2.2.2.2.1, slots := σ0.2.2.2.2.2.2, locals := 0 }) s m args below meth c H locs cells slots (MQ below (cl_Q true D c0 (some (.int r)) cl_no σ0 σ') args s (σ0.2.2.2.2.2.1 - σ'.2.2.2.2.2.1) (σ0.2.2.2.2.2.2 - σ'.2.2.2.2.2.2) (cl_A c0 σ0.2.2.2.1 s.heap.size)) (F0 m 0 ls []) := by
  unfold bc_X11_off_0 at h
  refine lv_aload_n C.1 C.2.1 dX11_off_0 rfl (lv_at hl 0 rfl) ?_
  refine cg_11_81 C G ha dX11_off_1 (fun t_1 => ?_)
  have t_1 : (T 47).1 = 21 := by rw [t_1]
  refine cg_11_137 C G t_1 dX11_off_4 ?_
  refine lv_if_ne (tgt := 13) C.1 C.2.1 dX11_off_7 (by decide) (fun hc => ?_) (fun hc => ?_)
  · rw [if_neg hc] at h
    refine lv_aload_n C.1 C.2.1 dX11_off_13 rfl (lv_at hl 0 rfl) ?_
    refine cg_11_81 C G ha dX11_off_14 (fun t_2 => ?_)
    have t_2 : (T 47).1 = 21 := by rw [t_2]
    refine lv_iconst (v := (0:Int32)) C.1 C.2.1 dX11_off_17 (by decide) ?_
    refine cp_11_137 C G t_2 rfl rfl dX11_off_18 (fun H locs G_4 => ?_)
    refine cl_nm G_4 h (fun σ_3 G_5 h_6 => ?_)
    refine lv_aload_n C.1 C.2.1 dX11_off_21 rfl (lv_at hl 0 rfl) ?_
    refine cg_11_81 C G_5 ha dX11_off_22 (fun t_7 => ?_)
    have t_7 : (T 47).1 = 21 := by rw [t_7]
    refine cg_11_209 C G_5 t_7 dX11_off_25 ?_
    exact cl_iret ⟨rfl, rfl⟩ rfl C G_5 h_6 dX11_off_28
  · rw [if_pos hc] at h
    refine lv_bipush (v := (-3:Int32)) C.1 C.2.1 dX11_off_10 (by decide) ?_
    exact cl_iret ⟨rfl, rfl⟩ rfl C G h dX11_off_12
noncomputable def fc_X11_off (a : Nat) (σ : cl_S) : Option (Int32 × cl_S) := bc_X11_off_0 a σ
theorem kc_X11_off (l : Launch) (D : cl_D) (c0 : Nat) {r : Int32} {a : Nat} {σ σ' : cl_S} (ha : (σ.2.2.2.1 a).1 = 27) (h : fc_X11_off a σ = some (r, σ')) : cl_Met true l D c0 yX11_off cX11_off 1 (some .int) 0 0 [.ref (c0 + a)] σ (some (.int r)) cl_no σ' :=
  cl_of (by decide) (Nat.le_of_ble_eq_true rfl) (fun p e s m args below meth c ls C hn G hl => wc_X11_off_0 C h G ha hl)
abbrev cX11_cut : ByteArray := prog_1_method_15_code
def yX11_cut : MethodName := ⟨RX11, "cut", "(I)I"⟩
theorem dX11_cut_0 : decode cX11_cut 0 = .ok (.iload_n 1, 1) := by decide +kernel
theorem dX11_cut_1 : decode cX11_cut 1 = .ok (.ifCond .lt 10, 3) := by decide +kernel
theorem dX11_cut_4 : decode cX11_cut 4 = .ok (.iload_n 1, 1) := by decide +kernel
theorem dX11_cut_5 : decode cX11_cut 5 = .ok (.sipush 1000, 3) := by decide +kernel
theorem dX11_cut_8 : decode cX11_cut 8 = .ok (.if_icmp .le 6, 3) := by decide +kernel
theorem dX11_cut_11 : decode cX11_cut 11 = .ok (.bipush (-2), 2) := by decide +kernel
theorem dX11_cut_13 : decode cX11_cut 13 = .ok (.ireturn, 1) := by decide +kernel
theorem dX11_cut_14 : decode cX11_cut 14 = .ok (.aload_n 0, 1) := by decide +kernel
theorem dX11_cut_15 : decode cX11_cut 15 = .ok (.getfield 81, 3) := by decide +kernel
theorem dX11_cut_18 : decode cX11_cut 18 = .ok (.getfield 137, 3) := by decide +kernel
theorem dX11_cut_21 : decode cX11_cut 21 = .ok (.ifCond .ne 6, 3) := by decide +kernel
theorem dX11_cut_24 : decode cX11_cut 24 = .ok (.bipush (-3), 2) := by decide +kernel
theorem dX11_cut_26 : decode cX11_cut 26 = .ok (.ireturn, 1) := by decide +kernel
theorem dX11_cut_27 : decode cX11_cut 27 = .ok (.aload_n 0, 1) := by decide +kernel
theorem dX11_cut_28 : decode cX11_cut 28 = .ok (.getfield 81, 3) := by decide +kernel
theorem dX11_cut_31 : decode cX11_cut 31 = .ok (.iload_n 1, 1) := by decide +kernel
theorem dX11_cut_32 : decode cX11_cut 32 = .ok (.putfield 212, 3) := by decide +kernel
theorem dX11_cut_35 : decode cX11_cut 35 = .ok (.iload_n 1, 1) := by decide +kernel
theorem dX11_cut_36 : decode cX11_cut 36 = .ok (.ireturn, 1) := by decide +kernel
theorem cc_X11_cut : Cond.code yX11_cut cX11_cut 2 (some .int) ∈ rf_tb := rf_at 1098 (by decide +kernel) (by decide +kernel)
noncomputable def bc_X11_cut_0 (a : Nat) (x1 : Int32) (σ : cl_S) : Option (Int32 × cl_S) := (if x1 < 0 then some ((-2:Int32), σ) else (if x1 ≤ (1000:Int32) then (if (σ.1 47 8) = 0 then some ((-3:Int32), σ) else vl (cl_w σ 47 13 x1) (fun σ_3 => some (x1, σ_3))) else some ((-2:Int32), σ)))
set_option maxHeartbeats 4000000 in
theorem wc_X11_cut_0 (C : cl_C D p s m args meth c cX11_cut 2 (some .int) RX11) {r : Int32} {a : Nat} {x1 : Int32} {σ0 σ σ' : cl_S} {T : Nat → Nat × Nat} {H : Heap} {locs : List Loc} {ls : Array Slot} {cells slots : Nat} (h : bc_X11_cut_0 a x1 σ = some (r, σ')) (G : cl_G true D c0 ({ frames := 0, cells := σ0.2.2.2.2.2.1, slots := σ0.2.2.2.2.2.2, locals := 0 }) s σ0.2.2.2.1 T σ H locs cells slots) (ha : (T a).1 = 27) (hl : lv_has ls 2 [(0, .ref (c0 + a)), (1, .int x1)]) : W p l e ({ frames := 0, cells := σ0.2.2.2.2.2.1, slots := σ0.2.2.2.2.2.2, locals := 0 }) s m args below meth c H locs cells slots (MQ below (cl_Q true D c0 (some (.int r)) cl_no σ0 σ') args s (σ0.2.2.2.2.2.1 - σ'.2.2.2.2.2.1) (σ0.2.2.2.2.2.2 - σ'.2.2.2.2.2.2) (cl_A c0 σ0.2.2.2.1 s.heap.size)) (F0 m 0 ls []) := by
  unfold bc_X11_cut_0 at h
  refine lv_iload_n C.1 C.2.1 dX11_cut_0 rfl (lv_at hl 1 rfl) ?_
  refine lv_if_lt (tgt := 11) C.1 C.2.1 dX11_cut_1 (by decide) (fun hc => ?_) (fun hc => ?_)
  · rw [if_pos hc] at h
    refine lv_bipush (v := (-2:Int32)) C.1 C.2.1 dX11_cut_11 (by decide) ?_
    exact cl_iret ⟨rfl, rfl⟩ rfl C G h dX11_cut_13
  · rw [if_neg hc] at h
    refine lv_iload_n C.1 C.2.1 dX11_cut_4 rfl (lv_at hl 1 rfl) ?_
    refine lv_sipush (v := (1000:Int32)) C.1 C.2.1 dX11_cut_5 (by decide) ?_
    refine lv_icmp_le (tgt := 14) C.1 C.2.1 dX11_cut_8 (by decide) (fun hc => ?_) (fun hc => ?_)
    · rw [if_pos hc] at h
      refine lv_aload_n C.1 C.2.1 dX11_cut_14 rfl (lv_at hl 0 rfl) ?_
      refine cg_11_81 C G ha dX11_cut_15 (fun t_1 => ?_)
      have t_1 : (T 47).1 = 21 := by rw [t_1]
      refine cg_11_137 C G t_1 dX11_cut_18 ?_
      refine lv_if_ne (tgt := 27) C.1 C.2.1 dX11_cut_21 (by decide) (fun hc => ?_) (fun hc => ?_)
      · rw [if_neg hc] at h
        refine lv_aload_n C.1 C.2.1 dX11_cut_27 rfl (lv_at hl 0 rfl) ?_
        refine cg_11_81 C G ha dX11_cut_28 (fun t_2 => ?_)
        have t_2 : (T 47).1 = 21 := by rw [t_2]
        refine lv_iload_n C.1 C.2.1 dX11_cut_31 rfl (lv_at hl 1 rfl) ?_
        refine cp_11_212 C G t_2 dX11_cut_32 (fun H locs G_4 => ?_)
        refine cl_nm G_4 h (fun σ_3 G_5 h_6 => ?_)
        refine lv_iload_n C.1 C.2.1 dX11_cut_35 rfl (lv_at hl 1 rfl) ?_
        exact cl_iret ⟨rfl, rfl⟩ rfl C G_5 h_6 dX11_cut_36
      · rw [if_pos hc] at h
        refine lv_bipush (v := (-3:Int32)) C.1 C.2.1 dX11_cut_24 (by decide) ?_
        exact cl_iret ⟨rfl, rfl⟩ rfl C G h dX11_cut_26
    · rw [if_neg hc] at h
      refine lv_bipush (v := (-2:Int32)) C.1 C.2.1 dX11_cut_11 (by decide) ?_
      exact cl_iret ⟨rfl, rfl⟩ rfl C G h dX11_cut_13
noncomputable def fc_X11_cut (a : Nat) (x1 : Int32) (σ : cl_S) : Option (Int32 × cl_S) := bc_X11_cut_0 a x1 σ
theorem kc_X11_cut (l : Launch) (D : cl_D) (c0 : Nat) {r : Int32} {a : Nat} {x1 : Int32} {σ σ' : cl_S} (ha : (σ.2.2.2.1 a).1 = 27) (h : fc_X11_cut a x1 σ = some (r, σ')) : cl_Met true l D c0 yX11_cut cX11_cut 2 (some .int) 0 0 [.ref (c0 + a), .int x1] σ (some (.int r)) cl_no σ' :=
  cl_of (by decide) (Nat.le_of_ble_eq_true rfl) (fun p e s m args below meth c ls C hn G hl => wc_X11_cut_0 C h G ha hl)
abbrev cX11_run : ByteArray := prog_1_method_16_code
def yX11_run : MethodName := ⟨RX11, "run", "(I)I"⟩
theorem dX11_run_0 : decode cX11_run 0 = .ok (.iload_n 1, 1) := by decide +kernel
theorem dX11_run_1 : decode cX11_run 1 = .ok (.ifCond .lt 10, 3) := by decide +kernel
theorem dX11_run_4 : decode cX11_run 4 = .ok (.iload_n 1, 1) := by decide +kernel
theorem dX11_run_5 : decode cX11_run 5 = .ok (.sipush 2000, 3) := by decide +kernel
theorem dX11_run_8 : decode cX11_run 8 = .ok (.if_icmp .le 6, 3) := by decide +kernel
theorem dX11_run_11 : decode cX11_run 11 = .ok (.bipush (-2), 2) := by decide +kernel
theorem dX11_run_13 : decode cX11_run 13 = .ok (.ireturn, 1) := by decide +kernel
theorem dX11_run_14 : decode cX11_run 14 = .ok (.aload_n 0, 1) := by decide +kernel
theorem dX11_run_15 : decode cX11_run 15 = .ok (.getfield 81, 3) := by decide +kernel
theorem dX11_run_18 : decode cX11_run 18 = .ok (.getfield 137, 3) := by decide +kernel
theorem dX11_run_21 : decode cX11_run 21 = .ok (.ifCond .ne 6, 3) := by decide +kernel
theorem dX11_run_24 : decode cX11_run 24 = .ok (.bipush (-3), 2) := by decide +kernel
theorem dX11_run_26 : decode cX11_run 26 = .ok (.ireturn, 1) := by decide +kernel
theorem dX11_run_27 : decode cX11_run 27 = .ok (.aload_n 0, 1) := by decide +kernel
theorem dX11_run_28 : decode cX11_run 28 = .ok (.getfield 81, 3) := by decide +kernel
theorem dX11_run_31 : decode cX11_run 31 = .ok (.getfield 209, 3) := by decide +kernel
theorem dX11_run_34 : decode cX11_run 34 = .ok (.iload_n 1, 1) := by decide +kernel
theorem dX11_run_35 : decode cX11_run 35 = .ok (.iadd, 1) := by decide +kernel
theorem dX11_run_36 : decode cX11_run 36 = .ok (.ldc 215, 2) := by decide +kernel
theorem dX11_run_38 : decode cX11_run 38 = .ok (.if_icmp .le 6, 3) := by decide +kernel
theorem dX11_run_41 : decode cX11_run 41 = .ok (.bipush (-4), 2) := by decide +kernel
theorem dX11_run_43 : decode cX11_run 43 = .ok (.ireturn, 1) := by decide +kernel
theorem dX11_run_44 : decode cX11_run 44 = .ok (.aload_n 0, 1) := by decide +kernel
theorem dX11_run_45 : decode cX11_run 45 = .ok (.getfield 81, 3) := by decide +kernel
theorem dX11_run_48 : decode cX11_run 48 = .ok (.iload_n 1, 1) := by decide +kernel
theorem dX11_run_49 : decode cX11_run 49 = .ok (.invokevirtual 216, 3) := by decide +kernel
theorem dX11_run_52 : decode cX11_run 52 = .ok (.ireturn, 1) := by decide +kernel
theorem cc_X11_run : Cond.code yX11_run cX11_run 2 (some .int) ∈ rf_tb := rf_at 1102 (by decide +kernel) (by decide +kernel)
theorem cw_RX11_216 : cl_wV RX11 RX5 yX5_runTicks cX5_runTicks 6 (some .int) 216 1 := ⟨⟨rf_at 1104 (by decide +kernel) (by decide +kernel), rf_at 1105 (by decide +kernel) (by decide +kernel), rf_at 1106 (by decide +kernel) (by decide +kernel), cc_X5_runTicks, rf_at 13 (by decide +kernel) (by decide +kernel)⟩, ⟨by decide, by decide, by decide +kernel⟩⟩
theorem kc_RX11_215 : Cond.constant RX11 215 (60000 : Int32) ∈ rf_tb := rf_at 1103 (by decide +kernel) (by decide +kernel)
noncomputable def bc_X11_run_0 (a : Nat) (x1 : Int32) (σ : cl_S) : Option (Int32 × cl_S) := (if x1 < 0 then some ((-2:Int32), σ) else (if x1 ≤ (2000:Int32) then (if (σ.1 47 8) = 0 then some ((-3:Int32), σ) else (if ((σ.1 47 9) + x1) ≤ (60000:Int32) then bd2 (fc_X5_runTicks 47 x1 σ) (fun r_5 σ_4 => some (r_5, σ_4)) else some ((-4:Int32), σ))) else some ((-2:Int32), σ)))
set_option maxHeartbeats 4000000 in
theorem wc_X11_run_0 (C : cl_C D p s m args meth c cX11_run 2 (some .int) RX11) {r : Int32} {a : Nat} {x1 : Int32} {σ0 σ σ' : cl_S} {T : Nat → Nat × Nat} {H : Heap} {locs : List Loc} {ls : Array Slot} {cells slots : Nat} (h : bc_X11_run_0 a x1 σ = some (r, σ')) (G : cl_G true D c0 ({ frames := 7, cells := σ0.2.2.2.2.2.1, slots := σ0.2.2.2.2.2.2, locals := 173 }) s σ0.2.2.2.1 T σ H locs cells slots) (ha : (T a).1 = 27) (hl : lv_has ls 2 [(0, .ref (c0 + a)), (1, .int x1)]) : W p l e ({ frames := 7, cells := σ0.2.2.2.2.2.1, slots := σ0.2.2.2.2.2.2, locals := 173 }) s m args below meth c H locs cells slots (MQ below (cl_Q true D c0 (some (.int r)) cl_no σ0 σ') args s (σ0.2.2.2.2.2.1 - σ'.2.2.2.2.2.1) (σ0.2.2.2.2.2.2 - σ'.2.2.2.2.2.2) (cl_A c0 σ0.2.2.2.1 s.heap.size)) (F0 m 0 ls []) := by
  unfold bc_X11_run_0 at h
  refine lv_iload_n C.1 C.2.1 dX11_run_0 rfl (lv_at hl 1 rfl) ?_
  refine lv_if_lt (tgt := 11) C.1 C.2.1 dX11_run_1 (by decide) (fun hc => ?_) (fun hc => ?_)
  · rw [if_pos hc] at h
    refine lv_bipush (v := (-2:Int32)) C.1 C.2.1 dX11_run_11 (by decide) ?_
    exact cl_iret ⟨rfl, rfl⟩ rfl C G h dX11_run_13
  · rw [if_neg hc] at h
    refine lv_iload_n C.1 C.2.1 dX11_run_4 rfl (lv_at hl 1 rfl) ?_
    refine lv_sipush (v := (2000:Int32)) C.1 C.2.1 dX11_run_5 (by decide) ?_
    refine lv_icmp_le (tgt := 14) C.1 C.2.1 dX11_run_8 (by decide) (fun hc => ?_) (fun hc => ?_)
    · rw [if_pos hc] at h
      refine lv_aload_n C.1 C.2.1 dX11_run_14 rfl (lv_at hl 0 rfl) ?_
      refine cg_11_81 C G ha dX11_run_15 (fun t_1 => ?_)
      have t_1 : (T 47).1 = 21 := by rw [t_1]
      refine cg_11_137 C G t_1 dX11_run_18 ?_
      refine lv_if_ne (tgt := 27) C.1 C.2.1 dX11_run_21 (by decide) (fun hc => ?_) (fun hc => ?_)
      · rw [if_neg hc] at h
        refine lv_aload_n C.1 C.2.1 dX11_run_27 rfl (lv_at hl 0 rfl) ?_
        refine cg_11_81 C G ha dX11_run_28 (fun t_2 => ?_)
        have t_2 : (T 47).1 = 21 := by rw [t_2]
        refine cg_11_209 C G t_2 dX11_run_31 ?_
        refine lv_iload_n C.1 C.2.1 dX11_run_34 rfl (lv_at hl 1 rfl) ?_
        refine lv_iadd C.1 C.2.1 dX11_run_35 ?_
        refine lv_ldc (v := (60000:Int32)) C.1 C.2.1 C.2.2.2.1 (C.2.2.2.2.1 _ kc_RX11_215) dX11_run_36 ?_
        refine lv_icmp_le (tgt := 44) C.1 C.2.1 dX11_run_38 (by decide) (fun hc => ?_) (fun hc => ?_)
        · rw [if_pos hc] at h
          refine lv_aload_n C.1 C.2.1 dX11_run_44 rfl (lv_at hl 0 rfl) ?_
          refine cg_11_81 C G ha dX11_run_45 (fun t_3 => ?_)
          have t_3 : (T 47).1 = 21 := by rw [t_3]
          refine lv_iload_n C.1 C.2.1 dX11_run_48 rfl (lv_at hl 1 rfl) ?_
          obtain ⟨r_5, σ_4, hq, h_6⟩ := bd2_some h
          refine cl_callV (ci := 5) (rest := []) C G rfl t_3 cw_RX11_216 [.int x1] _ (kc_X5_runTicks l D c0 (by rw [G.1]; exact t_3) hq) (Nat.le_of_ble_eq_true rfl) (Nat.le_of_ble_eq_true rfl) rfl rfl hl.1 (Nat.le_of_ble_eq_true rfl) dX11_run_49 (fun T_7 H locs cells slots t_8 hu G_9 => ?_)
          have ha := hu.kind ha (by decide)
          refine W.eq (g2 := F0 m 52 ls [.int r_5]) rfl ?_
          exact cl_iret ⟨rfl, rfl⟩ rfl C G_9 h_6 dX11_run_52
        · rw [if_neg hc] at h
          refine lv_bipush (v := (-4:Int32)) C.1 C.2.1 dX11_run_41 (by decide) ?_
          exact cl_iret ⟨rfl, rfl⟩ rfl C G h dX11_run_43
      · rw [if_pos hc] at h
        refine lv_bipush (v := (-3:Int32)) C.1 C.2.1 dX11_run_24 (by decide) ?_
        exact cl_iret ⟨rfl, rfl⟩ rfl C G h dX11_run_26
    · rw [if_neg hc] at h
      refine lv_bipush (v := (-2:Int32)) C.1 C.2.1 dX11_run_11 (by decide) ?_
      exact cl_iret ⟨rfl, rfl⟩ rfl C G h dX11_run_13
noncomputable def fc_X11_run (a : Nat) (x1 : Int32) (σ : cl_S) : Option (Int32 × cl_S) := bc_X11_run_0 a x1 σ
theorem kc_X11_run (l : Launch) (D : cl_D) (c0 : Nat) {r : Int32} {a : Nat} {x1 : Int32} {σ σ' : cl_S} (ha : (σ.2.2.2.1 a).1 = 27) (h : fc_X11_run a x1 σ = some (r, σ')) : cl_Met true l D c0 yX11_run cX11_run 2 (some .int) 7 173 [.ref (c0 + a), .int x1] σ (some (.int r)) cl_no σ' :=
  cl_of (by decide) (Nat.le_of_ble_eq_true rfl) (fun p e s m args below meth c ls C hn G hl => wc_X11_run_0 C h G ha hl)
abbrev cX11_isPartition : ByteArray := prog_1_method_39_code
def yX11_isPartition : MethodName := ⟨RX11, "isPartition", "(I)Z"⟩
theorem dX11_isPartition_0 : decode cX11_isPartition 0 = .ok (.iload_n 1, 1) := by decide +kernel
theorem dX11_isPartition_1 : decode cX11_isPartition 1 = .ok (.ifCond .lt 21, 3) := by decide +kernel
theorem dX11_isPartition_4 : decode cX11_isPartition 4 = .ok (.iload_n 1, 1) := by decide +kernel
theorem dX11_isPartition_5 : decode cX11_isPartition 5 = .ok (.aload_n 0, 1) := by decide +kernel
theorem dX11_isPartition_6 : decode cX11_isPartition 6 = .ok (.getfield 81, 3) := by decide +kernel
theorem dX11_isPartition_9 : decode cX11_isPartition 9 = .ok (.getfield 157, 3) := by decide +kernel
theorem dX11_isPartition_12 : decode cX11_isPartition 12 = .ok (.getfield 145, 3) := by decide +kernel
theorem dX11_isPartition_15 : decode cX11_isPartition 15 = .ok (.if_icmp .ge 7, 3) := by decide +kernel
theorem dX11_isPartition_18 : decode cX11_isPartition 18 = .ok (.iconst 1, 1) := by decide +kernel
theorem dX11_isPartition_19 : decode cX11_isPartition 19 = .ok (.goto 4, 3) := by decide +kernel
theorem dX11_isPartition_22 : decode cX11_isPartition 22 = .ok (.iconst 0, 1) := by decide +kernel
theorem dX11_isPartition_23 : decode cX11_isPartition 23 = .ok (.ireturn, 1) := by decide +kernel
theorem cc_X11_isPartition : Cond.code yX11_isPartition cX11_isPartition 2 (some .boolean) ∈ rf_tb := rf_at 1337 (by decide +kernel) (by decide +kernel)
noncomputable def bc_X11_isPartition_0 (a : Nat) (x1 : Int32) (σ : cl_S) : Option (Int32 × cl_S) := (if x1 < 0 then some ((0:Int32), σ) else vl (σ.2.2.1 47 3) (fun r_3 => nn r_3 (fun a_6 => (if (σ.1 a_6 0) ≤ x1 then some ((0:Int32), σ) else some ((1:Int32), σ)))))
set_option maxHeartbeats 4000000 in
theorem wc_X11_isPartition_0 (C : cl_C D p s m args meth c cX11_isPartition 2 (some .boolean) RX11) {r : Int32} {a : Nat} {x1 : Int32} {σ0 σ σ' : cl_S} {T : Nat → Nat × Nat} {H : Heap} {locs : List Loc} {ls : Array Slot} {cells slots : Nat} (h : bc_X11_isPartition_0 a x1 σ = some (r, σ')) (G : cl_G true D c0 ({ frames := 0, cells := σ0.2.2.2.2.2.1, slots := σ0.2.2.2.2.2.2, locals := 0 }) s σ0.2.2.2.1 T σ H locs cells slots) (ha : (T a).1 = 27) (hl : lv_has ls 2 [(0, .ref (c0 + a)), (1, .int x1)]) : W p l e ({ frames := 0, cells := σ0.2.2.2.2.2.1, slots := σ0.2.2.2.2.2.2, locals := 0 }) s m args below meth c H locs cells slots (MQ below (cl_Q true D c0 (some (.int r)) cl_no σ0 σ') args s (σ0.2.2.2.2.2.1 - σ'.2.2.2.2.2.1) (σ0.2.2.2.2.2.2 - σ'.2.2.2.2.2.2) (cl_A c0 σ0.2.2.2.1 s.heap.size)) (F0 m 0 ls []) := by
  unfold bc_X11_isPartition_0 at h
  refine lv_iload_n C.1 C.2.1 dX11_isPartition_0 rfl (lv_at hl 1 rfl) ?_
  refine lv_if_lt (tgt := 22) C.1 C.2.1 dX11_isPartition_1 (by decide) (fun hc => ?_) (fun hc => ?_)
  · rw [if_pos hc] at h
    refine lv_iconst (v := (0:Int32)) C.1 C.2.1 dX11_isPartition_22 (by decide) ?_
    exact cl_zret ⟨rfl, rfl⟩ rfl C G h rfl dX11_isPartition_23
  · rw [if_neg hc] at h
    refine lv_iload_n C.1 C.2.1 dX11_isPartition_4 rfl (lv_at hl 1 rfl) ?_
    refine lv_aload_n C.1 C.2.1 dX11_isPartition_5 rfl (lv_at hl 0 rfl) ?_
    refine cg_11_81 C G ha dX11_isPartition_6 (fun t_1 => ?_)
    have t_1 : (T 47).1 = 21 := by rw [t_1]
    refine cg_11_157 C G t_1 dX11_isPartition_9 (fun t_2 => ?_)
    refine vt_r (K := 17) t_2 h (fun r_3 t_4 h_5 => ?_)
    obtain ⟨a_6, rfl, h_8⟩ := nn_some h_5
    have t_7 := t_4 _ rfl
    refine cg_11_145 C G t_7 dX11_isPartition_12 ?_
    refine lv_icmp_ge (tgt := 22) C.1 C.2.1 dX11_isPartition_15 (by decide) (fun hc => ?_) (fun hc => ?_)
    · rw [if_pos hc] at h_8
      refine lv_iconst (v := (0:Int32)) C.1 C.2.1 dX11_isPartition_22 (by decide) ?_
      exact cl_zret ⟨rfl, rfl⟩ rfl C G h_8 rfl dX11_isPartition_23
    · rw [if_neg hc] at h_8
      refine lv_iconst (v := (1:Int32)) C.1 C.2.1 dX11_isPartition_18 (by decide) ?_
      refine lv_goto (tgt := 23) C.1 C.2.1 dX11_isPartition_19 (by decide) ?_
      exact cl_zret ⟨rfl, rfl⟩ rfl C G h_8 rfl dX11_isPartition_23
noncomputable def fc_X11_isPartition (a : Nat) (x1 : Int32) (σ : cl_S) : Option (Int32 × cl_S) := bc_X11_isPartition_0 a x1 σ
theorem kc_X11_isPartition (l : Launch) (D : cl_D) (c0 : Nat) {r : Int32} {a : Nat} {x1 : Int32} {σ σ' : cl_S} (ha : (σ.2.2.2.1 a).1 = 27) (h : fc_X11_isPartition a x1 σ = some (r, σ')) : cl_Met true l D c0 yX11_isPartition cX11_isPartition 2 (some .boolean) 0 0 [.ref (c0 + a), .int x1] σ (some (.int r)) cl_no σ' :=
  cl_of (by decide) (Nat.le_of_ble_eq_true rfl) (fun p e s m args below meth c ls C hn G hl => wc_X11_isPartition_0 C h G ha hl)
abbrev cX11_input : ByteArray := prog_1_method_17_code
def yX11_input : MethodName := ⟨RX11, "input", "(II)I"⟩
theorem dX11_input_0 : decode cX11_input 0 = .ok (.aload_n 0, 1) := by decide +kernel
theorem dX11_input_1 : decode cX11_input 1 = .ok (.iload_n 1, 1) := by decide +kernel
theorem dX11_input_2 : decode cX11_input 2 = .ok (.invokevirtual 219, 3) := by decide +kernel
theorem dX11_input_5 : decode cX11_input 5 = .ok (.ifCond .ne 5, 3) := by decide +kernel
theorem dX11_input_8 : decode cX11_input 8 = .ok (.iconst (-1), 1) := by decide +kernel
theorem dX11_input_9 : decode cX11_input 9 = .ok (.ireturn, 1) := by decide +kernel
theorem dX11_input_10 : decode cX11_input 10 = .ok (.aload_n 0, 1) := by decide +kernel
theorem dX11_input_11 : decode cX11_input 11 = .ok (.getfield 81, 3) := by decide +kernel
theorem dX11_input_14 : decode cX11_input 14 = .ok (.getfield 137, 3) := by decide +kernel
theorem dX11_input_17 : decode cX11_input 17 = .ok (.ifCond .ne 6, 3) := by decide +kernel
theorem dX11_input_20 : decode cX11_input 20 = .ok (.bipush (-3), 2) := by decide +kernel
theorem dX11_input_22 : decode cX11_input 22 = .ok (.ireturn, 1) := by decide +kernel
theorem dX11_input_23 : decode cX11_input 23 = .ok (.aload_n 0, 1) := by decide +kernel
theorem dX11_input_24 : decode cX11_input 24 = .ok (.getfield 81, 3) := by decide +kernel
theorem dX11_input_27 : decode cX11_input 27 = .ok (.getfield 175, 3) := by decide +kernel
theorem dX11_input_30 : decode cX11_input 30 = .ok (.iload_n 1, 1) := by decide +kernel
theorem dX11_input_31 : decode cX11_input 31 = .ok (.aaload, 1) := by decide +kernel
theorem dX11_input_32 : decode cX11_input 32 = .ok (.iload_n 2, 1) := by decide +kernel
theorem dX11_input_33 : decode cX11_input 33 = .ok (.invokevirtual 223, 3) := by decide +kernel
theorem dX11_input_36 : decode cX11_input 36 = .ok (.istore_n 3, 1) := by decide +kernel
theorem dX11_input_37 : decode cX11_input 37 = .ok (.iload_n 3, 1) := by decide +kernel
theorem dX11_input_38 : decode cX11_input 38 = .ok (.ifCond .le 19, 3) := by decide +kernel
theorem dX11_input_41 : decode cX11_input 41 = .ok (.aload_n 0, 1) := by decide +kernel
theorem dX11_input_42 : decode cX11_input 42 = .ok (.getfield 81, 3) := by decide +kernel
theorem dX11_input_45 : decode cX11_input 45 = .ok (.iload_n 1, 1) := by decide +kernel
theorem dX11_input_46 : decode cX11_input 46 = .ok (.iload_n 2, 1) := by decide +kernel
theorem dX11_input_47 : decode cX11_input 47 = .ok (.aload_n 0, 1) := by decide +kernel
theorem dX11_input_48 : decode cX11_input 48 = .ok (.getfield 47, 3) := by decide +kernel
theorem dX11_input_51 : decode cX11_input 51 = .ok (.getfield 62, 3) := by decide +kernel
theorem dX11_input_54 : decode cX11_input 54 = .ok (.invokevirtual 226, 3) := by decide +kernel
theorem dX11_input_57 : decode cX11_input 57 = .ok (.iload_n 3, 1) := by decide +kernel
theorem dX11_input_58 : decode cX11_input 58 = .ok (.ireturn, 1) := by decide +kernel
theorem cc_X11_input : Cond.code yX11_input cX11_input 4 (some .int) ∈ rf_tb := rf_at 1333 (by decide +kernel) (by decide +kernel)
theorem cw_RX11_219 : cl_wV RX11 RX11 yX11_isPartition cX11_isPartition 2 (some .boolean) 219 1 := ⟨⟨rf_at 1334 (by decide +kernel) (by decide +kernel), rf_at 1336 (by decide +kernel) (by decide +kernel), rf_sel (q := (yX11_isPartition, 15)) 66 (by decide +kernel) (by decide +kernel), cc_X11_isPartition, rf_at 1 (by decide +kernel) (by decide +kernel)⟩, ⟨by decide, by decide, by decide +kernel⟩⟩
theorem cw_RX11_223 : cl_wV RX11 RX6 yX6_waitWord cX6_waitWord 2 (some .int) 223 1 := ⟨⟨rf_at 1338 (by decide +kernel) (by decide +kernel), rf_at 1339 (by decide +kernel) (by decide +kernel), rf_at 1340 (by decide +kernel) (by decide +kernel), cc_X6_waitWord, rf_at 15 (by decide +kernel) (by decide +kernel)⟩, ⟨by decide, by decide, by decide +kernel⟩⟩
theorem cw_RX11_226 : cl_wV RX11 RX5 yX5_noteInput cX5_noteInput 4 none 226 3 := ⟨⟨rf_at 1342 (by decide +kernel) (by decide +kernel), rf_at 1343 (by decide +kernel) (by decide +kernel), rf_at 1344 (by decide +kernel) (by decide +kernel), cc_X5_noteInput, rf_at 13 (by decide +kernel) (by decide +kernel)⟩, ⟨by decide, by decide, by decide +kernel⟩⟩
noncomputable def bc_X11_input_0 (a : Nat) (x1 : Int32) (x2 : Int32) (σ : cl_S) : Option (Int32 × cl_S) := bd2 (fc_X11_isPartition a x1 σ) (fun r_2 σ_1 => (if r_2 = 0 then some ((-1:Int32), σ_1) else (if (σ_1.1 47 8) = 0 then some ((-3:Int32), σ_1) else ix x1 8 (vl (σ_1.2.2.1 (47 + 12 + cl_md 47) x1.toNatClampNeg) (fun r_12 => nn r_12 (fun a_15 => bd2 (fc_X6_waitWord a_15 x2 σ_1) (fun r_19 σ_18 => (if r_19 ≤ 0 then some (r_19, σ_18) else vl (σ_18.2.2.1 31 4) (fun r_28 => bd1 (fc_X5_noteInput 47 x1 x2 r_28 σ_18) (fun σ_31 => some (r_19, σ_31)))))))))))
set_option maxHeartbeats 4000000 in
theorem wc_X11_input_0 (C : cl_C D p s m args meth c cX11_input 4 (some .int) RX11) {r : Int32} {a : Nat} {x1 : Int32} {x2 : Int32} {σ0 σ σ' : cl_S} {T : Nat → Nat × Nat} {H : Heap} {locs : List Loc} {ls : Array Slot} {cells slots : Nat} (h : bc_X11_input_0 a x1 x2 σ = some (r, σ')) (G : cl_G true D c0 ({ frames := 1, cells := σ0.2.2.2.2.2.1, slots := σ0.2.2.2.2.2.2, locals := 23 }) s σ0.2.2.2.1 T σ H locs cells slots) (ha : (T a).1 = 27) (hl : lv_has ls 4 [(0, .ref (c0 + a)), (1, .int x1), (2, .int x2)]) : W p l e ({ frames := 1, cells := σ0.2.2.2.2.2.1, slots := σ0.2.2.2.2.2.2, locals := 23 }) s m args below meth c H locs cells slots (MQ below (cl_Q true D c0 (some (.int r)) cl_no σ0 σ') args s (σ0.2.2.2.2.2.1 - σ'.2.2.2.2.2.1) (σ0.2.2.2.2.2.2 - σ'.2.2.2.2.2.2) (cl_A c0 σ0.2.2.2.1 s.heap.size)) (F0 m 0 ls []) := by
  unfold bc_X11_input_0 at h
  refine lv_aload_n C.1 C.2.1 dX11_input_0 rfl (lv_at hl 0 rfl) ?_
  refine lv_iload_n C.1 C.2.1 dX11_input_1 rfl (lv_at hl 1 rfl) ?_
  obtain ⟨r_2, σ_1, hq, h_3⟩ := bd2_some h
  refine cl_callV (ci := 11) (rest := []) C G rfl ha cw_RX11_219 [.int x1] _ (kc_X11_isPartition l D c0 (by rw [G.1]; exact ha) hq) (Nat.le_of_ble_eq_true rfl) (Nat.le_of_ble_eq_true rfl) rfl rfl hl.1 (Nat.le_of_ble_eq_true rfl) dX11_input_2 (fun T_4 H locs cells slots t_5 hu G_6 => ?_)
  have ha := hu.kind ha (by decide)
  refine W.eq (g2 := F0 m 5 ls [.int r_2]) rfl ?_
  refine lv_if_ne (tgt := 10) C.1 C.2.1 dX11_input_5 (by decide) (fun hc => ?_) (fun hc => ?_)
  · rw [if_neg hc] at h_3
    refine lv_aload_n C.1 C.2.1 dX11_input_10 rfl (lv_at hl 0 rfl) ?_
    refine cg_11_81 C G_6 ha dX11_input_11 (fun t_7 => ?_)
    have t_7 : (T_4 47).1 = 21 := by rw [t_7]
    refine cg_11_137 C G_6 t_7 dX11_input_14 ?_
    refine lv_if_ne (tgt := 23) C.1 C.2.1 dX11_input_17 (by decide) (fun hc => ?_) (fun hc => ?_)
    · rw [if_neg hc] at h_3
      refine lv_aload_n C.1 C.2.1 dX11_input_23 rfl (lv_at hl 0 rfl) ?_
      refine cg_11_81 C G_6 ha dX11_input_24 (fun t_8 => ?_)
      have t_8 : (T_4 47).1 = 21 := by rw [t_8]
      refine cg_11_175 C G_6 t_8 dX11_input_27 (fun t_9 => ?_)
      refine lv_iload_n C.1 C.2.1 dX11_input_30 rfl (lv_at hl 1 rfl) ?_
      obtain ⟨hi, h_10⟩ := ix_some h_3
      refine cl_aald C G_6 t_9 (by decide) (by decide) rfl hi dX11_input_31 (fun t_11 => ?_)
      refine vt_r (K := 22) t_11 h_10 (fun r_12 t_13 h_14 => ?_)
      refine lv_iload_n C.1 C.2.1 dX11_input_32 rfl (lv_at hl 2 rfl) ?_
      obtain ⟨a_15, rfl, h_17⟩ := nn_some h_14
      have t_16 := t_13 _ rfl
      obtain ⟨r_19, σ_18, hq, h_20⟩ := bd2_some h_17
      refine cl_callV (ci := 6) (rest := []) C G_6 rfl t_16 cw_RX11_223 [.int x2] _ (kc_X6_waitWord l D c0 (by rw [G_6.1]; exact t_16) hq) (Nat.le_of_ble_eq_true rfl) (Nat.le_of_ble_eq_true rfl) rfl rfl hl.1 (Nat.le_of_ble_eq_true rfl) dX11_input_33 (fun T_21 H locs cells slots t_22 hu G_23 => ?_)
      have ha := hu.kind ha (by decide)
      refine W.eq (g2 := F0 m 36 ls [.int r_19]) rfl ?_
      refine lv_istore_n (lv' := [(3, .int r_19), (0, .ref (c0 + a)), (1, .int x1), (2, .int x2)]) C.1 C.2.1 dX11_input_36 rfl hl (by decide) rfl (fun ls hl_24 => ?_)
      refine lv_iload_n C.1 C.2.1 dX11_input_37 rfl (lv_at hl_24 0 rfl) ?_
      refine lv_if_le (tgt := 57) C.1 C.2.1 dX11_input_38 (by decide) (fun hc => ?_) (fun hc => ?_)
      · rw [if_pos hc] at h_20
        refine lv_iload_n C.1 C.2.1 dX11_input_57 rfl (lv_at hl_24 0 rfl) ?_
        exact cl_iret ⟨rfl, rfl⟩ rfl C G_23 h_20 dX11_input_58
      · rw [if_neg hc] at h_20
        refine lv_aload_n C.1 C.2.1 dX11_input_41 rfl (lv_at hl_24 1 rfl) ?_
        refine cg_11_81 C G_23 ha dX11_input_42 (fun t_25 => ?_)
        have t_25 : (T_21 47).1 = 21 := by rw [t_25]
        refine lv_iload_n C.1 C.2.1 dX11_input_45 rfl (lv_at hl_24 2 rfl) ?_
        refine lv_iload_n C.1 C.2.1 dX11_input_46 rfl (lv_at hl_24 3 rfl) ?_
        refine lv_aload_n C.1 C.2.1 dX11_input_47 rfl (lv_at hl_24 1 rfl) ?_
        refine cg_11_47 C G_23 ha dX11_input_48 (fun t_26 => ?_)
        have t_26 : (T_21 31).1 = 26 := by rw [t_26]
        refine cg_11_62 C G_23 t_26 dX11_input_51 (fun t_27 => ?_)
        refine vt_r (K := 25) t_27 h_20 (fun r_28 t_29 h_30 => ?_)
        obtain ⟨σ_31, hq, h_32⟩ := bd1_some h_30
        refine cl_callV (ci := 5) (rest := []) C G_23 rfl t_25 cw_RX11_226 [.int x1, .int x2, cl_rf c0 r_28] _ (kc_X5_noteInput l D c0 (by rw [G_23.1]; exact t_25) hq (by rw [G_23.1]; exact t_29)) (Nat.le_of_ble_eq_true rfl) (Nat.le_of_ble_eq_true rfl) rfl rfl hl_24.1 (Nat.le_of_ble_eq_true rfl) dX11_input_54 (fun T_33 H locs cells slots t_34 hu G_35 => ?_)
        have ha := hu.kind ha (by decide)
        refine W.eq (g2 := F0 m 57 ls []) rfl ?_
        refine lv_iload_n C.1 C.2.1 dX11_input_57 rfl (lv_at hl_24 0 rfl) ?_
        exact cl_iret ⟨rfl, rfl⟩ rfl C G_35 h_32 dX11_input_58
    · rw [if_pos hc] at h_3
      refine lv_bipush (v := (-3:Int32)) C.1 C.2.1 dX11_input_20 (by decide) ?_
      exact cl_iret ⟨rfl, rfl⟩ rfl C G_6 h_3 dX11_input_22
  · rw [if_pos hc] at h_3
    refine lv_iconst (v := (-1:Int32)) C.1 C.2.1 dX11_input_8 (by decide) ?_
    exact cl_iret ⟨rfl, rfl⟩ rfl C G_6 h_3 dX11_input_9
noncomputable def fc_X11_input (a : Nat) (x1 : Int32) (x2 : Int32) (σ : cl_S) : Option (Int32 × cl_S) := bc_X11_input_0 a x1 x2 σ
theorem kc_X11_input (l : Launch) (D : cl_D) (c0 : Nat) {r : Int32} {a : Nat} {x1 : Int32} {x2 : Int32} {σ σ' : cl_S} (ha : (σ.2.2.2.1 a).1 = 27) (h : fc_X11_input a x1 x2 σ = some (r, σ')) : cl_Met true l D c0 yX11_input cX11_input 4 (some .int) 1 23 [.ref (c0 + a), .int x1, .int x2] σ (some (.int r)) cl_no σ' :=
  cl_of (by decide) (Nat.le_of_ble_eq_true rfl) (fun p e s m args below meth c ls C hn G hl => wc_X11_input_0 C h G ha hl)
end CQ14
