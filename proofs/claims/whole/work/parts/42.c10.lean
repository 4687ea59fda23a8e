section CQ9
variable {p : Program} {l : Launch} {e : Env} {s : State} {m : MethodId} {args : Array Value} {below : List Frame} {meth : Method} {c : Code} {D : cl_D} {c0 : Nat}
abbrev cX5_openClosed : ByteArray := prog_7_method_24_code
def yX5_openClosed : MethodName := ⟨RX5, "openClosed", "(LPartHouse$Partition;LPartHouse$Term;)I"⟩
theorem dX5_openClosed_0 : decode cX5_openClosed 0 = .ok (.aload_n 1, 1) := by decide +kernel
theorem dX5_openClosed_1 : decode cX5_openClosed 1 = .ok (.getfield 199, 3) := by decide +kernel
theorem dX5_openClosed_4 : decode cX5_openClosed 4 = .ok (.aload_n 1, 1) := by decide +kernel
theorem dX5_openClosed_5 : decode cX5_openClosed 5 = .ok (.getfield 121, 3) := by decide +kernel
theorem dX5_openClosed_8 : decode cX5_openClosed 8 = .ok (.getfield 193, 3) := by decide +kernel
theorem dX5_openClosed_11 : decode cX5_openClosed 11 = .ok (.iconst 2, 1) := by decide +kernel
theorem dX5_openClosed_12 : decode cX5_openClosed 12 = .ok (.iaload, 1) := by decide +kernel
theorem dX5_openClosed_13 : decode cX5_openClosed 13 = .ok (.invokevirtual 203, 3) := by decide +kernel
theorem dX5_openClosed_16 : decode cX5_openClosed 16 = .ok (.astore_n 3, 1) := by decide +kernel
theorem dX5_openClosed_17 : decode cX5_openClosed 17 = .ok (.aload_n 2, 1) := by decide +kernel
theorem dX5_openClosed_18 : decode cX5_openClosed 18 = .ok (.aload_n 0, 1) := by decide +kernel
theorem dX5_openClosed_19 : decode cX5_openClosed 19 = .ok (.getfield 51, 3) := by decide +kernel
theorem dX5_openClosed_22 : decode cX5_openClosed 22 = .ok (.getfield 83, 3) := by decide +kernel
theorem dX5_openClosed_25 : decode cX5_openClosed 25 = .ok (.if_acmp .eq 14, 3) := by decide +kernel
theorem dX5_openClosed_28 : decode cX5_openClosed 28 = .ok (.aload_n 3, 1) := by decide +kernel
theorem dX5_openClosed_29 : decode cX5_openClosed 29 = .ok (.aload_n 0, 1) := by decide +kernel
theorem dX5_openClosed_30 : decode cX5_openClosed 30 = .ok (.getfield 51, 3) := by decide +kernel
theorem dX5_openClosed_33 : decode cX5_openClosed 33 = .ok (.getfield 83, 3) := by decide +kernel
theorem dX5_openClosed_36 : decode cX5_openClosed 36 = .ok (.if_acmp .ne 6, 3) := by decide +kernel
theorem dX5_openClosed_39 : decode cX5_openClosed 39 = .ok (.bipush (-2), 2) := by decide +kernel
theorem dX5_openClosed_41 : decode cX5_openClosed 41 = .ok (.ireturn, 1) := by decide +kernel
theorem dX5_openClosed_42 : decode cX5_openClosed 42 = .ok (.aload_n 3, 1) := by decide +kernel
theorem dX5_openClosed_43 : decode cX5_openClosed 43 = .ok (.getfield 263, 3) := by decide +kernel
theorem dX5_openClosed_46 : decode cX5_openClosed 46 = .ok (.aload_n 2, 1) := by decide +kernel
theorem dX5_openClosed_47 : decode cX5_openClosed 47 = .ok (.if_acmp .ne 18, 3) := by decide +kernel
theorem dX5_openClosed_50 : decode cX5_openClosed 50 = .ok (.aload_n 0, 1) := by decide +kernel
theorem dX5_openClosed_51 : decode cX5_openClosed 51 = .ok (.aload_n 1, 1) := by decide +kernel
theorem dX5_openClosed_52 : decode cX5_openClosed 52 = .ok (.aload_n 3, 1) := by decide +kernel
theorem dX5_openClosed_53 : decode cX5_openClosed 53 = .ok (.bipush 8, 2) := by decide +kernel
theorem dX5_openClosed_55 : decode cX5_openClosed 55 = .ok (.aload_n 3, 1) := by decide +kernel
theorem dX5_openClosed_56 : decode cX5_openClosed 56 = .ok (.getfield 348, 3) := by decide +kernel
theorem dX5_openClosed_59 : decode cX5_openClosed 59 = .ok (.invokevirtual 266, 3) := by decide +kernel
theorem dX5_openClosed_62 : decode cX5_openClosed 62 = .ok (.goto 5, 3) := by decide +kernel
theorem dX5_openClosed_65 : decode cX5_openClosed 65 = .ok (.bipush (-3), 2) := by decide +kernel
theorem dX5_openClosed_67 : decode cX5_openClosed 67 = .ok (.ireturn, 1) := by decide +kernel
theorem cc_X5_openClosed : Cond.code yX5_openClosed cX5_openClosed 4 (some .int) ∈ rf_tb := rf_at 1271 (by decide +kernel) (by decide +kernel)
theorem cw_RX5_266 : cl_wV RX5 RX5 yX5_lookInto cX5_lookInto 5 (some .int) 266 4 := ⟨⟨rf_at 1260 (by decide +kernel) (by decide +kernel), rf_at 1262 (by decide +kernel) (by decide +kernel), rf_sel (q := (yX5_lookInto, 20)) 53 (by decide +kernel) (by decide +kernel), cc_X5_lookInto, rf_at 13 (by decide +kernel) (by decide +kernel)⟩, ⟨by decide, by decide, by decide +kernel⟩⟩
noncomputable def bc_X5_openClosed_0 (a : Nat) (x1 : (Option Nat)) (x2 : (Option Nat)) (σ : cl_S) : Option (Int32 × cl_S) := nn x1 (fun a_1 => ix (2:Int32) 16 (bd2 (fc_X8_at (a_1 + 9) (σ.1 ((a_1 + 1) + 2) (2:Int32).toNatClampNeg) σ) (fun r_9 σ_8 => (if x2 = (some 33) then some ((-2:Int32), σ_8) else (if r_9 = (some 33) then some ((-2:Int32), σ_8) else nn r_9 (fun a_19 => vl (σ_8.2.2.1 a_19 3) (fun r_23 => (if r_23 = x2 then vl (σ_8.2.2.1 a_19 5) (fun r_27 => bd2 (fc_X5_lookInto a (some a_1) (some a_19) (8:Int32) r_27 σ_8) (fun r_31 σ_30 => some (r_31, σ_30))) else some ((-3:Int32), σ_8)))))))))
set_option maxHeartbeats 4000000 in
theorem wc_X5_openClosed_0 (C : cl_C D p s m args meth c cX5_openClosed 4 (some .int) RX5) {r : Int32} {a : Nat} {x1 : (Option Nat)} {x2 : (Option Nat)} {σ0 σ σ' : cl_S} {T : Nat → Nat × Nat} {H : Heap} {locs : List Loc} {ls : Array Slot} {cells slots : Nat} (h : bc_X5_openClosed_0 a x1 x2 σ = some (r, σ')) (G : cl_G true D c0 ({ frames := 3, cells := σ0.2.2.2.2.2.1, slots := σ0.2.2.2.2.2.2, locals := 69 }) s σ0.2.2.2.1 T σ H locs cells slots) (ha : (T a).1 = 21) (f1 : cl_RT T x1 22) (f2 : cl_RT T x2 25) (hl : lv_has ls 4 [(0, .ref (c0 + a)), (1, cl_rf c0 x1), (2, cl_rf c0 x2)]) : W p l e ({ frames := 3, cells := σ0.2.2.2.2.2.1, slots := σ0.2.2.2.2.2.2, locals := 69 }) s m args below meth c H locs cells slots (MQ below (cl_Q true D c0 (some (.int r)) cl_no σ0 σ') args s (σ0.2.2.2.2.2.1 - σ'.2.2.2.2.2.1) (σ0.2.2.2.2.2.2 - σ'.2.2.2.2.2.2) (cl_A c0 σ0.2.2.2.1 s.heap.size)) (F0 m 0 ls []) := by
  unfold bc_X5_openClosed_0 at h
  refine cl_aload_n C.1 C.2.1 dX5_openClosed_0 rfl (lv_at hl 1 rfl) ?_
  obtain ⟨a_1, rfl, h_3⟩ := nn_some h
  have t_2 := f1 _ rfl
  refine cg_5_199 C G t_2 dX5_openClosed_1 (fun t_4 => ?_)
  have t_4 : (T (a_1 + 9)).1 = 24 := by rw [t_4]
  refine lv_aload_n C.1 C.2.1 dX5_openClosed_4 rfl (lv_at hl 1 rfl) ?_
  refine cg_5_121 C G t_2 dX5_openClosed_5 (fun t_5 => ?_)
  have t_5 : (T (a_1 + 1)).1 = 18 := by rw [t_5]
  refine cg_5_193 C G t_5 dX5_openClosed_8 (fun t_6 => ?_)
  refine lv_iconst (v := (2:Int32)) C.1 C.2.1 dX5_openClosed_11 (by decide) ?_
  obtain ⟨hi, h_7⟩ := ix_some h_3
  refine cl_iald C G t_6 hi dX5_openClosed_12 ?_
  obtain ⟨r_9, σ_8, hq, h_10⟩ := bd2_some h_7
  refine cl_callV (ci := 8) (rest := []) C G rfl t_4 cw_RX5_203 [.int (σ.1 ((a_1 + 1) + 2) (2:Int32).toNatClampNeg)] _ (kc_X8_at l D c0 (by rw [G.1]; exact t_4) hq) (Nat.le_of_ble_eq_true rfl) (Nat.le_of_ble_eq_true rfl) rfl rfl hl.1 (Nat.le_of_ble_eq_true rfl) dX5_openClosed_13 (fun T_11 H locs cells slots t_12 hu G_13 => ?_)
  have ha := hu.kind ha (by decide)
  have t_2 := hu.kind t_2 (by decide)
  have f2 := f2.up hu (by decide)
  refine W.eq (g2 := F0 m 16 ls [cl_rf c0 r_9]) rfl ?_
  refine cl_astore_n (lv' := [(3, cl_rf c0 r_9), (0, .ref (c0 + a)), (1, .ref (c0 + a_1)), (2, cl_rf c0 x2)]) C.1 C.2.1 dX5_openClosed_16 rfl hl (by decide) (by first | rfl | (cases x2 <;> rfl)) (fun ls hl_14 => ?_)
  refine cl_aload_n C.1 C.2.1 dX5_openClosed_17 rfl (lv_at hl_14 3 rfl) ?_
  refine lv_aload_n C.1 C.2.1 dX5_openClosed_18 rfl (lv_at hl_14 1 rfl) ?_
  refine cg_5_51 C G_13 ha dX5_openClosed_19 (fun t_15 => ?_)
  have t_15 : (T_11 31).1 = 26 := by rw [t_15]
  refine cg_5_83 C G_13 t_15 dX5_openClosed_22 (fun t_16 => ?_)
  have t_16 : (T_11 33).1 = 25 := by rw [t_16]
  refine cl_acmp_eq (rx := x2) (ry := (some 33)) (tgt := 39) C.1 C.2.1 dX5_openClosed_25 (by decide) (fun hc => ?_) (fun hc => ?_)
  · rw [if_pos hc] at h_10
    refine lv_bipush (v := (-2:Int32)) C.1 C.2.1 dX5_openClosed_39 (by decide) ?_
    exact cl_iret ⟨rfl, rfl⟩ rfl C G_13 h_10 dX5_openClosed_41
  · rw [if_neg hc] at h_10
    refine cl_aload_n C.1 C.2.1 dX5_openClosed_28 rfl (lv_at hl_14 0 rfl) ?_
    refine lv_aload_n C.1 C.2.1 dX5_openClosed_29 rfl (lv_at hl_14 1 rfl) ?_
    refine cg_5_51 C G_13 ha dX5_openClosed_30 (fun t_17 => ?_)
    have t_17 : (T_11 31).1 = 26 := by rw [t_17]
    refine cg_5_83 C G_13 t_17 dX5_openClosed_33 (fun t_18 => ?_)
    have t_18 : (T_11 33).1 = 25 := by rw [t_18]
    refine cl_acmp_ne (rx := r_9) (ry := (some 33)) (tgt := 42) C.1 C.2.1 dX5_openClosed_36 (by decide) (fun hc => ?_) (fun hc => ?_)
    · rw [if_neg hc] at h_10
      refine cl_aload_n C.1 C.2.1 dX5_openClosed_42 rfl (lv_at hl_14 0 rfl) ?_
      obtain ⟨a_19, rfl, h_21⟩ := nn_some h_10
      have t_20 := t_12 _ rfl
      refine cg_5_263 C G_13 t_20 dX5_openClosed_43 (fun t_22 => ?_)
      refine vt_r (K := 25) t_22 h_21 (fun r_23 t_24 h_25 => ?_)
      refine cl_aload_n C.1 C.2.1 dX5_openClosed_46 rfl (lv_at hl_14 3 rfl) ?_
      refine cl_acmp_ne (rx := r_23) (ry := x2) (tgt := 65) C.1 C.2.1 dX5_openClosed_47 (by decide) (fun hc => ?_) (fun hc => ?_)
      · rw [if_neg hc] at h_25
        refine lv_bipush (v := (-3:Int32)) C.1 C.2.1 dX5_openClosed_65 (by decide) ?_
        exact cl_iret ⟨rfl, rfl⟩ rfl C G_13 h_25 dX5_openClosed_67
      · rw [if_pos hc] at h_25
        refine lv_aload_n C.1 C.2.1 dX5_openClosed_50 rfl (lv_at hl_14 1 rfl) ?_
        refine lv_aload_n C.1 C.2.1 dX5_openClosed_51 rfl (lv_at hl_14 2 rfl) ?_
        refine lv_aload_n C.1 C.2.1 dX5_openClosed_52 rfl (lv_at hl_14 0 rfl) ?_
        refine lv_bipush (v := (8:Int32)) C.1 C.2.1 dX5_openClosed_53 (by decide) ?_
        refine lv_aload_n C.1 C.2.1 dX5_openClosed_55 rfl (lv_at hl_14 0 rfl) ?_
        refine cg_5_348 C G_13 t_20 dX5_openClosed_56 (fun t_26 => ?_)
        refine vt_r (K := 25) t_26 h_25 (fun r_27 t_28 h_29 => ?_)
        obtain ⟨r_31, σ_30, hq, h_32⟩ := bd2_some h_29
        refine cl_callV (ci := 5) (rest := []) C G_13 rfl ha cw_RX5_266 [.ref (c0 + a_1), .ref (c0 + a_19), .int (8:Int32), cl_rf c0 r_27] _ (kc_X5_lookInto l D c0 (by rw [G_13.1]; exact ha) hq (by rw [G_13.1]; exact (cl_RTs t_2)) (by rw [G_13.1]; exact (cl_RTs t_20)) (by rw [G_13.1]; exact t_28)) (Nat.le_of_ble_eq_true rfl) (Nat.le_of_ble_eq_true rfl) rfl rfl hl_14.1 (Nat.le_of_ble_eq_true rfl) dX5_openClosed_59 (fun T_33 H locs cells slots t_34 hu G_35 => ?_)
        have t_20 := hu.kind t_20 (by decide)
        have ha := hu.kind ha (by decide)
        have t_2 := hu.kind t_2 (by decide)
        have f2 := f2.up hu (by decide)
        refine W.eq (g2 := F0 m 62 ls [.int r_31]) rfl ?_
        refine lv_goto (tgt := 67) C.1 C.2.1 dX5_openClosed_62 (by decide) ?_
        exact cl_iret ⟨rfl, rfl⟩ rfl C G_35 h_32 dX5_openClosed_67
    · rw [if_pos hc] at h_10
      refine lv_bipush (v := (-2:Int32)) C.1 C.2.1 dX5_openClosed_39 (by decide) ?_
      exact cl_iret ⟨rfl, rfl⟩ rfl C G_13 h_10 dX5_openClosed_41
noncomputable def fc_X5_openClosed (a : Nat) (x1 : (Option Nat)) (x2 : (Option Nat)) (σ : cl_S) : Option (Int32 × cl_S) := bc_X5_openClosed_0 a x1 x2 σ
theorem kc_X5_openClosed (l : Launch) (D : cl_D) (c0 : Nat) {r : Int32} {a : Nat} {x1 : (Option Nat)} {x2 : (Option Nat)} {σ σ' : cl_S} (ha : (σ.2.2.2.1 a).1 = 21) (h : fc_X5_openClosed a x1 x2 σ = some (r, σ')) (f1 : cl_RT σ.2.2.2.1 x1 22) (f2 : cl_RT σ.2.2.2.1 x2 25) : cl_Met true l D c0 yX5_openClosed cX5_openClosed 4 (some .int) 3 69 [.ref (c0 + a), cl_rf c0 x1, cl_rf c0 x2] σ (some (.int r)) cl_no σ' :=
  by cases x1 <;> cases x2 <;> exact cl_of (by decide) (Nat.le_of_ble_eq_true rfl) (fun p e s m args below meth c ls C hn G hl => wc_X5_openClosed_0 C h G ha f1 f2 hl)
abbrev cX5_quote : ByteArray := prog_7_method_25_code
def yX5_quote : MethodName := ⟨RX5, "quote", "(LPartHouse$Partition;LPartHouse$Term;)I"⟩
theorem dX5_quote_0 : decode cX5_quote 0 = .ok (.aload_n 2, 1) := by decide +kernel
theorem dX5_quote_1 : decode cX5_quote 1 = .ok (.aload_n 0, 1) := by decide +kernel
theorem dX5_quote_2 : decode cX5_quote 2 = .ok (.getfield 51, 3) := by decide +kernel
theorem dX5_quote_5 : decode cX5_quote 5 = .ok (.getfield 83, 3) := by decide +kernel
theorem dX5_quote_8 : decode cX5_quote 8 = .ok (.if_acmp .ne 6, 3) := by decide +kernel
theorem dX5_quote_11 : decode cX5_quote 11 = .ok (.bipush (-2), 2) := by decide +kernel
theorem dX5_quote_13 : decode cX5_quote 13 = .ok (.ireturn, 1) := by decide +kernel
theorem dX5_quote_14 : decode cX5_quote 14 = .ok (.aload_n 0, 1) := by decide +kernel
theorem dX5_quote_15 : decode cX5_quote 15 = .ok (.getfield 51, 3) := by decide +kernel
theorem dX5_quote_18 : decode cX5_quote 18 = .ok (.iconst 3, 1) := by decide +kernel
theorem dX5_quote_19 : decode cX5_quote 19 = .ok (.iconst 0, 1) := by decide +kernel
theorem dX5_quote_20 : decode cX5_quote 20 = .ok (.aload_n 1, 1) := by decide +kernel
theorem dX5_quote_21 : decode cX5_quote 21 = .ok (.getfield 279, 3) := by decide +kernel
theorem dX5_quote_24 : decode cX5_quote 24 = .ok (.aload_n 2, 1) := by decide +kernel
theorem dX5_quote_25 : decode cX5_quote 25 = .ok (.aload_n 0, 1) := by decide +kernel
theorem dX5_quote_26 : decode cX5_quote 26 = .ok (.getfield 51, 3) := by decide +kernel
theorem dX5_quote_29 : decode cX5_quote 29 = .ok (.getfield 83, 3) := by decide +kernel
theorem dX5_quote_32 : decode cX5_quote 32 = .ok (.invokevirtual 351, 3) := by decide +kernel
theorem dX5_quote_35 : decode cX5_quote 35 = .ok (.astore_n 3, 1) := by decide +kernel
theorem dX5_quote_36 : decode cX5_quote 36 = .ok (.aload_n 3, 1) := by decide +kernel
theorem dX5_quote_37 : decode cX5_quote 37 = .ok (.aload_n 0, 1) := by decide +kernel
theorem dX5_quote_38 : decode cX5_quote 38 = .ok (.getfield 51, 3) := by decide +kernel
theorem dX5_quote_41 : decode cX5_quote 41 = .ok (.getfield 83, 3) := by decide +kernel
theorem dX5_quote_44 : decode cX5_quote 44 = .ok (.if_acmp .ne 38, 3) := by decide +kernel
theorem dX5_quote_47 : decode cX5_quote 47 = .ok (.aload_n 1, 1) := by decide +kernel
theorem dX5_quote_48 : decode cX5_quote 48 = .ok (.getfield 199, 3) := by decide +kernel
theorem dX5_quote_51 : decode cX5_quote 51 = .ok (.invokevirtual 355, 3) := by decide +kernel
theorem dX5_quote_54 : decode cX5_quote 54 = .ok (.ifCond .eq 6, 3) := by decide +kernel
theorem dX5_quote_57 : decode cX5_quote 57 = .ok (.bipush (-4), 2) := by decide +kernel
theorem dX5_quote_59 : decode cX5_quote 59 = .ok (.ireturn, 1) := by decide +kernel
theorem dX5_quote_60 : decode cX5_quote 60 = .ok (.aload_n 0, 1) := by decide +kernel
theorem dX5_quote_61 : decode cX5_quote 61 = .ok (.getfield 51, 3) := by decide +kernel
theorem dX5_quote_64 : decode cX5_quote 64 = .ok (.iconst 3, 1) := by decide +kernel
theorem dX5_quote_65 : decode cX5_quote 65 = .ok (.iconst 0, 1) := by decide +kernel
theorem dX5_quote_66 : decode cX5_quote 66 = .ok (.aload_n 1, 1) := by decide +kernel
theorem dX5_quote_67 : decode cX5_quote 67 = .ok (.getfield 279, 3) := by decide +kernel
theorem dX5_quote_70 : decode cX5_quote 70 = .ok (.aload_n 2, 1) := by decide +kernel
theorem dX5_quote_71 : decode cX5_quote 71 = .ok (.aload_n 0, 1) := by decide +kernel
theorem dX5_quote_72 : decode cX5_quote 72 = .ok (.getfield 51, 3) := by decide +kernel
theorem dX5_quote_75 : decode cX5_quote 75 = .ok (.getfield 83, 3) := by decide +kernel
theorem dX5_quote_78 : decode cX5_quote 78 = .ok (.invokevirtual 359, 3) := by decide +kernel
theorem dX5_quote_81 : decode cX5_quote 81 = .ok (.astore_n 3, 1) := by decide +kernel
theorem dX5_quote_82 : decode cX5_quote 82 = .ok (.aload_n 1, 1) := by decide +kernel
theorem dX5_quote_83 : decode cX5_quote 83 = .ok (.getfield 199, 3) := by decide +kernel
theorem dX5_quote_86 : decode cX5_quote 86 = .ok (.bipush 7, 2) := by decide +kernel
theorem dX5_quote_88 : decode cX5_quote 88 = .ok (.iconst 0, 1) := by decide +kernel
theorem dX5_quote_89 : decode cX5_quote 89 = .ok (.aload_n 0, 1) := by decide +kernel
theorem dX5_quote_90 : decode cX5_quote 90 = .ok (.getfield 51, 3) := by decide +kernel
theorem dX5_quote_93 : decode cX5_quote 93 = .ok (.getfield 362, 3) := by decide +kernel
theorem dX5_quote_96 : decode cX5_quote 96 = .ok (.aload_n 3, 1) := by decide +kernel
theorem dX5_quote_97 : decode cX5_quote 97 = .ok (.aload_n 0, 1) := by decide +kernel
theorem dX5_quote_98 : decode cX5_quote 98 = .ok (.getfield 51, 3) := by decide +kernel
theorem dX5_quote_101 : decode cX5_quote 101 = .ok (.getfield 83, 3) := by decide +kernel
theorem dX5_quote_104 : decode cX5_quote 104 = .ok (.invokevirtual 247, 3) := by decide +kernel
theorem dX5_quote_107 : decode cX5_quote 107 = .ok (.ireturn, 1) := by decide +kernel
theorem cc_X5_quote : Cond.code yX5_quote cX5_quote 4 (some .int) ∈ rf_tb := rf_at 1275 (by decide +kernel) (by decide +kernel)
theorem cw_RX5_351 : cl_wV RX5 RX10 yX10_find cX10_find 7 (some (.object "PartHouse$Term")) 351 5 := ⟨⟨rf_at 1276 (by decide +kernel) (by decide +kernel), rf_at 307 (by decide +kernel) (by decide +kernel), rf_at 308 (by decide +kernel) (by decide +kernel), cc_X10_find, rf_at 9 (by decide +kernel) (by decide +kernel)⟩, ⟨by decide, by decide, by decide +kernel⟩⟩
theorem cw_RX5_355 : cl_wV RX5 RX8 yX8_isFull cX8_isFull 1 (some .boolean) 355 0 := ⟨⟨rf_at 1277 (by decide +kernel) (by decide +kernel), rf_at 1222 (by decide +kernel) (by decide +kernel), rf_at 1223 (by decide +kernel) (by decide +kernel), cc_X8_isFull, rf_at 11 (by decide +kernel) (by decide +kernel)⟩, ⟨by decide, by decide, by decide +kernel⟩⟩
theorem cw_RX5_359 : cl_wV RX5 RX10 yX10_add cX10_add 8 (some (.object "PartHouse$Term")) 359 5 := ⟨⟨rf_at 1278 (by decide +kernel) (by decide +kernel), rf_at 291 (by decide +kernel) (by decide +kernel), rf_at 292 (by decide +kernel) (by decide +kernel), cc_X10_add, rf_at 9 (by decide +kernel) (by decide +kernel)⟩, ⟨by decide, by decide, by decide +kernel⟩⟩
noncomputable def bc_X5_quote_82 (a : Nat) (x1 : (Option Nat)) (x3 : (Option Nat)) (σ : cl_S) : Option (Int32 × cl_S) := nn x1 (fun a_22 => bd2 (fc_X8_comeInMade (a_22 + 9) (7:Int32) (0:Int32) (some 36) x3 (some 33) σ) (fun r_31 σ_30 => some (r_31, σ_30)))
set_option maxHeartbeats 4000000 in
theorem wc_X5_quote_82 (C : cl_C D p s m args meth c cX5_quote 4 (some .int) RX5) {r : Int32} {a : Nat} {x1 : (Option Nat)} {x3 : (Option Nat)} {σ0 σ σ' : cl_S} {T : Nat → Nat × Nat} {H : Heap} {locs : List Loc} {ls : Array Slot} {cells slots : Nat} (h : bc_X5_quote_82 a x1 x3 σ = some (r, σ')) (G : cl_G true D c0 ({ frames := 5, cells := σ0.2.2.2.2.2.1, slots := σ0.2.2.2.2.2.2, locals := 133 }) s σ0.2.2.2.1 T σ H locs cells slots) (ha : (T a).1 = 21) (f1 : cl_RT T x1 22) (f3 : cl_RT T x3 25) (hl : lv_has ls 4 [(0, .ref (c0 + a)), (1, cl_rf c0 x1), (3, cl_rf c0 x3)]) : W p l e ({ frames := 5, cells := σ0.2.2.2.2.2.1, slots := σ0.2.2.2.2.2.2, locals := 133 }) s m args below meth c H locs cells slots (MQ below (cl_Q true D c0 (some (.int r)) cl_no σ0 σ') args s (σ0.2.2.2.2.2.1 - σ'.2.2.2.2.2.1) (σ0.2.2.2.2.2.2 - σ'.2.2.2.2.2.2) (cl_A c0 σ0.2.2.2.1 s.heap.size)) (F0 m 82 ls []) := by
  unfold bc_X5_quote_82 at h
  refine cl_aload_n C.1 C.2.1 dX5_quote_82 rfl (lv_at hl 1 rfl) ?_
  obtain ⟨a_22, rfl, h_24⟩ := nn_some h
  have t_23 := f1 _ rfl
  refine cg_5_199 C G t_23 dX5_quote_83 (fun t_25 => ?_)
  have t_25 : (T (a_22 + 9)).1 = 24 := by rw [t_25]
  refine lv_bipush (v := (7:Int32)) C.1 C.2.1 dX5_quote_86 (by decide) ?_
  refine lv_iconst (v := (0:Int32)) C.1 C.2.1 dX5_quote_88 (by decide) ?_
  refine lv_aload_n C.1 C.2.1 dX5_quote_89 rfl (lv_at hl 0 rfl) ?_
  refine cg_5_51 C G ha dX5_quote_90 (fun t_26 => ?_)
  have t_26 : (T 31).1 = 26 := by rw [t_26]
  refine cg_5_362 C G t_26 dX5_quote_93 (fun t_27 => ?_)
  have t_27 : (T 36).1 = 25 := by rw [t_27]
  refine cl_aload_n C.1 C.2.1 dX5_quote_96 rfl (lv_at hl 2 rfl) ?_
  refine lv_aload_n C.1 C.2.1 dX5_quote_97 rfl (lv_at hl 0 rfl) ?_
  refine cg_5_51 C G ha dX5_quote_98 (fun t_28 => ?_)
  have t_28 : (T 31).1 = 26 := by rw [t_28]
  refine cg_5_83 C G t_28 dX5_quote_101 (fun t_29 => ?_)
  have t_29 : (T 33).1 = 25 := by rw [t_29]
  obtain ⟨r_31, σ_30, hq, h_32⟩ := bd2_some h_24
  refine cl_callV (ci := 8) (rest := []) C G rfl t_25 cw_RX5_247 [.int (7:Int32), .int (0:Int32), .ref (c0 + 36), cl_rf c0 x3, .ref (c0 + 33)] _ (kc_X8_comeInMade l D c0 (by rw [G.1]; exact t_25) hq (by rw [G.1]; exact (cl_RTs t_27)) (by rw [G.1]; exact f3) (by rw [G.1]; exact (cl_RTs t_29))) (Nat.le_of_ble_eq_true rfl) (Nat.le_of_ble_eq_true rfl) rfl rfl hl.1 (Nat.le_of_ble_eq_true rfl) dX5_quote_104 (fun T_33 H locs cells slots t_34 hu G_35 => ?_)
  have ha := hu.kind ha (by decide)
  have t_23 := hu.kind t_23 (by decide)
  have f3 := f3.up hu (by decide)
  refine W.eq (g2 := F0 m 107 ls [.int r_31]) rfl ?_
  exact cl_iret ⟨rfl, rfl⟩ rfl C G_35 h_32 dX5_quote_107
noncomputable def bc_X5_quote_0 (a : Nat) (x1 : (Option Nat)) (x2 : (Option Nat)) (σ : cl_S) : Option (Int32 × cl_S) := (if x2 = (some 33) then some ((-2:Int32), σ) else nn x1 (fun a_4 => vl (σ.2.2.1 a_4 16) (fun r_8 => bd2 (fc_X10_find 31 (3:Int32) (0:Int32) r_8 x2 (some 33) σ) (fun r_14 σ_13 => (if r_14 = (some 33) then bd2 (fc_X8_isFull (a_4 + 9) σ_13) (fun r_38 σ_37 => (if r_38 = 0 then vl (σ_37.2.2.1 a_4 16) (fun r_45 => bd2 (fc_X10_add 31 (3:Int32) (0:Int32) r_45 x2 (some 33) σ_37) (fun r_51 σ_50 => bc_X5_quote_82 a (some a_4) r_51 σ_50)) else some ((-4:Int32), σ_37))) else bc_X5_quote_82 a (some a_4) r_14 σ_13)))))
set_option maxHeartbeats 4000000 in
theorem wc_X5_quote_0 (C : cl_C D p s m args meth c cX5_quote 4 (some .int) RX5) {r : Int32} {a : Nat} {x1 : (Option Nat)} {x2 : (Option Nat)} {σ0 σ σ' : cl_S} {T : Nat → Nat × Nat} {H : Heap} {locs : List Loc} {ls : Array Slot} {cells slots : Nat} (h : bc_X5_quote_0 a x1 x2 σ = some (r, σ')) (G : cl_G true D c0 ({ frames := 5, cells := σ0.2.2.2.2.2.1, slots := σ0.2.2.2.2.2.2, locals := 133 }) s σ0.2.2.2.1 T σ H locs cells slots) (ha : (T a).1 = 21) (f1 : cl_RT T x1 22) (f2 : cl_RT T x2 25) (hl : lv_has ls 4 [(0, .ref (c0 + a)), (1, cl_rf c0 x1), (2, cl_rf c0 x2)]) : W p l e ({ frames := 5, cells := σ0.2.2.2.2.2.1, slots := σ0.2.2.2.2.2.2, locals := 133 }) s m args below meth c H locs cells slots (MQ below (cl_Q true D c0 (some (.int r)) cl_no σ0 σ') args s (σ0.2.2.2.2.2.1 - σ'.2.2.2.2.2.1) (σ0.2.2.2.2.2.2 - σ'.2.2.2.2.2.2) (cl_A c0 σ0.2.2.2.1 s.heap.size)) (F0 m 0 ls []) := by
  unfold bc_X5_quote_0 at h
  refine cl_aload_n C.1 C.2.1 dX5_quote_0 rfl (lv_at hl 2 rfl) ?_
  refine lv_aload_n C.1 C.2.1 dX5_quote_1 rfl (lv_at hl 0 rfl) ?_
  refine cg_5_51 C G ha dX5_quote_2 (fun t_1 => ?_)
  have t_1 : (T 31).1 = 26 := by rw [t_1]
  refine cg_5_83 C G t_1 dX5_quote_5 (fun t_2 => ?_)
  have t_2 : (T 33).1 = 25 := by rw [t_2]
  refine cl_acmp_ne (rx := x2) (ry := (some 33)) (tgt := 14) C.1 C.2.1 dX5_quote_8 (by decide) (fun hc => ?_) (fun hc => ?_)
  · rw [if_neg hc] at h
    refine lv_aload_n C.1 C.2.1 dX5_quote_14 rfl (lv_at hl 0 rfl) ?_
    refine cg_5_51 C G ha dX5_quote_15 (fun t_3 => ?_)
    have t_3 : (T 31).1 = 26 := by rw [t_3]
    refine lv_iconst (v := (3:Int32)) C.1 C.2.1 dX5_quote_18 (by decide) ?_
    refine lv_iconst (v := (0:Int32)) C.1 C.2.1 dX5_quote_19 (by decide) ?_
    refine cl_aload_n C.1 C.2.1 dX5_quote_20 rfl (lv_at hl 1 rfl) ?_
    obtain ⟨a_4, rfl, h_6⟩ := nn_some h
    have t_5 := f1 _ rfl
    refine cg_5_279 C G t_5 dX5_quote_21 (fun t_7 => ?_)
    refine vt_r (K := 25) t_7 h_6 (fun r_8 t_9 h_10 => ?_)
    refine cl_aload_n C.1 C.2.1 dX5_quote_24 rfl (lv_at hl 2 rfl) ?_
    refine lv_aload_n C.1 C.2.1 dX5_quote_25 rfl (lv_at hl 0 rfl) ?_
    refine cg_5_51 C G ha dX5_quote_26 (fun t_11 => ?_)
    have t_11 : (T 31).1 = 26 := by rw [t_11]
    refine cg_5_83 C G t_11 dX5_quote_29 (fun t_12 => ?_)
    have t_12 : (T 33).1 = 25 := by rw [t_12]
    obtain ⟨r_14, σ_13, hq, h_15⟩ := bd2_some h_10
    refine cl_callV (ci := 10) (rest := []) C G rfl t_3 cw_RX5_351 [.int (3:Int32), .int (0:Int32), cl_rf c0 r_8, cl_rf c0 x2, .ref (c0 + 33)] _ (kc_X10_find l D c0 (by rw [G.1]; exact t_3) hq (by rw [G.1]; exact t_9) (by rw [G.1]; exact f2) (by rw [G.1]; exact (cl_RTs t_12))) (Nat.le_of_ble_eq_true rfl) (Nat.le_of_ble_eq_true rfl) rfl rfl hl.1 (Nat.le_of_ble_eq_true rfl) dX5_quote_32 (fun T_16 H locs cells slots t_17 hu G_18 => ?_)
    have ha := hu.kind ha (by decide)
    have t_5 := hu.kind t_5 (by decide)
    have f2 := f2.up hu (by decide)
    refine W.eq (g2 := F0 m 35 ls [cl_rf c0 r_14]) rfl ?_
    refine cl_astore_n (lv' := [(3, cl_rf c0 r_14), (0, .ref (c0 + a)), (1, .ref (c0 + a_4)), (2, cl_rf c0 x2)]) C.1 C.2.1 dX5_quote_35 rfl hl (by decide) (by first | rfl | (cases x2 <;> rfl)) (fun ls hl_19 => ?_)
    refine cl_aload_n C.1 C.2.1 dX5_quote_36 rfl (lv_at hl_19 0 rfl) ?_
    refine lv_aload_n C.1 C.2.1 dX5_quote_37 rfl (lv_at hl_19 1 rfl) ?_
    refine cg_5_51 C G_18 ha dX5_quote_38 (fun t_20 => ?_)
    have t_20 : (T_16 31).1 = 26 := by rw [t_20]
    refine cg_5_83 C G_18 t_20 dX5_quote_41 (fun t_21 => ?_)
    have t_21 : (T_16 33).1 = 25 := by rw [t_21]
    refine cl_acmp_ne (rx := r_14) (ry := (some 33)) (tgt := 82) C.1 C.2.1 dX5_quote_44 (by decide) (fun hc => ?_) (fun hc => ?_)
    · rw [if_neg hc] at h_15
      exact wc_X5_quote_82 C h_15 G_18 ha (cl_RTs t_5) t_17 (lv_sub hl_19 [1, 2, 0] rfl)
    · rw [if_pos hc] at h_15
      refine lv_aload_n C.1 C.2.1 dX5_quote_47 rfl (lv_at hl_19 2 rfl) ?_
      refine cg_5_199 C G_18 t_5 dX5_quote_48 (fun t_36 => ?_)
      have t_36 : (T_16 (a_4 + 9)).1 = 24 := by rw [t_36]
      obtain ⟨r_38, σ_37, hq, h_39⟩ := bd2_some h_15
      refine cl_callV (ci := 8) (rest := []) C G_18 rfl t_36 cw_RX5_355 [] _ (kc_X8_isFull l D c0 (by rw [G_18.1]; exact t_36) hq) (Nat.le_of_ble_eq_true rfl) (Nat.le_of_ble_eq_true rfl) rfl rfl hl_19.1 (Nat.le_of_ble_eq_true rfl) dX5_quote_51 (fun T_40 H locs cells slots t_41 hu G_42 => ?_)
      have t_17 := t_17.up hu (by decide)
      have ha := hu.kind ha (by decide)
      have t_5 := hu.kind t_5 (by decide)
      have f2 := f2.up hu (by decide)
      refine W.eq (g2 := F0 m 54 ls [.int r_38]) rfl ?_
      refine lv_if_eq (tgt := 60) C.1 C.2.1 dX5_quote_54 (by decide) (fun hc => ?_) (fun hc => ?_)
      · rw [if_pos hc] at h_39
        refine lv_aload_n C.1 C.2.1 dX5_quote_60 rfl (lv_at hl_19 1 rfl) ?_
        refine cg_5_51 C G_42 ha dX5_quote_61 (fun t_43 => ?_)
        have t_43 : (T_40 31).1 = 26 := by rw [t_43]
        refine lv_iconst (v := (3:Int32)) C.1 C.2.1 dX5_quote_64 (by decide) ?_
        refine lv_iconst (v := (0:Int32)) C.1 C.2.1 dX5_quote_65 (by decide) ?_
        refine lv_aload_n C.1 C.2.1 dX5_quote_66 rfl (lv_at hl_19 2 rfl) ?_
        refine cg_5_279 C G_42 t_5 dX5_quote_67 (fun t_44 => ?_)
        refine vt_r (K := 25) t_44 h_39 (fun r_45 t_46 h_47 => ?_)
        refine cl_aload_n C.1 C.2.1 dX5_quote_70 rfl (lv_at hl_19 3 rfl) ?_
        refine lv_aload_n C.1 C.2.1 dX5_quote_71 rfl (lv_at hl_19 1 rfl) ?_
        refine cg_5_51 C G_42 ha dX5_quote_72 (fun t_48 => ?_)
        have t_48 : (T_40 31).1 = 26 := by rw [t_48]
        refine cg_5_83 C G_42 t_48 dX5_quote_75 (fun t_49 => ?_)
        have t_49 : (T_40 33).1 = 25 := by rw [t_49]
        obtain ⟨r_51, σ_50, hq, h_52⟩ := bd2_some h_47
        refine cl_callV (ci := 10) (rest := []) C G_42 rfl t_43 cw_RX5_359 [.int (3:Int32), .int (0:Int32), cl_rf c0 r_45, cl_rf c0 x2, .ref (c0 + 33)] _ (kc_X10_add l D c0 (by rw [G_42.1]; exact t_43) hq (by rw [G_42.1]; exact t_46) (by rw [G_42.1]; exact f2) (by rw [G_42.1]; exact (cl_RTs t_49))) (Nat.le_of_ble_eq_true rfl) (Nat.le_of_ble_eq_true rfl) rfl rfl hl_19.1 (Nat.le_of_ble_eq_true rfl) dX5_quote_78 (fun T_53 H locs cells slots t_54 hu G_55 => ?_)
        have t_17 := t_17.up hu (by decide)
        have ha := hu.kind ha (by decide)
        have t_5 := hu.kind t_5 (by decide)
        have f2 := f2.up hu (by decide)
        refine W.eq (g2 := F0 m 81 ls [cl_rf c0 r_51]) rfl ?_
        refine cl_astore_n (lv' := [(3, cl_rf c0 r_51), (0, .ref (c0 + a)), (1, .ref (c0 + a_4)), (2, cl_rf c0 x2)]) C.1 C.2.1 dX5_quote_81 rfl hl_19 (by decide) (by first | rfl | (cases r_14 <;> cases x2 <;> rfl)) (fun ls hl_56 => ?_)
        exact wc_X5_quote_82 C h_52 G_55 ha (cl_RTs t_5) t_54 (lv_sub hl_56 [1, 2, 0] rfl)
      · rw [if_neg hc] at h_39
        refine lv_bipush (v := (-4:Int32)) C.1 C.2.1 dX5_quote_57 (by decide) ?_
        exact cl_iret ⟨rfl, rfl⟩ rfl C G_42 h_39 dX5_quote_59
  · rw [if_pos hc] at h
    refine lv_bipush (v := (-2:Int32)) C.1 C.2.1 dX5_quote_11 (by decide) ?_
    exact cl_iret ⟨rfl, rfl⟩ rfl C G h dX5_quote_13
noncomputable def fc_X5_quote (a : Nat) (x1 : (Option Nat)) (x2 : (Option Nat)) (σ : cl_S) : Option (Int32 × cl_S) := bc_X5_quote_0 a x1 x2 σ
theorem kc_X5_quote (l : Launch) (D : cl_D) (c0 : Nat) {r : Int32} {a : Nat} {x1 : (Option Nat)} {x2 : (Option Nat)} {σ σ' : cl_S} (ha : (σ.2.2.2.1 a).1 = 21) (h : fc_X5_quote a x1 x2 σ = some (r, σ')) (f1 : cl_RT σ.2.2.2.1 x1 22) (f2 : cl_RT σ.2.2.2.1 x2 25) : cl_Met true l D c0 yX5_quote cX5_quote 4 (some .int) 5 133 [.ref (c0 + a), cl_rf c0 x1, cl_rf c0 x2] σ (some (.int r)) cl_no σ' :=
  by cases x1 <;> cases x2 <;> exact cl_of (by decide) (Nat.le_of_ble_eq_true rfl) (fun p e s m args below meth c ls C hn G hl => wc_X5_quote_0 C h G ha f1 f2 hl)
abbrev cX5_hasBlob : ByteArray := prog_7_method_26_code
def yX5_hasBlob : MethodName := ⟨RX5, "hasBlob", "(LPartHouse$Partition;I)Z"⟩
theorem dX5_hasBlob_0 : decode cX5_hasBlob 0 = .ok (.iload_n 2, 1) := by decide +kernel
theorem dX5_hasBlob_1 : decode cX5_hasBlob 1 = .ok (.ifCond .lt 23, 3) := by decide +kernel
theorem dX5_hasBlob_4 : decode cX5_hasBlob 4 = .ok (.iload_n 2, 1) := by decide +kernel
theorem dX5_hasBlob_5 : decode cX5_hasBlob 5 = .ok (.aload_n 0, 1) := by decide +kernel
theorem dX5_hasBlob_6 : decode cX5_hasBlob 6 = .ok (.getfield 12, 3) := by decide +kernel
theorem dX5_hasBlob_9 : decode cX5_hasBlob 9 = .ok (.getfield 151, 3) := by decide +kernel
theorem dX5_hasBlob_12 : decode cX5_hasBlob 12 = .ok (.aload_n 1, 1) := by decide +kernel
theorem dX5_hasBlob_13 : decode cX5_hasBlob 13 = .ok (.getfield 306, 3) := by decide +kernel
theorem dX5_hasBlob_16 : decode cX5_hasBlob 16 = .ok (.iaload, 1) := by decide +kernel
theorem dX5_hasBlob_17 : decode cX5_hasBlob 17 = .ok (.if_icmp .ge 7, 3) := by decide +kernel
theorem dX5_hasBlob_20 : decode cX5_hasBlob 20 = .ok (.iconst 1, 1) := by decide +kernel
theorem dX5_hasBlob_21 : decode cX5_hasBlob 21 = .ok (.goto 4, 3) := by decide +kernel
theorem dX5_hasBlob_24 : decode cX5_hasBlob 24 = .ok (.iconst 0, 1) := by decide +kernel
theorem dX5_hasBlob_25 : decode cX5_hasBlob 25 = .ok (.ireturn, 1) := by decide +kernel
theorem cc_X5_hasBlob : Cond.code yX5_hasBlob cX5_hasBlob 3 (some .boolean) ∈ rf_tb := rf_at 1286 (by decide +kernel) (by decide +kernel)
noncomputable def bc_X5_hasBlob_0 (a : Nat) (x1 : (Option Nat)) (x2 : Int32) (σ : cl_S) : Option (Int32 × cl_S) := (if x2 < 0 then some ((0:Int32), σ) else vl (σ.2.2.1 a 3) (fun r_2 => nn r_2 (fun a_5 => nn x1 (fun a_9 => ix (σ.1 a_9 3) 8 ((if (σ.1 (a_5 + 3) (σ.1 a_9 3).toNatClampNeg) ≤ x2 then some ((0:Int32), σ) else some ((1:Int32), σ)))))))
set_option maxHeartbeats 4000000 in
theorem wc_X5_hasBlob_0 (C : cl_C D p s m args meth c cX5_hasBlob 3 (some .boolean) RX5) {r : Int32} {a : Nat} {x1 : (Option Nat)} {x2 : Int32} {σ0 σ σ' : cl_S} {T : Nat → Nat × Nat} {H : Heap} {locs : List Loc} {ls : Array Slot} {cells slots : Nat} (h : bc_X5_hasBlob_0 a x1 x2 σ = some (r, σ')) (G : cl_G true D c0 ({ frames := 0, cells := σ0.2.2.2.2.2.1, slots := σ0.2.2.2.2.2.2, locals := 0 }) s σ0.2.2.2.1 T σ H locs cells slots) (ha : (T a).1 = 21) (f1 : cl_RT T x1 22) (hl : lv_has ls 3 [(0, .ref (c0 + a)), (1, cl_rf c0 x1), (2, .int x2)]) : W p l e ({ frames := 0, cells := σ0.2.2.2.2.2.1, slots := σ0.2.2.2.2.2.2, locals := 0 }) s m args below meth c H locs cells slots (MQ below (cl_Q true D c0 (some (.int r)) cl_no σ0 σ') args s (σ0.2.2.2.2.2.1 - σ'.2.2.2.2.2.1) (σ0.2.2.2.2.2.2 - σ'.2.2.2.2.2.2) (cl_A c0 σ0.2.2.2.1 s.heap.size)) (F0 m 0 ls []) := by
  unfold bc_X5_hasBlob_0 at h
  refine lv_iload_n C.1 C.2.1 dX5_hasBlob_0 rfl (lv_at hl 2 rfl) ?_
  refine lv_if_lt (tgt := 24) C.1 C.2.1 dX5_hasBlob_1 (by decide) (fun hc => ?_) (fun hc => ?_)
  · rw [if_pos hc] at h
    refine lv_iconst (v := (0:Int32)) C.1 C.2.1 dX5_hasBlob_24 (by decide) ?_
    exact cl_zret ⟨rfl, rfl⟩ rfl C G h rfl dX5_hasBlob_25
  · rw [if_neg hc] at h
    refine lv_iload_n C.1 C.2.1 dX5_hasBlob_4 rfl (lv_at hl 2 rfl) ?_
    refine lv_aload_n C.1 C.2.1 dX5_hasBlob_5 rfl (lv_at hl 0 rfl) ?_
    refine cg_5_12 C G ha dX5_hasBlob_6 (fun t_1 => ?_)
    refine vt_r (K := 17) t_1 h (fun r_2 t_3 h_4 => ?_)
    obtain ⟨a_5, rfl, h_7⟩ := nn_some h_4
    have t_6 := t_3 _ rfl
    refine cg_5_151 C G t_6 dX5_hasBlob_9 (fun t_8 => ?_)
    refine cl_aload_n C.1 C.2.1 dX5_hasBlob_12 rfl (lv_at hl 1 rfl) ?_
    obtain ⟨a_9, rfl, h_11⟩ := nn_some h_7
    have t_10 := f1 _ rfl
    refine cg_5_306 C G t_10 dX5_hasBlob_13 ?_
    obtain ⟨hi, h_12⟩ := ix_some h_11
    refine cl_iald C G t_8 hi dX5_hasBlob_16 ?_
    refine lv_icmp_ge (tgt := 24) C.1 C.2.1 dX5_hasBlob_17 (by decide) (fun hc => ?_) (fun hc => ?_)
    · rw [if_pos hc] at h_12
      refine lv_iconst (v := (0:Int32)) C.1 C.2.1 dX5_hasBlob_24 (by decide) ?_
      exact cl_zret ⟨rfl, rfl⟩ rfl C G h_12 rfl dX5_hasBlob_25
    · rw [if_neg hc] at h_12
      refine lv_iconst (v := (1:Int32)) C.1 C.2.1 dX5_hasBlob_20 (by decide) ?_
      refine lv_goto (tgt := 25) C.1 C.2.1 dX5_hasBlob_21 (by decide) ?_
      exact cl_zret ⟨rfl, rfl⟩ rfl C G h_12 rfl dX5_hasBlob_25
noncomputable def fc_X5_hasBlob (a : Nat) (x1 : (Option Nat)) (x2 : Int32) (σ : cl_S) : Option (Int32 × cl_S) := bc_X5_hasBlob_0 a x1 x2 σ
theorem kc_X5_hasBlob (l : Launch) (D : cl_D) (c0 : Nat) {r : Int32} {a : Nat} {x1 : (Option Nat)} {x2 : Int32} {σ σ' : cl_S} (ha : (σ.2.2.2.1 a).1 = 21) (h : fc_X5_hasBlob a x1 x2 σ = some (r, σ')) (f1 : cl_RT σ.2.2.2.1 x1 22) : cl_Met true l D c0 yX5_hasBlob cX5_hasBlob 3 (some .boolean) 0 0 [.ref (c0 + a), cl_rf c0 x1, .int x2] σ (some (.int r)) cl_no σ' :=
  by cases x1 <;> exact cl_of (by decide) (Nat.le_of_ble_eq_true rfl) (fun p e s m args below meth c ls C hn G hl => wc_X5_hasBlob_0 C h G ha f1 hl)
abbrev cX5_countingBlock : ByteArray := prog_7_method_27_code
def yX5_countingBlock : MethodName := ⟨RX5, "countingBlock", "(LPartHouse$Partition;I)I"⟩
theorem dX5_countingBlock_0 : decode cX5_countingBlock 0 = .ok (.aload_n 0, 1) := by decide +kernel
theorem dX5_countingBlock_1 : decode cX5_countingBlock 1 = .ok (.getfield 55, 3) := by decide +kernel
theorem dX5_countingBlock_4 : decode cX5_countingBlock 4 = .ok (.aload_n 0, 1) := by decide +kernel
theorem dX5_countingBlock_5 : decode cX5_countingBlock 5 = .ok (.aload_n 1, 1) := by decide +kernel
theorem dX5_countingBlock_6 : decode cX5_countingBlock 6 = .ok (.getfield 306, 3) := by decide +kernel
theorem dX5_countingBlock_9 : decode cX5_countingBlock 9 = .ok (.iload_n 2, 1) := by decide +kernel
theorem dX5_countingBlock_10 : decode cX5_countingBlock 10 = .ok (.invokevirtual 154, 3) := by decide +kernel
theorem dX5_countingBlock_13 : decode cX5_countingBlock 13 = .ok (.iload_n 2, 1) := by decide +kernel
theorem dX5_countingBlock_14 : decode cX5_countingBlock 14 = .ok (.aload_n 1, 1) := by decide +kernel
theorem dX5_countingBlock_15 : decode cX5_countingBlock 15 = .ok (.getfield 365, 3) := by decide +kernel
theorem dX5_countingBlock_18 : decode cX5_countingBlock 18 = .ok (.invokevirtual 368, 3) := by decide +kernel
theorem dX5_countingBlock_21 : decode cX5_countingBlock 21 = .ok (.ireturn, 1) := by decide +kernel
theorem cc_X5_countingBlock : Cond.code yX5_countingBlock cX5_countingBlock 3 (some .int) ∈ rf_tb := rf_at 1290 (by decide +kernel) (by decide +kernel)
theorem cw_RX5_368 : cl_wV RX5 RX3 yX3_counting cX3_counting 6 (some .int) 368 3 := ⟨⟨rf_at 1295 (by decide +kernel) (by decide +kernel), rf_at 1296 (by decide +kernel) (by decide +kernel), rf_at 1297 (by decide +kernel) (by decide +kernel), cc_X3_counting, rf_at 12 (by decide +kernel) (by decide +kernel)⟩, ⟨by decide, by decide, by decide +kernel⟩⟩
noncomputable def bc_X5_countingBlock_0 (a : Nat) (x1 : (Option Nat)) (x2 : Int32) (σ : cl_S) : Option (Int32 × cl_S) := vl (σ.2.2.1 a 1) (fun r_2 => nn x1 (fun a_5 => bd2 (fc_X5_firstCopy a (σ.1 a_5 3) x2 σ) (fun r_9 σ_8 => vl (σ_8.2.2.1 a_5 17) (fun r_15 => nn r_2 (fun a_18 => bd2 (fc_X3_counting a_18 r_9 x2 r_15 σ_8) (fun r_22 σ_21 => some (r_22, σ_21)))))))
set_option maxHeartbeats 4000000 in
theorem wc_X5_countingBlock_0 (C : cl_C D p s m args meth c cX5_countingBlock 3 (some .int) RX5) {r : Int32} {a : Nat} {x1 : (Option Nat)} {x2 : Int32} {σ0 σ σ' : cl_S} {T : Nat → Nat × Nat} {H : Heap} {locs : List Loc} {ls : Array Slot} {cells slots : Nat} (h : bc_X5_countingBlock_0 a x1 x2 σ = some (r, σ')) (G : cl_G true D c0 ({ frames := 2, cells := σ0.2.2.2.2.2.1, slots := σ0.2.2.2.2.2.2, locals := 51 }) s σ0.2.2.2.1 T σ H locs cells slots) (ha : (T a).1 = 21) (f1 : cl_RT T x1 22) (hl : lv_has ls 3 [(0, .ref (c0 + a)), (1, cl_rf c0 x1), (2, .int x2)]) : W p l e ({ frames := 2, cells := σ0.2.2.2.2.2.1, slots := σ0.2.2.2.2.2.2, locals := 51 }) s m args below meth c H locs cells slots (MQ below (cl_Q true D c0 (some (.int r)) cl_no σ0 σ') args s (σ0.2.2.2.2.2.1 - σ'.2.2.2.2.2.1) (σ0.2.2.2.2.2.2 - σ'.2.2.2.2.2.2) (cl_A c0 σ0.2.2.2.1 s.heap.size)) (F0 m 0 ls []) := by
  unfold bc_X5_countingBlock_0 at h
  refine lv_aload_n C.1 C.2.1 dX5_countingBlock_0 rfl (lv_at hl 0 rfl) ?_
  refine cg_5_55 C G ha dX5_countingBlock_1 (fun t_1 => ?_)
  refine vt_r (K := 19) t_1 h (fun r_2 t_3 h_4 => ?_)
  refine lv_aload_n C.1 C.2.1 dX5_countingBlock_4 rfl (lv_at hl 0 rfl) ?_
  refine cl_aload_n C.1 C.2.1 dX5_countingBlock_5 rfl (lv_at hl 1 rfl) ?_
  obtain ⟨a_5, rfl, h_7⟩ := nn_some h_4
  have t_6 := f1 _ rfl
  refine cg_5_306 C G t_6 dX5_countingBlock_6 ?_
  refine lv_iload_n C.1 C.2.1 dX5_countingBlock_9 rfl (lv_at hl 2 rfl) ?_
  obtain ⟨r_9, σ_8, hq, h_10⟩ := bd2_some h_7
  refine cl_callV (ci := 5) (rest := [cl_rf c0 r_2]) C G rfl ha cw_RX5_154 [.int (σ.1 a_5 3), .int x2] _ (kc_X5_firstCopy l D c0 (by rw [G.1]; exact ha) hq) (Nat.le_of_ble_eq_true rfl) (Nat.le_of_ble_eq_true rfl) rfl rfl hl.1 (by cases r_2 <;> exact Nat.le_of_ble_eq_true rfl) dX5_countingBlock_10 (fun T_11 H locs cells slots t_12 hu G_13 => ?_)
  have ha := hu.kind ha (by decide)
  have t_6 := hu.kind t_6 (by decide)
  have t_3 := t_3.up hu (by decide)
  refine W.eq (g2 := F0 m 13 ls [.int r_9, cl_rf c0 r_2]) rfl ?_
  refine lv_iload_n C.1 C.2.1 dX5_countingBlock_13 rfl (lv_at hl 2 rfl) ?_
  refine lv_aload_n C.1 C.2.1 dX5_countingBlock_14 rfl (lv_at hl 1 rfl) ?_
  refine cg_5_365 C G_13 t_6 dX5_countingBlock_15 (fun t_14 => ?_)
  refine vt_r (K := 25) t_14 h_10 (fun r_15 t_16 h_17 => ?_)
  obtain ⟨a_18, rfl, h_20⟩ := nn_some h_17
  have t_19 := t_3 _ rfl
  obtain ⟨r_22, σ_21, hq, h_23⟩ := bd2_some h_20
  refine cl_callV (ci := 3) (rest := []) C G_13 rfl t_19 cw_RX5_368 [.int r_9, .int x2, cl_rf c0 r_15] _ (kc_X3_counting l D c0 (by rw [G_13.1]; exact t_19) hq (by rw [G_13.1]; exact t_16)) (Nat.le_of_ble_eq_true rfl) (Nat.le_of_ble_eq_true rfl) rfl rfl hl.1 (Nat.le_of_ble_eq_true rfl) dX5_countingBlock_18 (fun T_24 H locs cells slots t_25 hu G_26 => ?_)
  have ha := hu.kind ha (by decide)
  have t_6 := hu.kind t_6 (by decide)
  refine W.eq (g2 := F0 m 21 ls [.int r_22]) rfl ?_
  exact cl_iret ⟨rfl, rfl⟩ rfl C G_26 h_23 dX5_countingBlock_21
noncomputable def fc_X5_countingBlock (a : Nat) (x1 : (Option Nat)) (x2 : Int32) (σ : cl_S) : Option (Int32 × cl_S) := bc_X5_countingBlock_0 a x1 x2 σ
theorem kc_X5_countingBlock (l : Launch) (D : cl_D) (c0 : Nat) {r : Int32} {a : Nat} {x1 : (Option Nat)} {x2 : Int32} {σ σ' : cl_S} (ha : (σ.2.2.2.1 a).1 = 21) (h : fc_X5_countingBlock a x1 x2 σ = some (r, σ')) (f1 : cl_RT σ.2.2.2.1 x1 22) : cl_Met true l D c0 yX5_countingBlock cX5_countingBlock 3 (some .int) 2 51 [.ref (c0 + a), cl_rf c0 x1, .int x2] σ (some (.int r)) cl_no σ' :=
  by cases x1 <;> exact cl_of (by decide) (Nat.le_of_ble_eq_true rfl) (fun p e s m args below meth c ls C hn G hl => wc_X5_countingBlock_0 C h G ha f1 hl)
abbrev cX5_powerGoes : ByteArray := prog_7_method_31_code
def yX5_powerGoes : MethodName := ⟨RX5, "powerGoes", "()Z"⟩
theorem dX5_powerGoes_0 : decode cX5_powerGoes 0 = .ok (.aload_n 0, 1) := by decide +kernel
theorem dX5_powerGoes_1 : decode cX5_powerGoes 1 = .ok (.getfield 101, 3) := by decide +kernel
theorem dX5_powerGoes_4 : decode cX5_powerGoes 4 = .ok (.ifCond .ne 5, 3) := by decide +kernel
theorem dX5_powerGoes_7 : decode cX5_powerGoes 7 = .ok (.iconst 0, 1) := by decide +kernel
theorem dX5_powerGoes_8 : decode cX5_powerGoes 8 = .ok (.ireturn, 1) := by decide +kernel
theorem dX5_powerGoes_9 : decode cX5_powerGoes 9 = .ok (.aload_n 0, 1) := by decide +kernel
theorem dX5_powerGoes_10 : decode cX5_powerGoes 10 = .ok (.dup, 1) := by decide +kernel
theorem dX5_powerGoes_11 : decode cX5_powerGoes 11 = .ok (.getfield 101, 3) := by decide +kernel
theorem dX5_powerGoes_14 : decode cX5_powerGoes 14 = .ok (.iconst 1, 1) := by decide +kernel
theorem dX5_powerGoes_15 : decode cX5_powerGoes 15 = .ok (.isub, 1) := by decide +kernel
theorem dX5_powerGoes_16 : decode cX5_powerGoes 16 = .ok (.putfield 101, 3) := by decide +kernel
theorem dX5_powerGoes_19 : decode cX5_powerGoes 19 = .ok (.aload_n 0, 1) := by decide +kernel
theorem dX5_powerGoes_20 : decode cX5_powerGoes 20 = .ok (.getfield 101, 3) := by decide +kernel
theorem dX5_powerGoes_23 : decode cX5_powerGoes 23 = .ok (.ifCond .ne 7, 3) := by decide +kernel
theorem dX5_powerGoes_26 : decode cX5_powerGoes 26 = .ok (.iconst 1, 1) := by decide +kernel
theorem dX5_powerGoes_27 : decode cX5_powerGoes 27 = .ok (.goto 4, 3) := by decide +kernel
theorem dX5_powerGoes_30 : decode cX5_powerGoes 30 = .ok (.iconst 0, 1) := by decide +kernel
theorem dX5_powerGoes_31 : decode cX5_powerGoes 31 = .ok (.ireturn, 1) := by decide +kernel
theorem cc_X5_powerGoes : Cond.code yX5_powerGoes cX5_powerGoes 1 (some .boolean) ∈ rf_tb := rf_at 1306 (by decide +kernel) (by decide +kernel)
noncomputable def bc_X5_powerGoes_0 (a : Nat) (σ : cl_S) : Option (Int32 × cl_S) := (if (σ.1 a 13) = 0 then some ((0:Int32), σ) else vl (cl_w σ a 13 ((σ.1 a 13) - (1:Int32))) (fun σ_1 => (if (σ_1.1 a 13) = 0 then some ((1:Int32), σ_1) else some ((0:Int32), σ_1))))
set_option maxHeartbeats 4000000 in
theorem wc_X5_powerGoes_0 (C : cl_C D p s m args meth c cX5_powerGoes 1 (some .boolean) RX5) {r : Int32} {a : Nat} {σ0 σ σ' : cl_S} {T : Nat → Nat × Nat} {H : Heap} {locs : List Loc} {ls : Array Slot} {cells slots : Nat} (h : bc_X5_powerGoes_0 a σ = some (r, σ')) (G : cl_G true D c0 ({ frames := 0, cells := σ0.2.2.2.2.2.1, slots := σ0.2.2.2.2.2.2, locals := 0 }) s σ0.2.2.2.1 T σ H locs cells slots) (ha : (T a).1 = 21) (hl : lv_has ls 1 [(0, .ref (c0 + a))]) : W p l e ({ frames := 0, cells := σ0.2.2.2.2.2.1, slots := σ0.2.2.2.2.2.2, locals := 0 }) s m args below meth c H locs cells slots (MQ below (cl_Q true D c0 (some (.int r)) cl_no σ0 σ') args s (σ0.2.2.2.2.2.1 - σ'.2.2.2.2.2.1) (σ0.2.2.2.2.2.2 - σ'.2.2.2.2.2.2) (cl_A c0 σ0.2.2.2.1 s.heap.size)) (F0 m 0 ls []) := by
  unfold bc_X5_powerGoes_0 at h
  refine lv_aload_n C.1 C.2.1 dX5_powerGoes_0 rfl (lv_at hl 0 rfl) ?_
  refine cg_5_101 C G ha dX5_powerGoes_1 ?_
  refine lv_if_ne (tgt := 9) C.1 C.2.1 dX5_powerGoes_4 (by decide) (fun hc => ?_) (fun hc => ?_)
  · rw [if_neg hc] at h
    refine lv_aload_n C.1 C.2.1 dX5_powerGoes_9 rfl (lv_at hl 0 rfl) ?_
    refine lv_dup C.1 C.2.1 dX5_powerGoes_10 rfl ?_
    refine cg_5_101 C G ha dX5_powerGoes_11 ?_
    refine lv_iconst (v := (1:Int32)) C.1 C.2.1 dX5_powerGoes_14 (by decide) ?_
    refine lv_isub C.1 C.2.1 dX5_powerGoes_15 ?_
    refine cp_5_101 C G ha dX5_powerGoes_16 (fun H locs G_2 => ?_)
    refine cl_nm G_2 h (fun σ_1 G_3 h_4 => ?_)
    refine lv_aload_n C.1 C.2.1 dX5_powerGoes_19 rfl (lv_at hl 0 rfl) ?_
    refine cg_5_101 C G_3 ha dX5_powerGoes_20 ?_
    refine lv_if_ne (tgt := 30) C.1 C.2.1 dX5_powerGoes_23 (by decide) (fun hc => ?_) (fun hc => ?_)
    · rw [if_neg hc] at h_4
      refine lv_iconst (v := (0:Int32)) C.1 C.2.1 dX5_powerGoes_30 (by decide) ?_
      exact cl_zret ⟨rfl, rfl⟩ rfl C G_3 h_4 rfl dX5_powerGoes_31
    · rw [if_pos hc] at h_4
      refine lv_iconst (v := (1:Int32)) C.1 C.2.1 dX5_powerGoes_26 (by decide) ?_
      refine lv_goto (tgt := 31) C.1 C.2.1 dX5_powerGoes_27 (by decide) ?_
      exact cl_zret ⟨rfl, rfl⟩ rfl C G_3 h_4 rfl dX5_powerGoes_31
  · rw [if_pos hc] at h
    refine lv_iconst (v := (0:Int32)) C.1 C.2.1 dX5_powerGoes_7 (by decide) ?_
    exact cl_zret ⟨rfl, rfl⟩ rfl C G h rfl dX5_powerGoes_8
noncomputable def fc_X5_powerGoes (a : Nat) (σ : cl_S) : Option (Int32 × cl_S) := bc_X5_powerGoes_0 a σ
theorem kc_X5_powerGoes (l : Launch) (D : cl_D) (c0 : Nat) {r : Int32} {a : Nat} {σ σ' : cl_S} (ha : (σ.2.2.2.1 a).1 = 21) (h : fc_X5_powerGoes a σ = some (r, σ')) : cl_Met true l D c0 yX5_powerGoes cX5_powerGoes 1 (some .boolean) 0 0 [.ref (c0 + a)] σ (some (.int r)) cl_no σ' :=
  cl_of (by decide) (Nat.le_of_ble_eq_true rfl) (fun p e s m args below meth c ls C hn G hl => wc_X5_powerGoes_0 C h G ha hl)
abbrev cX10_numberTerm : ByteArray := prog_12_method_8_code
def yX10_numberTerm : MethodName := ⟨RX10, "numberTerm", "(I)LPartHouse$Term;"⟩
theorem dX10_numberTerm_0 : decode cX10_numberTerm 0 = .ok (.aload_n 0, 1) := by decide +kernel
theorem dX10_numberTerm_1 : decode cX10_numberTerm 1 = .ok (.iconst 0, 1) := by decide +kernel
theorem dX10_numberTerm_2 : decode cX10_numberTerm 2 = .ok (.iload_n 1, 1) := by decide +kernel
theorem dX10_numberTerm_3 : decode cX10_numberTerm 3 = .ok (.aload_n 0, 1) := by decide +kernel
theorem dX10_numberTerm_4 : decode cX10_numberTerm 4 = .ok (.getfield 20, 3) := by decide +kernel
theorem dX10_numberTerm_7 : decode cX10_numberTerm 7 = .ok (.aload_n 0, 1) := by decide +kernel
theorem dX10_numberTerm_8 : decode cX10_numberTerm 8 = .ok (.getfield 20, 3) := by decide +kernel
theorem dX10_numberTerm_11 : decode cX10_numberTerm 11 = .ok (.aload_n 0, 1) := by decide +kernel
theorem dX10_numberTerm_12 : decode cX10_numberTerm 12 = .ok (.getfield 20, 3) := by decide +kernel
theorem dX10_numberTerm_15 : decode cX10_numberTerm 15 = .ok (.invokevirtual 101, 3) := by decide +kernel
theorem dX10_numberTerm_18 : decode cX10_numberTerm 18 = .ok (.astore_n 2, 1) := by decide +kernel
theorem dX10_numberTerm_19 : decode cX10_numberTerm 19 = .ok (.aload_n 2, 1) := by decide +kernel
theorem dX10_numberTerm_20 : decode cX10_numberTerm 20 = .ok (.aload_n 0, 1) := by decide +kernel
theorem dX10_numberTerm_21 : decode cX10_numberTerm 21 = .ok (.getfield 20, 3) := by decide +kernel
theorem dX10_numberTerm_24 : decode cX10_numberTerm 24 = .ok (.if_acmp .eq 7, 3) := by decide +kernel
theorem dX10_numberTerm_27 : decode cX10_numberTerm 27 = .ok (.aload_n 2, 1) := by decide +kernel
theorem dX10_numberTerm_28 : decode cX10_numberTerm 28 = .ok (.goto 21, 3) := by decide +kernel
theorem dX10_numberTerm_31 : decode cX10_numberTerm 31 = .ok (.aload_n 0, 1) := by decide +kernel
theorem dX10_numberTerm_32 : decode cX10_numberTerm 32 = .ok (.iconst 0, 1) := by decide +kernel
theorem dX10_numberTerm_33 : decode cX10_numberTerm 33 = .ok (.iload_n 1, 1) := by decide +kernel
theorem dX10_numberTerm_34 : decode cX10_numberTerm 34 = .ok (.aload_n 0, 1) := by decide +kernel
theorem dX10_numberTerm_35 : decode cX10_numberTerm 35 = .ok (.getfield 20, 3) := by decide +kernel
theorem dX10_numberTerm_38 : decode cX10_numberTerm 38 = .ok (.aload_n 0, 1) := by decide +kernel
theorem dX10_numberTerm_39 : decode cX10_numberTerm 39 = .ok (.getfield 20, 3) := by decide +kernel
theorem dX10_numberTerm_42 : decode cX10_numberTerm 42 = .ok (.aload_n 0, 1) := by decide +kernel
theorem dX10_numberTerm_43 : decode cX10_numberTerm 43 = .ok (.getfield 20, 3) := by decide +kernel
theorem dX10_numberTerm_46 : decode cX10_numberTerm 46 = .ok (.invokevirtual 105, 3) := by decide +kernel
theorem dX10_numberTerm_49 : decode cX10_numberTerm 49 = .ok (.areturn, 1) := by decide +kernel
theorem cc_X10_numberTerm : Cond.code yX10_numberTerm cX10_numberTerm 3 (some (.object "PartHouse$Term")) ∈ rf_tb := rf_at 305 (by decide +kernel) (by decide +kernel)
theorem cw_RX10_101 : cl_wV RX10 RX10 yX10_find cX10_find 7 (some (.object "PartHouse$Term")) 101 5 := ⟨⟨rf_at 306 (by decide +kernel) (by decide +kernel), rf_at 307 (by decide +kernel) (by decide +kernel), rf_at 308 (by decide +kernel) (by decide +kernel), cc_X10_find, rf_at 9 (by decide +kernel) (by decide +kernel)⟩, ⟨by decide, by decide, by decide +kernel⟩⟩
noncomputable def bc_X10_numberTerm_0 (a : Nat) (x1 : Int32) (σ : cl_S) : Option ((Option Nat) × cl_S) := bd2 (fc_X10_find a (0:Int32) x1 (some 33) (some 33) (some 33) σ) (fun r_5 σ_4 => (if r_5 = (some 33) then bd2 (fc_X10_add a (0:Int32) x1 (some 33) (some 33) (some 33) σ_4) (fun r_16 σ_15 => some (r_16, σ_15)) else some (r_5, σ_4)))
set_option maxHeartbeats 4000000 in
theorem wc_X10_numberTerm_0 (C : cl_C D p s m args meth c cX10_numberTerm 3 (some (.object "PartHouse$Term")) RX10) {r : (Option Nat)} {a : Nat} {x1 : Int32} {σ0 σ σ' : cl_S} {T : Nat → Nat × Nat} {H : Heap} {locs : List Loc} {ls : Array Slot} {cells slots : Nat} (h : bc_X10_numberTerm_0 a x1 σ = some (r, σ')) (G : cl_G true D c0 ({ frames := 4, cells := σ0.2.2.2.2.2.1, slots := σ0.2.2.2.2.2.2, locals := 107 }) s σ0.2.2.2.1 T σ H locs cells slots) (ha : (T a).1 = 26) (hl : lv_has ls 3 [(0, .ref (c0 + a)), (1, .int x1)]) : W p l e ({ frames := 4, cells := σ0.2.2.2.2.2.1, slots := σ0.2.2.2.2.2.2, locals := 107 }) s m args below meth c H locs cells slots (MQ below (cl_Q true D c0 (some (cl_rf c0 r)) (fun T1 => cl_RT T1 r 25) σ0 σ') args s (σ0.2.2.2.2.2.1 - σ'.2.2.2.2.2.1) (σ0.2.2.2.2.2.2 - σ'.2.2.2.2.2.2) (cl_A c0 σ0.2.2.2.1 s.heap.size)) (F0 m 0 ls []) := by
  unfold bc_X10_numberTerm_0 at h
  refine lv_aload_n C.1 C.2.1 dX10_numberTerm_0 rfl (lv_at hl 0 rfl) ?_
  refine lv_iconst (v := (0:Int32)) C.1 C.2.1 dX10_numberTerm_1 (by decide) ?_
  refine lv_iload_n C.1 C.2.1 dX10_numberTerm_2 rfl (lv_at hl 1 rfl) ?_
  refine lv_aload_n C.1 C.2.1 dX10_numberTerm_3 rfl (lv_at hl 0 rfl) ?_
  refine cg_10_20 C G ha dX10_numberTerm_4 (fun t_1 => ?_)
  have t_1 : (T 33).1 = 25 := by rw [t_1]
  refine lv_aload_n C.1 C.2.1 dX10_numberTerm_7 rfl (lv_at hl 0 rfl) ?_
  refine cg_10_20 C G ha dX10_numberTerm_8 (fun t_2 => ?_)
  have t_2 : (T 33).1 = 25 := by rw [t_2]
  refine lv_aload_n C.1 C.2.1 dX10_numberTerm_11 rfl (lv_at hl 0 rfl) ?_
  refine cg_10_20 C G ha dX10_numberTerm_12 (fun t_3 => ?_)
  have t_3 : (T 33).1 = 25 := by rw [t_3]
  obtain ⟨r_5, σ_4, hq, h_6⟩ := bd2_some h
  refine cl_callV (ci := 10) (rest := []) C G rfl ha cw_RX10_101 [.int (0:Int32), .int x1, .ref (c0 + 33), .ref (c0 + 33), .ref (c0 + 33)] _ (kc_X10_find l D c0 (by rw [G.1]; exact ha) hq (by rw [G.1]; exact (cl_RTs t_1)) (by rw [G.1]; exact (cl_RTs t_2)) (by rw [G.1]; exact (cl_RTs t_3))) (Nat.le_of_ble_eq_true rfl) (Nat.le_of_ble_eq_true rfl) rfl rfl hl.1 (Nat.le_of_ble_eq_true rfl) dX10_numberTerm_15 (fun T_7 H locs cells slots t_8 hu G_9 => ?_)
  have ha := hu.kind ha (by decide)
  refine W.eq (g2 := F0 m 18 ls [cl_rf c0 r_5]) rfl ?_
  refine cl_astore_n (lv' := [(2, cl_rf c0 r_5), (0, .ref (c0 + a)), (1, .int x1)]) C.1 C.2.1 dX10_numberTerm_18 rfl hl (by decide) rfl (fun ls hl_10 => ?_)
  refine cl_aload_n C.1 C.2.1 dX10_numberTerm_19 rfl (lv_at hl_10 0 rfl) ?_
  refine lv_aload_n C.1 C.2.1 dX10_numberTerm_20 rfl (lv_at hl_10 1 rfl) ?_
  refine cg_10_20 C G_9 ha dX10_numberTerm_21 (fun t_11 => ?_)
  have t_11 : (T_7 33).1 = 25 := by rw [t_11]
  refine cl_acmp_eq (rx := r_5) (ry := (some 33)) (tgt := 31) C.1 C.2.1 dX10_numberTerm_24 (by decide) (fun hc => ?_) (fun hc => ?_)
  · rw [if_pos hc] at h_6
    refine lv_aload_n C.1 C.2.1 dX10_numberTerm_31 rfl (lv_at hl_10 1 rfl) ?_
    refine lv_iconst (v := (0:Int32)) C.1 C.2.1 dX10_numberTerm_32 (by decide) ?_
    refine lv_iload_n C.1 C.2.1 dX10_numberTerm_33 rfl (lv_at hl_10 2 rfl) ?_
    refine lv_aload_n C.1 C.2.1 dX10_numberTerm_34 rfl (lv_at hl_10 1 rfl) ?_
    refine cg_10_20 C G_9 ha dX10_numberTerm_35 (fun t_12 => ?_)
    have t_12 : (T_7 33).1 = 25 := by rw [t_12]
    refine lv_aload_n C.1 C.2.1 dX10_numberTerm_38 rfl (lv_at hl_10 1 rfl) ?_
    refine cg_10_20 C G_9 ha dX10_numberTerm_39 (fun t_13 => ?_)
    have t_13 : (T_7 33).1 = 25 := by rw [t_13]
    refine lv_aload_n C.1 C.2.1 dX10_numberTerm_42 rfl (lv_at hl_10 1 rfl) ?_
    refine cg_10_20 C G_9 ha dX10_numberTerm_43 (fun t_14 => ?_)
    have t_14 : (T_7 33).1 = 25 := by rw [t_14]
    obtain ⟨r_16, σ_15, hq, h_17⟩ := bd2_some h_6
    refine cl_callV (ci := 10) (rest := []) C G_9 rfl ha cw_RX10_105 [.int (0:Int32), .int x1, .ref (c0 + 33), .ref (c0 + 33), .ref (c0 + 33)] _ (kc_X10_add l D c0 (by rw [G_9.1]; exact ha) hq (by rw [G_9.1]; exact (cl_RTs t_12)) (by rw [G_9.1]; exact (cl_RTs t_13)) (by rw [G_9.1]; exact (cl_RTs t_14))) (Nat.le_of_ble_eq_true rfl) (Nat.le_of_ble_eq_true rfl) rfl rfl hl_10.1 (Nat.le_of_ble_eq_true rfl) dX10_numberTerm_46 (fun T_18 H locs cells slots t_19 hu G_20 => ?_)
    have t_8 := t_8.up hu (by decide)
    have ha := hu.kind ha (by decide)
    refine W.eq (g2 := F0 m 49 ls [cl_rf c0 r_16]) rfl ?_
    exact cl_aret (v := r_16) ⟨rfl, rfl⟩ rfl C G_20 h_17 (by first | exact Or.inl ⟨_, rfl⟩ | exact Or.inr ⟨_, rfl⟩) t_19 dX10_numberTerm_49
  · rw [if_neg hc] at h_6
    refine cl_aload_n C.1 C.2.1 dX10_numberTerm_27 rfl (lv_at hl_10 0 rfl) ?_
    refine lv_goto (tgt := 49) C.1 C.2.1 dX10_numberTerm_28 (by decide) ?_
    exact cl_aret (v := r_5) ⟨rfl, rfl⟩ rfl C G_9 h_6 (by first | exact Or.inl ⟨_, rfl⟩ | exact Or.inr ⟨_, rfl⟩) t_8 dX10_numberTerm_49
noncomputable def fc_X10_numberTerm (a : Nat) (x1 : Int32) (σ : cl_S) : Option ((Option Nat) × cl_S) := bc_X10_numberTerm_0 a x1 σ
theorem kc_X10_numberTerm (l : Launch) (D : cl_D) (c0 : Nat) {r : (Option Nat)} {a : Nat} {x1 : Int32} {σ σ' : cl_S} (ha : (σ.2.2.2.1 a).1 = 26) (h : fc_X10_numberTerm a x1 σ = some (r, σ')) : cl_Met true l D c0 yX10_numberTerm cX10_numberTerm 3 (some (.object "PartHouse$Term")) 4 107 [.ref (c0 + a), .int x1] σ (some (cl_rf c0 r)) (fun T1 => cl_RT T1 r 25) σ' :=
  cl_of (by decide) (Nat.le_of_ble_eq_true rfl) (fun p e s m args below meth c ls C hn G hl => wc_X10_numberTerm_0 C h G ha hl)
abbrev cX10_made : ByteArray := prog_12_method_7_code
def yX10_made : MethodName := ⟨RX10, "made", "(ILPartHouse$Term;LPartHouse$Term;LPartHouse$Term;)LPartHouse$Term;"⟩
theorem dX10_made_0 : decode cX10_made 0 = .ok (.aload_n 0, 1) := by decide +kernel
theorem dX10_made_1 : decode cX10_made 1 = .ok (.iload_n 1, 1) := by decide +kernel
theorem dX10_made_2 : decode cX10_made 2 = .ok (.iconst 0, 1) := by decide +kernel
theorem dX10_made_3 : decode cX10_made 3 = .ok (.aload_n 2, 1) := by decide +kernel
theorem dX10_made_4 : decode cX10_made 4 = .ok (.aload_n 3, 1) := by decide +kernel
theorem dX10_made_5 : decode cX10_made 5 = .ok (.aload 4, 2) := by decide +kernel
theorem dX10_made_7 : decode cX10_made 7 = .ok (.invokevirtual 101, 3) := by decide +kernel
theorem dX10_made_10 : decode cX10_made 10 = .ok (.astore 5, 2) := by decide +kernel
theorem dX10_made_12 : decode cX10_made 12 = .ok (.aload 5, 2) := by decide +kernel
theorem dX10_made_14 : decode cX10_made 14 = .ok (.aload_n 0, 1) := by decide +kernel
theorem dX10_made_15 : decode cX10_made 15 = .ok (.getfield 20, 3) := by decide +kernel
theorem dX10_made_18 : decode cX10_made 18 = .ok (.if_acmp .eq 8, 3) := by decide +kernel
theorem dX10_made_21 : decode cX10_made 21 = .ok (.aload 5, 2) := by decide +kernel
theorem dX10_made_23 : decode cX10_made 23 = .ok (.goto 13, 3) := by decide +kernel
theorem dX10_made_26 : decode cX10_made 26 = .ok (.aload_n 0, 1) := by decide +kernel
theorem dX10_made_27 : decode cX10_made 27 = .ok (.iload_n 1, 1) := by decide +kernel
theorem dX10_made_28 : decode cX10_made 28 = .ok (.iconst 0, 1) := by decide +kernel
theorem dX10_made_29 : decode cX10_made 29 = .ok (.aload_n 2, 1) := by decide +kernel
theorem dX10_made_30 : decode cX10_made 30 = .ok (.aload_n 3, 1) := by decide +kernel
theorem dX10_made_31 : decode cX10_made 31 = .ok (.aload 4, 2) := by decide +kernel
theorem dX10_made_33 : decode cX10_made 33 = .ok (.invokevirtual 105, 3) := by decide +kernel
theorem dX10_made_36 : decode cX10_made 36 = .ok (.areturn, 1) := by decide +kernel
theorem cc_X10_made : Cond.code yX10_made cX10_made 6 (some (.object "PartHouse$Term")) ∈ rf_tb := rf_at 313 (by decide +kernel) (by decide +kernel)
noncomputable def bc_X10_made_0 (a : Nat) (x1 : Int32) (x2 : (Option Nat)) (x3 : (Option Nat)) (x4 : (Option Nat)) (σ : cl_S) : Option ((Option Nat) × cl_S) := bd2 (fc_X10_find a x1 (0:Int32) x2 x3 x4 σ) (fun r_2 σ_1 => (if r_2 = (some 33) then bd2 (fc_X10_add a x1 (0:Int32) x2 x3 x4 σ_1) (fun r_10 σ_9 => some (r_10, σ_9)) else some (r_2, σ_1)))
set_option maxHeartbeats 4000000 in
theorem wc_X10_made_0 (C : cl_C D p s m args meth c cX10_made 6 (some (.object "PartHouse$Term")) RX10) {r : (Option Nat)} {a : Nat} {x1 : Int32} {x2 : (Option Nat)} {x3 : (Option Nat)} {x4 : (Option Nat)} {σ0 σ σ' : cl_S} {T : Nat → Nat × Nat} {H : Heap} {locs : List Loc} {ls : Array Slot} {cells slots : Nat} (h : bc_X10_made_0 a x1 x2 x3 x4 σ = some (r, σ')) (G : cl_G true D c0 ({ frames := 4, cells := σ0.2.2.2.2.2.1, slots := σ0.2.2.2.2.2.2, locals := 107 }) s σ0.2.2.2.1 T σ H locs cells slots) (ha : (T a).1 = 26) (f2 : cl_RT T x2 25) (f3 : cl_RT T x3 25) (f4 : cl_RT T x4 25) (hl : lv_has ls 6 [(0, .ref (c0 + a)), (1, .int x1), (2, cl_rf c0 x2), (3, cl_rf c0 x3), (4, cl_rf c0 x4)]) : W p l e ({ frames := 4, cells := σ0.2.2.2.2.2.1, slots := σ0.2.2.2.2.2.2, locals := 107 }) s m args below meth c H locs cells slots (MQ below (cl_Q true D c0 (some (cl_rf c0 r)) (fun T1 => cl_RT T1 r 25) σ0 σ') args s (σ0.2.2.2.2.2.1 - σ'.2.2.2.2.2.1) (σ0.2.2.2.2.2.2 - σ'.2.2.2.2.2.2) (cl_A c0 σ0.2.2.2.1 s.heap.size)) (F0 m 0 ls []) := by
  unfold bc_X10_made_0 at h
  refine lv_aload_n C.1 C.2.1 dX10_made_0 rfl (lv_at hl 0 rfl) ?_
  refine lv_iload_n C.1 C.2.1 dX10_made_1 rfl (lv_at hl 1 rfl) ?_
  refine lv_iconst (v := (0:Int32)) C.1 C.2.1 dX10_made_2 (by decide) ?_
  refine cl_aload_n C.1 C.2.1 dX10_made_3 rfl (lv_at hl 2 rfl) ?_
  refine cl_aload_n C.1 C.2.1 dX10_made_4 rfl (lv_at hl 3 rfl) ?_
  refine cl_aload C.1 C.2.1 dX10_made_5 (lv_at hl 4 rfl) ?_
  obtain ⟨r_2, σ_1, hq, h_3⟩ := bd2_some h
  refine cl_callV (ci := 10) (rest := []) C G rfl ha cw_RX10_101 [.int x1, .int (0:Int32), cl_rf c0 x2, cl_rf c0 x3, cl_rf c0 x4] _ (kc_X10_find l D c0 (by rw [G.1]; exact ha) hq (by rw [G.1]; exact f2) (by rw [G.1]; exact f3) (by rw [G.1]; exact f4)) (Nat.le_of_ble_eq_true rfl) (Nat.le_of_ble_eq_true rfl) rfl rfl hl.1 (Nat.le_of_ble_eq_true rfl) dX10_made_7 (fun T_4 H locs cells slots t_5 hu G_6 => ?_)
  have ha := hu.kind ha (by decide)
  have f2 := f2.up hu (by decide)
  have f3 := f3.up hu (by decide)
  have f4 := f4.up hu (by decide)
  refine W.eq (g2 := F0 m 10 ls [cl_rf c0 r_2]) rfl ?_
  refine cl_astore (lv' := [(5, cl_rf c0 r_2), (0, .ref (c0 + a)), (1, .int x1), (2, cl_rf c0 x2), (3, cl_rf c0 x3), (4, cl_rf c0 x4)]) C.1 C.2.1 dX10_made_10 hl (by decide) (by first | rfl | (cases x2 <;> cases x3 <;> cases x4 <;> rfl)) (fun ls hl_7 => ?_)
  refine cl_aload C.1 C.2.1 dX10_made_12 (lv_at hl_7 0 rfl) ?_
  refine lv_aload_n C.1 C.2.1 dX10_made_14 rfl (lv_at hl_7 1 rfl) ?_
  refine cg_10_20 C G_6 ha dX10_made_15 (fun t_8 => ?_)
  have t_8 : (T_4 33).1 = 25 := by rw [t_8]
  refine cl_acmp_eq (rx := r_2) (ry := (some 33)) (tgt := 26) C.1 C.2.1 dX10_made_18 (by decide) (fun hc => ?_) (fun hc => ?_)
  · rw [if_pos hc] at h_3
    refine lv_aload_n C.1 C.2.1 dX10_made_26 rfl (lv_at hl_7 1 rfl) ?_
    refine lv_iload_n C.1 C.2.1 dX10_made_27 rfl (lv_at hl_7 2 rfl) ?_
    refine lv_iconst (v := (0:Int32)) C.1 C.2.1 dX10_made_28 (by decide) ?_
    refine cl_aload_n C.1 C.2.1 dX10_made_29 rfl (lv_at hl_7 3 rfl) ?_
    refine cl_aload_n C.1 C.2.1 dX10_made_30 rfl (lv_at hl_7 4 rfl) ?_
    refine cl_aload C.1 C.2.1 dX10_made_31 (lv_at hl_7 5 rfl) ?_
    obtain ⟨r_10, σ_9, hq, h_11⟩ := bd2_some h_3
    refine cl_callV (ci := 10) (rest := []) C G_6 rfl ha cw_RX10_105 [.int x1, .int (0:Int32), cl_rf c0 x2, cl_rf c0 x3, cl_rf c0 x4] _ (kc_X10_add l D c0 (by rw [G_6.1]; exact ha) hq (by rw [G_6.1]; exact f2) (by rw [G_6.1]; exact f3) (by rw [G_6.1]; exact f4)) (Nat.le_of_ble_eq_true rfl) (Nat.le_of_ble_eq_true rfl) rfl rfl hl_7.1 (Nat.le_of_ble_eq_true rfl) dX10_made_33 (fun T_12 H locs cells slots t_13 hu G_14 => ?_)
    have t_5 := t_5.up hu (by decide)
    have ha := hu.kind ha (by decide)
    have f2 := f2.up hu (by decide)
    have f3 := f3.up hu (by decide)
    have f4 := f4.up hu (by decide)
    refine W.eq (g2 := F0 m 36 ls [cl_rf c0 r_10]) rfl ?_
    exact cl_aret (v := r_10) ⟨rfl, rfl⟩ rfl C G_14 h_11 (by first | exact Or.inl ⟨_, rfl⟩ | exact Or.inr ⟨_, rfl⟩) t_13 dX10_made_36
  · rw [if_neg hc] at h_3
    refine cl_aload C.1 C.2.1 dX10_made_21 (lv_at hl_7 0 rfl) ?_
    refine lv_goto (tgt := 36) C.1 C.2.1 dX10_made_23 (by decide) ?_
    exact cl_aret (v := r_2) ⟨rfl, rfl⟩ rfl C G_6 h_3 (by first | exact Or.inl ⟨_, rfl⟩ | exact Or.inr ⟨_, rfl⟩) t_5 dX10_made_36
noncomputable def fc_X10_made (a : Nat) (x1 : Int32) (x2 : (Option Nat)) (x3 : (Option Nat)) (x4 : (Option Nat)) (σ : cl_S) : Option ((Option Nat) × cl_S) := bc_X10_made_0 a x1 x2 x3 x4 σ
theorem kc_X10_made (l : Launch) (D : cl_D) (c0 : Nat) {r : (Option Nat)} {a : Nat} {x1 : Int32} {x2 : (Option Nat)} {x3 : (Option Nat)} {x4 : (Option Nat)} {σ σ' : cl_S} (ha : (σ.2.2.2.1 a).1 = 26) (h : fc_X10_made a x1 x2 x3 x4 σ = some (r, σ')) (f2 : cl_RT σ.2.2.2.1 x2 25) (f3 : cl_RT σ.2.2.2.1 x3 25) (f4 : cl_RT σ.2.2.2.1 x4 25) : cl_Met true l D c0 yX10_made cX10_made 6 (some (.object "PartHouse$Term")) 4 107 [.ref (c0 + a), .int x1, cl_rf c0 x2, cl_rf c0 x3, cl_rf c0 x4] σ (some (cl_rf c0 r)) (fun T1 => cl_RT T1 r 25) σ' :=
  by cases x2 <;> cases x3 <;> cases x4 <;> exact cl_of (by decide) (Nat.le_of_ble_eq_true rfl) (fun p e s m args below meth c ls C hn G hl => wc_X10_made_0 C h G ha f2 f3 f4 hl)
abbrev cX5_seal : ByteArray := prog_7_method_30_code
def yX5_seal : MethodName := ⟨RX5, "seal", "(LPartHouse$Partition;I)I"⟩
theorem dX5_seal_0 : decode cX5_seal 0 = .ok (.aload_n 0, 1) := by decide +kernel
theorem dX5_seal_1 : decode cX5_seal 1 = .ok (.aload_n 1, 1) := by decide +kernel
theorem dX5_seal_2 : decode cX5_seal 2 = .ok (.iload_n 2, 1) := by decide +kernel
theorem dX5_seal_3 : decode cX5_seal 3 = .ok (.invokevirtual 372, 3) := by decide +kernel
theorem dX5_seal_6 : decode cX5_seal 6 = .ok (.ifCond .ne 5, 3) := by decide +kernel
theorem dX5_seal_9 : decode cX5_seal 9 = .ok (.iconst (-1), 1) := by decide +kernel
theorem dX5_seal_10 : decode cX5_seal 10 = .ok (.ireturn, 1) := by decide +kernel
theorem dX5_seal_11 : decode cX5_seal 11 = .ok (.aload_n 1, 1) := by decide +kernel
theorem dX5_seal_12 : decode cX5_seal 12 = .ok (.getfield 199, 3) := by decide +kernel
theorem dX5_seal_15 : decode cX5_seal 15 = .ok (.aload_n 1, 1) := by decide +kernel
theorem dX5_seal_16 : decode cX5_seal 16 = .ok (.getfield 121, 3) := by decide +kernel
theorem dX5_seal_19 : decode cX5_seal 19 = .ok (.getfield 193, 3) := by decide +kernel
theorem dX5_seal_22 : decode cX5_seal 22 = .ok (.iconst 2, 1) := by decide +kernel
theorem dX5_seal_23 : decode cX5_seal 23 = .ok (.iaload, 1) := by decide +kernel
theorem dX5_seal_24 : decode cX5_seal 24 = .ok (.invokevirtual 203, 3) := by decide +kernel
theorem dX5_seal_27 : decode cX5_seal 27 = .ok (.astore_n 3, 1) := by decide +kernel
theorem dX5_seal_28 : decode cX5_seal 28 = .ok (.aload_n 3, 1) := by decide +kernel
theorem dX5_seal_29 : decode cX5_seal 29 = .ok (.aload_n 0, 1) := by decide +kernel
theorem dX5_seal_30 : decode cX5_seal 30 = .ok (.getfield 51, 3) := by decide +kernel
theorem dX5_seal_33 : decode cX5_seal 33 = .ok (.getfield 83, 3) := by decide +kernel
theorem dX5_seal_36 : decode cX5_seal 36 = .ok (.if_acmp .ne 6, 3) := by decide +kernel
theorem dX5_seal_39 : decode cX5_seal 39 = .ok (.bipush (-2), 2) := by decide +kernel
theorem dX5_seal_41 : decode cX5_seal 41 = .ok (.ireturn, 1) := by decide +kernel
theorem dX5_seal_42 : decode cX5_seal 42 = .ok (.aload_n 1, 1) := by decide +kernel
theorem dX5_seal_43 : decode cX5_seal 43 = .ok (.getfield 384, 3) := by decide +kernel
theorem dX5_seal_46 : decode cX5_seal 46 = .ok (.bipush 40, 2) := by decide +kernel
theorem dX5_seal_48 : decode cX5_seal 48 = .ok (.if_icmp .lt 6, 3) := by decide +kernel
theorem dX5_seal_51 : decode cX5_seal 51 = .ok (.bipush (-4), 2) := by decide +kernel
theorem dX5_seal_53 : decode cX5_seal 53 = .ok (.ireturn, 1) := by decide +kernel
theorem dX5_seal_54 : decode cX5_seal 54 = .ok (.aload_n 0, 1) := by decide +kernel
theorem dX5_seal_55 : decode cX5_seal 55 = .ok (.aload_n 1, 1) := by decide +kernel
theorem dX5_seal_56 : decode cX5_seal 56 = .ok (.iload_n 2, 1) := by decide +kernel
theorem dX5_seal_57 : decode cX5_seal 57 = .ok (.invokevirtual 375, 3) := by decide +kernel
theorem dX5_seal_60 : decode cX5_seal 60 = .ok (.istore 4, 2) := by decide +kernel
theorem dX5_seal_62 : decode cX5_seal 62 = .ok (.iload 4, 2) := by decide +kernel
theorem dX5_seal_64 : decode cX5_seal 64 = .ok (.ifCond .ge 7, 3) := by decide +kernel
theorem dX5_seal_67 : decode cX5_seal 67 = .ok (.iconst 1, 1) := by decide +kernel
theorem dX5_seal_68 : decode cX5_seal 68 = .ok (.goto 15, 3) := by decide +kernel
theorem dX5_seal_71 : decode cX5_seal 71 = .ok (.aload_n 0, 1) := by decide +kernel
theorem dX5_seal_72 : decode cX5_seal 72 = .ok (.getfield 55, 3) := by decide +kernel
theorem dX5_seal_75 : decode cX5_seal 75 = .ok (.getfield 378, 3) := by decide +kernel
theorem dX5_seal_78 : decode cX5_seal 78 = .ok (.iload 4, 2) := by decide +kernel
theorem dX5_seal_80 : decode cX5_seal 80 = .ok (.iaload, 1) := by decide +kernel
theorem dX5_seal_81 : decode cX5_seal 81 = .ok (.iconst 1, 1) := by decide +kernel
theorem dX5_seal_82 : decode cX5_seal 82 = .ok (.iadd, 1) := by decide +kernel
theorem dX5_seal_83 : decode cX5_seal 83 = .ok (.istore 5, 2) := by decide +kernel
theorem dX5_seal_85 : decode cX5_seal 85 = .ok (.aload_n 0, 1) := by decide +kernel
theorem dX5_seal_86 : decode cX5_seal 86 = .ok (.aload_n 1, 1) := by decide +kernel
theorem dX5_seal_87 : decode cX5_seal 87 = .ok (.getfield 306, 3) := by decide +kernel
theorem dX5_seal_90 : decode cX5_seal 90 = .ok (.iload_n 2, 1) := by decide +kernel
theorem dX5_seal_91 : decode cX5_seal 91 = .ok (.invokevirtual 154, 3) := by decide +kernel
theorem dX5_seal_94 : decode cX5_seal 94 = .ok (.iload 5, 2) := by decide +kernel
theorem dX5_seal_96 : decode cX5_seal 96 = .ok (.iconst 1, 1) := by decide +kernel
theorem dX5_seal_97 : decode cX5_seal 97 = .ok (.iand, 1) := by decide +kernel
theorem dX5_seal_98 : decode cX5_seal 98 = .ok (.iadd, 1) := by decide +kernel
theorem dX5_seal_99 : decode cX5_seal 99 = .ok (.istore 6, 2) := by decide +kernel
theorem dX5_seal_101 : decode cX5_seal 101 = .ok (.aload_n 0, 1) := by decide +kernel
theorem dX5_seal_102 : decode cX5_seal 102 = .ok (.dup, 1) := by decide +kernel
theorem dX5_seal_103 : decode cX5_seal 103 = .ok (.getfield 387, 3) := by decide +kernel
theorem dX5_seal_106 : decode cX5_seal 106 = .ok (.iconst 1, 1) := by decide +kernel
theorem dX5_seal_107 : decode cX5_seal 107 = .ok (.iadd, 1) := by decide +kernel
theorem dX5_seal_108 : decode cX5_seal 108 = .ok (.putfield 387, 3) := by decide +kernel
theorem dX5_seal_111 : decode cX5_seal 111 = .ok (.aload_n 0, 1) := by decide +kernel
theorem dX5_seal_112 : decode cX5_seal 112 = .ok (.invokevirtual 390, 3) := by decide +kernel
theorem dX5_seal_115 : decode cX5_seal 115 = .ok (.ifCond .eq 19, 3) := by decide +kernel
theorem dX5_seal_118 : decode cX5_seal 118 = .ok (.aload_n 0, 1) := by decide +kernel
theorem dX5_seal_119 : decode cX5_seal 119 = .ok (.getfield 55, 3) := by decide +kernel
theorem dX5_seal_122 : decode cX5_seal 122 = .ok (.iload 6, 2) := by decide +kernel
theorem dX5_seal_124 : decode cX5_seal 124 = .ok (.invokevirtual 158, 3) := by decide +kernel
theorem dX5_seal_127 : decode cX5_seal 127 = .ok (.aload_n 0, 1) := by decide +kernel
theorem dX5_seal_128 : decode cX5_seal 128 = .ok (.iconst 0, 1) := by decide +kernel
theorem dX5_seal_129 : decode cX5_seal 129 = .ok (.putfield 133, 3) := by decide +kernel
theorem dX5_seal_132 : decode cX5_seal 132 = .ok (.iconst 0, 1) := by decide +kernel
theorem dX5_seal_133 : decode cX5_seal 133 = .ok (.ireturn, 1) := by decide +kernel
theorem dX5_seal_134 : decode cX5_seal 134 = .ok (.aload_n 0, 1) := by decide +kernel
theorem dX5_seal_135 : decode cX5_seal 135 = .ok (.getfield 51, 3) := by decide +kernel
theorem dX5_seal_138 : decode cX5_seal 138 = .ok (.iconst 3, 1) := by decide +kernel
theorem dX5_seal_139 : decode cX5_seal 139 = .ok (.aload_n 0, 1) := by decide +kernel
theorem dX5_seal_140 : decode cX5_seal 140 = .ok (.getfield 51, 3) := by decide +kernel
theorem dX5_seal_143 : decode cX5_seal 143 = .ok (.iload_n 2, 1) := by decide +kernel
theorem dX5_seal_144 : decode cX5_seal 144 = .ok (.invokevirtual 393, 3) := by decide +kernel
theorem dX5_seal_147 : decode cX5_seal 147 = .ok (.aload_n 0, 1) := by decide +kernel
theorem dX5_seal_148 : decode cX5_seal 148 = .ok (.getfield 51, 3) := by decide +kernel
theorem dX5_seal_151 : decode cX5_seal 151 = .ok (.iload 5, 2) := by decide +kernel
theorem dX5_seal_153 : decode cX5_seal 153 = .ok (.invokevirtual 393, 3) := by decide +kernel
theorem dX5_seal_156 : decode cX5_seal 156 = .ok (.aload_n 0, 1) := by decide +kernel
theorem dX5_seal_157 : decode cX5_seal 157 = .ok (.getfield 51, 3) := by decide +kernel
theorem dX5_seal_160 : decode cX5_seal 160 = .ok (.getfield 83, 3) := by decide +kernel
theorem dX5_seal_163 : decode cX5_seal 163 = .ok (.invokevirtual 396, 3) := by decide +kernel
theorem dX5_seal_166 : decode cX5_seal 166 = .ok (.astore 7, 2) := by decide +kernel
theorem dX5_seal_168 : decode cX5_seal 168 = .ok (.aload_n 0, 1) := by decide +kernel
theorem dX5_seal_169 : decode cX5_seal 169 = .ok (.getfield 51, 3) := by decide +kernel
theorem dX5_seal_172 : decode cX5_seal 172 = .ok (.bipush 8, 2) := by decide +kernel
theorem dX5_seal_174 : decode cX5_seal 174 = .ok (.aload_n 1, 1) := by decide +kernel
theorem dX5_seal_175 : decode cX5_seal 175 = .ok (.getfield 365, 3) := by decide +kernel
theorem dX5_seal_178 : decode cX5_seal 178 = .ok (.aload 7, 2) := by decide +kernel
theorem dX5_seal_180 : decode cX5_seal 180 = .ok (.aload_n 3, 1) := by decide +kernel
theorem dX5_seal_181 : decode cX5_seal 181 = .ok (.invokevirtual 396, 3) := by decide +kernel
theorem dX5_seal_184 : decode cX5_seal 184 = .ok (.astore 8, 2) := by decide +kernel
theorem dX5_seal_186 : decode cX5_seal 186 = .ok (.aload_n 0, 1) := by decide +kernel
theorem dX5_seal_187 : decode cX5_seal 187 = .ok (.getfield 55, 3) := by decide +kernel
theorem dX5_seal_190 : decode cX5_seal 190 = .ok (.iload 6, 2) := by decide +kernel
theorem dX5_seal_192 : decode cX5_seal 192 = .ok (.iload 5, 2) := by decide +kernel
theorem dX5_seal_194 : decode cX5_seal 194 = .ok (.aload 8, 2) := by decide +kernel
theorem dX5_seal_196 : decode cX5_seal 196 = .ok (.invokevirtual 400, 3) := by decide +kernel
theorem dX5_seal_199 : decode cX5_seal 199 = .ok (.aload_n 1, 1) := by decide +kernel
theorem dX5_seal_200 : decode cX5_seal 200 = .ok (.dup, 1) := by decide +kernel
theorem dX5_seal_201 : decode cX5_seal 201 = .ok (.getfield 384, 3) := by decide +kernel
theorem dX5_seal_204 : decode cX5_seal 204 = .ok (.iconst 1, 1) := by decide +kernel
theorem dX5_seal_205 : decode cX5_seal 205 = .ok (.iadd, 1) := by decide +kernel
theorem dX5_seal_206 : decode cX5_seal 206 = .ok (.putfield 384, 3) := by decide +kernel
theorem dX5_seal_209 : decode cX5_seal 209 = .ok (.aload_n 0, 1) := by decide +kernel
theorem dX5_seal_210 : decode cX5_seal 210 = .ok (.getfield 59, 3) := by decide +kernel
theorem dX5_seal_213 : decode cX5_seal 213 = .ok (.ifCond .eq 12, 3) := by decide +kernel
theorem dX5_seal_216 : decode cX5_seal 216 = .ok (.aload_n 0, 1) := by decide +kernel
theorem dX5_seal_217 : decode cX5_seal 217 = .ok (.getfield 51, 3) := by decide +kernel
theorem dX5_seal_220 : decode cX5_seal 220 = .ok (.aload 8, 2) := by decide +kernel
theorem dX5_seal_222 : decode cX5_seal 222 = .ok (.invokevirtual 339, 3) := by decide +kernel
theorem dX5_seal_225 : decode cX5_seal 225 = .ok (.iload 5, 2) := by decide +kernel
theorem dX5_seal_227 : decode cX5_seal 227 = .ok (.ireturn, 1) := by decide +kernel
theorem cc_X5_seal : Cond.code yX5_seal cX5_seal 9 (some .int) ∈ rf_tb := rf_at 1282 (by decide +kernel) (by decide +kernel)
theorem cw_RX5_372 : cl_wV RX5 RX5 yX5_hasBlob cX5_hasBlob 3 (some .boolean) 372 2 := ⟨⟨rf_at 1283 (by decide +kernel) (by decide +kernel), rf_at 1285 (by decide +kernel) (by decide +kernel), rf_sel (q := (yX5_hasBlob, 20)) 58 (by decide +kernel) (by decide +kernel), cc_X5_hasBlob, rf_at 13 (by decide +kernel) (by decide +kernel)⟩, ⟨by decide, by decide, by decide +kernel⟩⟩
theorem cw_RX5_375 : cl_wV RX5 RX5 yX5_countingBlock cX5_countingBlock 3 (some .int) 375 2 := ⟨⟨rf_at 1287 (by decide +kernel) (by decide +kernel), rf_at 1289 (by decide +kernel) (by decide +kernel), rf_sel (q := (yX5_countingBlock, 20)) 59 (by decide +kernel) (by decide +kernel), cc_X5_countingBlock, rf_at 13 (by decide +kernel) (by decide +kernel)⟩, ⟨by decide, by decide, by decide +kernel⟩⟩
theorem cw_RX5_390 : cl_wV RX5 RX5 yX5_powerGoes cX5_powerGoes 1 (some .boolean) 390 0 := ⟨⟨rf_at 1303 (by decide +kernel) (by decide +kernel), rf_at 1305 (by decide +kernel) (by decide +kernel), rf_sel (q := (yX5_powerGoes, 20)) 62 (by decide +kernel) (by decide +kernel), cc_X5_powerGoes, rf_at 13 (by decide +kernel) (by decide +kernel)⟩, ⟨by decide, by decide, by decide +kernel⟩⟩
theorem cw_RX5_393 : cl_wV RX5 RX10 yX10_numberTerm cX10_numberTerm 3 (some (.object "PartHouse$Term")) 393 1 := ⟨⟨rf_at 1315 (by decide +kernel) (by decide +kernel), rf_at 303 (by decide +kernel) (by decide +kernel), rf_at 304 (by decide +kernel) (by decide +kernel), cc_X10_numberTerm, rf_at 9 (by decide +kernel) (by decide +kernel)⟩, ⟨by decide, by decide, by decide +kernel⟩⟩
theorem cw_RX5_396 : cl_wV RX5 RX10 yX10_made cX10_made 6 (some (.object "PartHouse$Term")) 396 4 := ⟨⟨rf_at 1316 (by decide +kernel) (by decide +kernel), rf_at 311 (by decide +kernel) (by decide +kernel), rf_at 312 (by decide +kernel) (by decide +kernel), cc_X10_made, rf_at 9 (by decide +kernel) (by decide +kernel)⟩, ⟨by decide, by decide, by decide +kernel⟩⟩
theorem cw_RX5_400 : cl_wV RX5 RX3 yX3_fill cX3_fill 4 none 400 3 := ⟨⟨rf_at 1317 (by decide +kernel) (by decide +kernel), rf_at 1312 (by decide +kernel) (by decide +kernel), rf_at 1313 (by decide +kernel) (by decide +kernel), cc_X3_fill, rf_at 12 (by decide +kernel) (by decide +kernel)⟩, ⟨by decide, by decide, by decide +kernel⟩⟩
noncomputable def bc_X5_seal_83 (a : Nat) (x1 : (Option Nat)) (x2 : Int32) (x3 : (Option Nat)) (v0 : Int32) (σ : cl_S) : Option (Int32 × cl_S) := nn x1 (fun a_40 => bd2 (fc_X5_firstCopy a (σ.1 a_40 3) x2 σ) (fun r_44 σ_43 => vl (r_44 + (v0 &&& (1:Int32))) (fun x6_49 => vl (cl_w σ_43 a 14 ((σ_43.1 a 14) + (1:Int32))) (fun σ_52 => bd2 (fc_X5_powerGoes a σ_52) (fun r_57 σ_56 => (if r_57 = 0 then bd2 (fc_X10_numberTerm 31 x2 σ_56) (fun r_65 σ_64 => bd2 (fc_X10_numberTerm 31 v0 σ_64) (fun r_72 σ_71 => bd2 (fc_X10_made 31 (3:Int32) r_65 r_72 (some 33) σ_71) (fun r_80 σ_79 => vl (σ_79.2.2.1 a_40 17) (fun r_88 => bd2 (fc_X10_made 31 (8:Int32) r_88 r_80 x3 σ_79) (fun r_92 σ_91 => vl (σ_91.2.2.1 a 1) (fun r_99 => nn r_99 (fun a_102 => bd1 (fc_X3_fill a_102 x6_49 v0 r_92 σ_91) (fun σ_105 => vl (cl_w σ_105 a_40 14 ((σ_105.1 a_40 14) + (1:Int32))) (fun σ_110 => (if (σ_110.1 a 2) = 0 then some (v0, σ_110) else bd1 (fc_X10_tell 31 r_92 σ_110) (fun σ_115 => some (v0, σ_115)))))))))))) else vl (σ_56.2.2.1 a 1) (fun r_121 => nn r_121 (fun a_124 => bd1 (fc_X3_empty a_124 x6_49 σ_56) (fun σ_127 => vl (cl_w σ_127 a 8 (0:Int32)) (fun σ_132 => some ((0:Int32), σ_132)))))))))))
set_option maxHeartbeats 4000000 in
theorem wc_X5_seal_83 (C : cl_C D p s m args meth c cX5_seal 9 (some .int) RX5) {r : Int32} {a : Nat} {x1 : (Option Nat)} {x2 : Int32} {x3 : (Option Nat)} {v0 : Int32} {σ0 σ σ' : cl_S} {T : Nat → Nat × Nat} {H : Heap} {locs : List Loc} {ls : Array Slot} {cells slots : Nat} (h : bc_X5_seal_83 a x1 x2 x3 v0 σ = some (r, σ')) (G : cl_G true D c0 ({ frames := 5, cells := σ0.2.2.2.2.2.1, slots := σ0.2.2.2.2.2.2, locals := 132 }) s σ0.2.2.2.1 T σ H locs cells slots) (ha : (T a).1 = 21) (f1 : cl_RT T x1 22) (f3 : cl_RT T x3 25) (hl : lv_has ls 9 [(0, .ref (c0 + a)), (1, cl_rf c0 x1), (2, .int x2), (3, cl_rf c0 x3)]) : W p l e ({ frames := 5, cells := σ0.2.2.2.2.2.1, slots := σ0.2.2.2.2.2.2, locals := 132 }) s m args below meth c H locs cells slots (MQ below (cl_Q true D c0 (some (.int r)) cl_no σ0 σ') args s (σ0.2.2.2.2.2.1 - σ'.2.2.2.2.2.1) (σ0.2.2.2.2.2.2 - σ'.2.2.2.2.2.2) (cl_A c0 σ0.2.2.2.1 s.heap.size)) (F0 m 83 ls [.int v0]) := by
  unfold bc_X5_seal_83 at h
  refine lv_istore (lv' := [(5, .int v0), (0, .ref (c0 + a)), (1, cl_rf c0 x1), (2, .int x2), (3, cl_rf c0 x3)]) C.1 C.2.1 dX5_seal_83 hl (by decide) (by first | rfl | (cases x1 <;> cases x3 <;> rfl)) (fun ls hl_39 => ?_)
  refine lv_aload_n C.1 C.2.1 dX5_seal_85 rfl (lv_at hl_39 1 rfl) ?_
  refine cl_aload_n C.1 C.2.1 dX5_seal_86 rfl (lv_at hl_39 2 rfl) ?_
  obtain ⟨a_40, rfl, h_42⟩ := nn_some h
  have t_41 := f1 _ rfl
  refine cg_5_306 C G t_41 dX5_seal_87 ?_
  refine lv_iload_n C.1 C.2.1 dX5_seal_90 rfl (lv_at hl_39 3 rfl) ?_
  obtain ⟨r_44, σ_43, hq, h_45⟩ := bd2_some h_42
  refine cl_callV (ci := 5) (rest := []) C G rfl ha cw_RX5_154 [.int (σ.1 a_40 3), .int x2] _ (kc_X5_firstCopy l D c0 (by rw [G.1]; exact ha) hq) (Nat.le_of_ble_eq_true rfl) (Nat.le_of_ble_eq_true rfl) rfl rfl hl_39.1 (Nat.le_of_ble_eq_true rfl) dX5_seal_91 (fun T_46 H locs cells slots t_47 hu G_48 => ?_)
  have ha := hu.kind ha (by decide)
  have t_41 := hu.kind t_41 (by decide)
  have f3 := f3.up hu (by decide)
  refine W.eq (g2 := F0 m 94 ls [.int r_44]) rfl ?_
  refine lv_iload C.1 C.2.1 dX5_seal_94 (lv_at hl_39 0 rfl) ?_
  refine lv_iconst (v := (1:Int32)) C.1 C.2.1 dX5_seal_96 (by decide) ?_
  refine lv_iand C.1 C.2.1 dX5_seal_97 ?_
  refine lv_iadd C.1 C.2.1 dX5_seal_98 ?_
  refine vt_i h_45 (fun x6_49 h_50 => ?_)
  refine lv_istore (lv' := [(6, .int x6_49), (5, .int v0), (0, .ref (c0 + a)), (1, .ref (c0 + a_40)), (2, .int x2), (3, cl_rf c0 x3)]) C.1 C.2.1 dX5_seal_99 hl_39 (by decide) (by first | rfl | (cases x3 <;> rfl)) (fun ls hl_51 => ?_)
  refine lv_aload_n C.1 C.2.1 dX5_seal_101 rfl (lv_at hl_51 2 rfl) ?_
  refine lv_dup C.1 C.2.1 dX5_seal_102 rfl ?_
  refine cg_5_387 C G_48 ha dX5_seal_103 ?_
  refine lv_iconst (v := (1:Int32)) C.1 C.2.1 dX5_seal_106 (by decide) ?_
  refine lv_iadd C.1 C.2.1 dX5_seal_107 ?_
  refine cp_5_387 C G_48 ha dX5_seal_108 (fun H locs G_53 => ?_)
  refine cl_nm G_53 h_50 (fun σ_52 G_54 h_55 => ?_)
  refine lv_aload_n C.1 C.2.1 dX5_seal_111 rfl (lv_at hl_51 2 rfl) ?_
  obtain ⟨r_57, σ_56, hq, h_58⟩ := bd2_some h_55
  refine cl_callV (ci := 5) (rest := []) C G_54 rfl ha cw_RX5_390 [] _ (kc_X5_powerGoes l D c0 (by rw [G_54.1]; exact ha) hq) (Nat.le_of_ble_eq_true rfl) (Nat.le_of_ble_eq_true rfl) rfl rfl hl_51.1 (Nat.le_of_ble_eq_true rfl) dX5_seal_112 (fun T_59 H locs cells slots t_60 hu G_61 => ?_)
  have ha := hu.kind ha (by decide)
  have t_41 := hu.kind t_41 (by decide)
  have f3 := f3.up hu (by decide)
  refine W.eq (g2 := F0 m 115 ls [.int r_57]) rfl ?_
  refine lv_if_eq (tgt := 134) C.1 C.2.1 dX5_seal_115 (by decide) (fun hc => ?_) (fun hc => ?_)
  · rw [if_pos hc] at h_58
    refine lv_aload_n C.1 C.2.1 dX5_seal_134 rfl (lv_at hl_51 2 rfl) ?_
    refine cg_5_51 C G_61 ha dX5_seal_135 (fun t_62 => ?_)
    have t_62 : (T_59 31).1 = 26 := by rw [t_62]
    refine lv_iconst (v := (3:Int32)) C.1 C.2.1 dX5_seal_138 (by decide) ?_
    refine lv_aload_n C.1 C.2.1 dX5_seal_139 rfl (lv_at hl_51 2 rfl) ?_
    refine cg_5_51 C G_61 ha dX5_seal_140 (fun t_63 => ?_)
    have t_63 : (T_59 31).1 = 26 := by rw [t_63]
    refine lv_iload_n C.1 C.2.1 dX5_seal_143 rfl (lv_at hl_51 4 rfl) ?_
    obtain ⟨r_65, σ_64, hq, h_66⟩ := bd2_some h_58
    refine cl_callV (ci := 10) (rest := [.int (3:Int32), .ref (c0 + 31)]) C G_61 rfl t_63 cw_RX5_393 [.int x2] _ (kc_X10_numberTerm l D c0 (by rw [G_61.1]; exact t_63) hq) (Nat.le_of_ble_eq_true rfl) (Nat.le_of_ble_eq_true rfl) rfl rfl hl_51.1 (Nat.le_of_ble_eq_true rfl) dX5_seal_144 (fun T_67 H locs cells slots t_68 hu G_69 => ?_)
    have ha := hu.kind ha (by decide)
    have t_41 := hu.kind t_41 (by decide)
    have f3 := f3.up hu (by decide)
    have t_62 := hu.kind t_62 (by decide)
    refine W.eq (g2 := F0 m 147 ls [cl_rf c0 r_65, .int (3:Int32), .ref (c0 + 31)]) rfl ?_
    refine lv_aload_n C.1 C.2.1 dX5_seal_147 rfl (lv_at hl_51 2 rfl) ?_
    refine cg_5_51 C G_69 ha dX5_seal_148 (fun t_70 => ?_)
    have t_70 : (T_67 31).1 = 26 := by rw [t_70]
    refine lv_iload C.1 C.2.1 dX5_seal_151 (lv_at hl_51 1 rfl) ?_
    obtain ⟨r_72, σ_71, hq, h_73⟩ := bd2_some h_66
    refine cl_callV (ci := 10) (rest := [cl_rf c0 r_65, .int (3:Int32), .ref (c0 + 31)]) C G_69 rfl t_70 cw_RX5_393 [.int v0] _ (kc_X10_numberTerm l D c0 (by rw [G_69.1]; exact t_70) hq) (Nat.le_of_ble_eq_true rfl) (Nat.le_of_ble_eq_true rfl) rfl rfl hl_51.1 (by cases r_65 <;> exact Nat.le_of_ble_eq_true rfl) dX5_seal_153 (fun T_74 H locs cells slots t_75 hu G_76 => ?_)
    have ha := hu.kind ha (by decide)
    have t_41 := hu.kind t_41 (by decide)
    have f3 := f3.up hu (by decide)
    have t_62 := hu.kind t_62 (by decide)
    have t_68 := t_68.up hu (by decide)
    refine W.eq (g2 := F0 m 156 ls [cl_rf c0 r_72, cl_rf c0 r_65, .int (3:Int32), .ref (c0 + 31)]) rfl ?_
    refine lv_aload_n C.1 C.2.1 dX5_seal_156 rfl (lv_at hl_51 2 rfl) ?_
    refine cg_5_51 C G_76 ha dX5_seal_157 (fun t_77 => ?_)
    have t_77 : (T_74 31).1 = 26 := by rw [t_77]
    refine cg_5_83 C G_76 t_77 dX5_seal_160 (fun t_78 => ?_)
    have t_78 : (T_74 33).1 = 25 := by rw [t_78]
    obtain ⟨r_80, σ_79, hq, h_81⟩ := bd2_some h_73
    refine cl_callV (ci := 10) (rest := []) C G_76 rfl t_62 cw_RX5_396 [.int (3:Int32), cl_rf c0 r_65, cl_rf c0 r_72, .ref (c0 + 33)] _ (kc_X10_made l D c0 (by rw [G_76.1]; exact t_62) hq (by rw [G_76.1]; exact t_68) (by rw [G_76.1]; exact t_75) (by rw [G_76.1]; exact (cl_RTs t_78))) (Nat.le_of_ble_eq_true rfl) (Nat.le_of_ble_eq_true rfl) rfl rfl hl_51.1 (Nat.le_of_ble_eq_true rfl) dX5_seal_163 (fun T_82 H locs cells slots t_83 hu G_84 => ?_)
    have ha := hu.kind ha (by decide)
    have t_41 := hu.kind t_41 (by decide)
    have f3 := f3.up hu (by decide)
    refine W.eq (g2 := F0 m 166 ls [cl_rf c0 r_80]) rfl ?_
    refine cl_astore (lv' := [(7, cl_rf c0 r_80), (6, .int x6_49), (5, .int v0), (0, .ref (c0 + a)), (1, .ref (c0 + a_40)), (2, .int x2), (3, cl_rf c0 x3)]) C.1 C.2.1 dX5_seal_166 hl_51 (by decide) (by first | rfl | (cases x3 <;> rfl)) (fun ls hl_85 => ?_)
    refine lv_aload_n C.1 C.2.1 dX5_seal_168 rfl (lv_at hl_85 3 rfl) ?_
    refine cg_5_51 C G_84 ha dX5_seal_169 (fun t_86 => ?_)
    have t_86 : (T_82 31).1 = 26 := by rw [t_86]
    refine lv_bipush (v := (8:Int32)) C.1 C.2.1 dX5_seal_172 (by decide) ?_
    refine lv_aload_n C.1 C.2.1 dX5_seal_174 rfl (lv_at hl_85 4 rfl) ?_
    refine cg_5_365 C G_84 t_41 dX5_seal_175 (fun t_87 => ?_)
    refine vt_r (K := 25) t_87 h_81 (fun r_88 t_89 h_90 => ?_)
    refine cl_aload C.1 C.2.1 dX5_seal_178 (lv_at hl_85 0 rfl) ?_
    refine cl_aload_n C.1 C.2.1 dX5_seal_180 rfl (lv_at hl_85 6 rfl) ?_
    obtain ⟨r_92, σ_91, hq, h_93⟩ := bd2_some h_90
    refine cl_callV (ci := 10) (rest := []) C G_84 rfl t_86 cw_RX5_396 [.int (8:Int32), cl_rf c0 r_88, cl_rf c0 r_80, cl_rf c0 x3] _ (kc_X10_made l D c0 (by rw [G_84.1]; exact t_86) hq (by rw [G_84.1]; exact t_89) (by rw [G_84.1]; exact t_83) (by rw [G_84.1]; exact f3)) (Nat.le_of_ble_eq_true rfl) (Nat.le_of_ble_eq_true rfl) rfl rfl hl_85.1 (Nat.le_of_ble_eq_true rfl) dX5_seal_181 (fun T_94 H locs cells slots t_95 hu G_96 => ?_)
    have t_83 := t_83.up hu (by decide)
    have ha := hu.kind ha (by decide)
    have t_41 := hu.kind t_41 (by decide)
    have f3 := f3.up hu (by decide)
    refine W.eq (g2 := F0 m 184 ls [cl_rf c0 r_92]) rfl ?_
    refine cl_astore (lv' := [(8, cl_rf c0 r_92), (7, cl_rf c0 r_80), (6, .int x6_49), (5, .int v0), (0, .ref (c0 + a)), (1, .ref (c0 + a_40)), (2, .int x2), (3, cl_rf c0 x3)]) C.1 C.2.1 dX5_seal_184 hl_85 (by decide) (by first | rfl | (cases r_80 <;> cases x3 <;> rfl)) (fun ls hl_97 => ?_)
    refine lv_aload_n C.1 C.2.1 dX5_seal_186 rfl (lv_at hl_97 4 rfl) ?_
    refine cg_5_55 C G_96 ha dX5_seal_187 (fun t_98 => ?_)
    refine vt_r (K := 19) t_98 h_93 (fun r_99 t_100 h_101 => ?_)
    refine lv_iload C.1 C.2.1 dX5_seal_190 (lv_at hl_97 2 rfl) ?_
    refine lv_iload C.1 C.2.1 dX5_seal_192 (lv_at hl_97 3 rfl) ?_
    refine cl_aload C.1 C.2.1 dX5_seal_194 (lv_at hl_97 0 rfl) ?_
    obtain ⟨a_102, rfl, h_104⟩ := nn_some h_101
    have t_103 := t_100 _ rfl
    obtain ⟨σ_105, hq, h_106⟩ := bd1_some h_104
    refine cl_callV (ci := 3) (rest := []) C G_96 rfl t_103 cw_RX5_400 [.int x6_49, .int v0, cl_rf c0 r_92] _ (kc_X3_fill l D c0 (by rw [G_96.1]; exact t_103) hq (by rw [G_96.1]; exact t_95)) (Nat.le_of_ble_eq_true rfl) (Nat.le_of_ble_eq_true rfl) rfl rfl hl_97.1 (Nat.le_of_ble_eq_true rfl) dX5_seal_196 (fun T_107 H locs cells slots t_108 hu G_109 => ?_)
    have t_95 := t_95.up hu (by decide)
    have t_83 := t_83.up hu (by decide)
    have ha := hu.kind ha (by decide)
    have t_41 := hu.kind t_41 (by decide)
    have f3 := f3.up hu (by decide)
    refine W.eq (g2 := F0 m 199 ls []) rfl ?_
    refine lv_aload_n C.1 C.2.1 dX5_seal_199 rfl (lv_at hl_97 5 rfl) ?_
    refine lv_dup C.1 C.2.1 dX5_seal_200 rfl ?_
    refine cg_5_384 C G_109 t_41 dX5_seal_201 ?_
    refine lv_iconst (v := (1:Int32)) C.1 C.2.1 dX5_seal_204 (by decide) ?_
    refine lv_iadd C.1 C.2.1 dX5_seal_205 ?_
    refine cp_5_384 C G_109 t_41 dX5_seal_206 (fun H locs G_111 => ?_)
    refine cl_nm G_111 h_106 (fun σ_110 G_112 h_113 => ?_)
    refine lv_aload_n C.1 C.2.1 dX5_seal_209 rfl (lv_at hl_97 4 rfl) ?_
    refine cg_5_59 C G_112 ha dX5_seal_210 ?_
    refine lv_if_eq (tgt := 225) C.1 C.2.1 dX5_seal_213 (by decide) (fun hc => ?_) (fun hc => ?_)
    · rw [if_pos hc] at h_113
      refine lv_iload C.1 C.2.1 dX5_seal_225 (lv_at hl_97 3 rfl) ?_
      exact cl_iret ⟨rfl, rfl⟩ rfl C G_112 h_113 dX5_seal_227
    · rw [if_neg hc] at h_113
      refine lv_aload_n C.1 C.2.1 dX5_seal_216 rfl (lv_at hl_97 4 rfl) ?_
      refine cg_5_51 C G_112 ha dX5_seal_217 (fun t_114 => ?_)
      have t_114 : (T_107 31).1 = 26 := by rw [t_114]
      refine cl_aload C.1 C.2.1 dX5_seal_220 (lv_at hl_97 0 rfl) ?_
      obtain ⟨σ_115, hq, h_116⟩ := bd1_some h_113
      refine cl_callV (ci := 10) (rest := []) C G_112 rfl t_114 cw_RX5_339 [cl_rf c0 r_92] _ (kc_X10_tell l D c0 (by rw [G_112.1]; exact t_114) hq (by rw [G_112.1]; exact t_95)) (Nat.le_of_ble_eq_true rfl) (Nat.le_of_ble_eq_true rfl) rfl rfl hl_97.1 (Nat.le_of_ble_eq_true rfl) dX5_seal_222 (fun T_117 H locs cells slots t_118 hu G_119 => ?_)
      have t_95 := t_95.up hu (by decide)
      have t_83 := t_83.up hu (by decide)
      have ha := hu.kind ha (by decide)
      have t_41 := hu.kind t_41 (by decide)
      have f3 := f3.up hu (by decide)
      refine W.eq (g2 := F0 m 225 ls []) rfl ?_
      refine lv_iload C.1 C.2.1 dX5_seal_225 (lv_at hl_97 3 rfl) ?_
      exact cl_iret ⟨rfl, rfl⟩ rfl C G_119 h_116 dX5_seal_227
  · rw [if_neg hc] at h_58
    refine lv_aload_n C.1 C.2.1 dX5_seal_118 rfl (lv_at hl_51 2 rfl) ?_
    refine cg_5_55 C G_61 ha dX5_seal_119 (fun t_120 => ?_)
    refine vt_r (K := 19) t_120 h_58 (fun r_121 t_122 h_123 => ?_)
    refine lv_iload C.1 C.2.1 dX5_seal_122 (lv_at hl_51 0 rfl) ?_
    obtain ⟨a_124, rfl, h_126⟩ := nn_some h_123
    have t_125 := t_122 _ rfl
    obtain ⟨σ_127, hq, h_128⟩ := bd1_some h_126
    refine cl_callV (ci := 3) (rest := []) C G_61 rfl t_125 cw_RX5_158 [.int x6_49] _ (kc_X3_empty l D c0 (by rw [G_61.1]; exact t_125) hq) (Nat.le_of_ble_eq_true rfl) (Nat.le_of_ble_eq_true rfl) rfl rfl hl_51.1 (Nat.le_of_ble_eq_true rfl) dX5_seal_124 (fun T_129 H locs cells slots t_130 hu G_131 => ?_)
    have ha := hu.kind ha (by decide)
    have t_41 := hu.kind t_41 (by decide)
    have f3 := f3.up hu (by decide)
    refine W.eq (g2 := F0 m 127 ls []) rfl ?_
    refine lv_aload_n C.1 C.2.1 dX5_seal_127 rfl (lv_at hl_51 2 rfl) ?_
    refine lv_iconst (v := (0:Int32)) C.1 C.2.1 dX5_seal_128 (by decide) ?_
    refine cp_5_133 C G_131 ha rfl rfl dX5_seal_129 (fun H locs G_133 => ?_)
    refine cl_nm G_133 h_128 (fun σ_132 G_134 h_135 => ?_)
    refine lv_iconst (v := (0:Int32)) C.1 C.2.1 dX5_seal_132 (by decide) ?_
    exact cl_iret ⟨rfl, rfl⟩ rfl C G_134 h_135 dX5_seal_133
noncomputable def bc_X5_seal_0 (a : Nat) (x1 : (Option Nat)) (x2 : Int32) (σ : cl_S) : Option (Int32 × cl_S) := bd2 (fc_X5_hasBlob a x1 x2 σ) (fun r_2 σ_1 => (if r_2 = 0 then some ((-1:Int32), σ_1) else nn x1 (fun a_7 => ix (2:Int32) 16 (bd2 (fc_X8_at (a_7 + 9) (σ_1.1 ((a_7 + 1) + 2) (2:Int32).toNatClampNeg) σ_1) (fun r_15 σ_14 => (if r_15 = (some 33) then some ((-2:Int32), σ_14) else (if (σ_14.1 a_7 14) < (40:Int32) then bd2 (fc_X5_countingBlock a (some a_7) x2 σ_14) (fun r_24 σ_23 => (if 0 ≤ r_24 then vl (σ_23.2.2.1 a 1) (fun r_31 => nn r_31 (fun a_34 => ix r_24 64 (bc_X5_seal_83 a (some a_7) x2 r_15 ((σ_23.1 (a_34 + 1) r_24.toNatClampNeg) + (1:Int32)) σ_23))) else bc_X5_seal_83 a (some a_7) x2 r_15 (1:Int32) σ_23)) else some ((-4:Int32), σ_14))))))))
set_option maxHeartbeats 4000000 in
theorem wc_X5_seal_0 (C : cl_C D p s m args meth c cX5_seal 9 (some .int) RX5) {r : Int32} {a : Nat} {x1 : (Option Nat)} {x2 : Int32} {σ0 σ σ' : cl_S} {T : Nat → Nat × Nat} {H : Heap} {locs : List Loc} {ls : Array Slot} {cells slots : Nat} (h : bc_X5_seal_0 a x1 x2 σ = some (r, σ')) (G : cl_G true D c0 ({ frames := 5, cells := σ0.2.2.2.2.2.1, slots := σ0.2.2.2.2.2.2, locals := 132 }) s σ0.2.2.2.1 T σ H locs cells slots) (ha : (T a).1 = 21) (f1 : cl_RT T x1 22) (hl : lv_has ls 9 [(0, .ref (c0 + a)), (1, cl_rf c0 x1), (2, .int x2)]) : W p l e ({ frames := 5, cells := σ0.2.2.2.2.2.1, slots := σ0.2.2.2.2.2.2, locals := 132 }) s m args below meth c H locs cells slots (MQ below (cl_Q true D c0 (some (.int r)) cl_no σ0 σ') args s (σ0.2.2.2.2.2.1 - σ'.2.2.2.2.2.1) (σ0.2.2.2.2.2.2 - σ'.2.2.2.2.2.2) (cl_A c0 σ0.2.2.2.1 s.heap.size)) (F0 m 0 ls []) := by
  unfold bc_X5_seal_0 at h
  refine lv_aload_n C.1 C.2.1 dX5_seal_0 rfl (lv_at hl 0 rfl) ?_
  refine cl_aload_n C.1 C.2.1 dX5_seal_1 rfl (lv_at hl 1 rfl) ?_
  refine lv_iload_n C.1 C.2.1 dX5_seal_2 rfl (lv_at hl 2 rfl) ?_
  obtain ⟨r_2, σ_1, hq, h_3⟩ := bd2_some h
  refine cl_callV (ci := 5) (rest := []) C G rfl ha cw_RX5_372 [cl_rf c0 x1, .int x2] _ (kc_X5_hasBlob l D c0 (by rw [G.1]; exact ha) hq (by rw [G.1]; exact f1)) (Nat.le_of_ble_eq_true rfl) (Nat.le_of_ble_eq_true rfl) rfl rfl hl.1 (Nat.le_of_ble_eq_true rfl) dX5_seal_3 (fun T_4 H locs cells slots t_5 hu G_6 => ?_)
  have ha := hu.kind ha (by decide)
  have f1 := f1.up hu (by decide)
  refine W.eq (g2 := F0 m 6 ls [.int r_2]) rfl ?_
  refine lv_if_ne (tgt := 11) C.1 C.2.1 dX5_seal_6 (by decide) (fun hc => ?_) (fun hc => ?_)
  · rw [if_neg hc] at h_3
    refine cl_aload_n C.1 C.2.1 dX5_seal_11 rfl (lv_at hl 1 rfl) ?_
    obtain ⟨a_7, rfl, h_9⟩ := nn_some h_3
    have t_8 := f1 _ rfl
    refine cg_5_199 C G_6 t_8 dX5_seal_12 (fun t_10 => ?_)
    have t_10 : (T_4 (a_7 + 9)).1 = 24 := by rw [t_10]
    refine lv_aload_n C.1 C.2.1 dX5_seal_15 rfl (lv_at hl 1 rfl) ?_
    refine cg_5_121 C G_6 t_8 dX5_seal_16 (fun t_11 => ?_)
    have t_11 : (T_4 (a_7 + 1)).1 = 18 := by rw [t_11]
    refine cg_5_193 C G_6 t_11 dX5_seal_19 (fun t_12 => ?_)
    refine lv_iconst (v := (2:Int32)) C.1 C.2.1 dX5_seal_22 (by decide) ?_
    obtain ⟨hi, h_13⟩ := ix_some h_9
    refine cl_iald C G_6 t_12 hi dX5_seal_23 ?_
    obtain ⟨r_15, σ_14, hq, h_16⟩ := bd2_some h_13
    refine cl_callV (ci := 8) (rest := []) C G_6 rfl t_10 cw_RX5_203 [.int (σ_1.1 ((a_7 + 1) + 2) (2:Int32).toNatClampNeg)] _ (kc_X8_at l D c0 (by rw [G_6.1]; exact t_10) hq) (Nat.le_of_ble_eq_true rfl) (Nat.le_of_ble_eq_true rfl) rfl rfl hl.1 (Nat.le_of_ble_eq_true rfl) dX5_seal_24 (fun T_17 H locs cells slots t_18 hu G_19 => ?_)
    have ha := hu.kind ha (by decide)
    have t_8 := hu.kind t_8 (by decide)
    refine W.eq (g2 := F0 m 27 ls [cl_rf c0 r_15]) rfl ?_
    refine cl_astore_n (lv' := [(3, cl_rf c0 r_15), (0, .ref (c0 + a)), (1, .ref (c0 + a_7)), (2, .int x2)]) C.1 C.2.1 dX5_seal_27 rfl hl (by decide) rfl (fun ls hl_20 => ?_)
    refine cl_aload_n C.1 C.2.1 dX5_seal_28 rfl (lv_at hl_20 0 rfl) ?_
    refine lv_aload_n C.1 C.2.1 dX5_seal_29 rfl (lv_at hl_20 1 rfl) ?_
    refine cg_5_51 C G_19 ha dX5_seal_30 (fun t_21 => ?_)
    have t_21 : (T_17 31).1 = 26 := by rw [t_21]
    refine cg_5_83 C G_19 t_21 dX5_seal_33 (fun t_22 => ?_)
    have t_22 : (T_17 33).1 = 25 := by rw [t_22]
    refine cl_acmp_ne (rx := r_15) (ry := (some 33)) (tgt := 42) C.1 C.2.1 dX5_seal_36 (by decide) (fun hc => ?_) (fun hc => ?_)
    · rw [if_neg hc] at h_16
      refine lv_aload_n C.1 C.2.1 dX5_seal_42 rfl (lv_at hl_20 2 rfl) ?_
      refine cg_5_384 C G_19 t_8 dX5_seal_43 ?_
      refine lv_bipush (v := (40:Int32)) C.1 C.2.1 dX5_seal_46 (by decide) ?_
      refine lv_icmp_lt (tgt := 54) C.1 C.2.1 dX5_seal_48 (by decide) (fun hc => ?_) (fun hc => ?_)
      · rw [if_pos hc] at h_16
        refine lv_aload_n C.1 C.2.1 dX5_seal_54 rfl (lv_at hl_20 1 rfl) ?_
        refine lv_aload_n C.1 C.2.1 dX5_seal_55 rfl (lv_at hl_20 2 rfl) ?_
        refine lv_iload_n C.1 C.2.1 dX5_seal_56 rfl (lv_at hl_20 3 rfl) ?_
        obtain ⟨r_24, σ_23, hq, h_25⟩ := bd2_some h_16
        refine cl_callV (ci := 5) (rest := []) C G_19 rfl ha cw_RX5_375 [.ref (c0 + a_7), .int x2] _ (kc_X5_countingBlock l D c0 (by rw [G_19.1]; exact ha) hq (by rw [G_19.1]; exact (cl_RTs t_8))) (Nat.le_of_ble_eq_true rfl) (Nat.le_of_ble_eq_true rfl) rfl rfl hl_20.1 (Nat.le_of_ble_eq_true rfl) dX5_seal_57 (fun T_26 H locs cells slots t_27 hu G_28 => ?_)
        have t_18 := t_18.up hu (by decide)
        have ha := hu.kind ha (by decide)
        have t_8 := hu.kind t_8 (by decide)
        refine W.eq (g2 := F0 m 60 ls [.int r_24]) rfl ?_
        refine lv_istore (lv' := [(4, .int r_24), (3, cl_rf c0 r_15), (0, .ref (c0 + a)), (1, .ref (c0 + a_7)), (2, .int x2)]) C.1 C.2.1 dX5_seal_60 hl_20 (by decide) (by first | rfl | (cases r_15 <;> rfl)) (fun ls hl_29 => ?_)
        refine lv_iload C.1 C.2.1 dX5_seal_62 (lv_at hl_29 0 rfl) ?_
        refine lv_if_ge (tgt := 71) C.1 C.2.1 dX5_seal_64 (by decide) (fun hc => ?_) (fun hc => ?_)
        · rw [if_pos hc] at h_25
          refine lv_aload_n C.1 C.2.1 dX5_seal_71 rfl (lv_at hl_29 2 rfl) ?_
          refine cg_5_55 C G_28 ha dX5_seal_72 (fun t_30 => ?_)
          refine vt_r (K := 19) t_30 h_25 (fun r_31 t_32 h_33 => ?_)
          obtain ⟨a_34, rfl, h_36⟩ := nn_some h_33
          have t_35 := t_32 _ rfl
          refine cg_5_378 C G_28 t_35 dX5_seal_75 (fun t_37 => ?_)
          refine lv_iload C.1 C.2.1 dX5_seal_78 (lv_at hl_29 0 rfl) ?_
          obtain ⟨hi, h_38⟩ := ix_some h_36
          refine cl_iald C G_28 t_37 hi dX5_seal_80 ?_
          refine lv_iconst (v := (1:Int32)) C.1 C.2.1 dX5_seal_81 (by decide) ?_
          refine lv_iadd C.1 C.2.1 dX5_seal_82 ?_
          exact wc_X5_seal_83 C h_38 G_28 ha (cl_RTs t_8) t_18 (lv_sub hl_29 [2, 3, 4, 1] rfl)
        · rw [if_neg hc] at h_25
          refine lv_iconst (v := (1:Int32)) C.1 C.2.1 dX5_seal_67 (by decide) ?_
          refine lv_goto (tgt := 83) C.1 C.2.1 dX5_seal_68 (by decide) ?_
          exact wc_X5_seal_83 C h_25 G_28 ha (cl_RTs t_8) t_18 (lv_sub hl_29 [2, 3, 4, 1] rfl)
      · rw [if_neg hc] at h_16
        refine lv_bipush (v := (-4:Int32)) C.1 C.2.1 dX5_seal_51 (by decide) ?_
        exact cl_iret ⟨rfl, rfl⟩ rfl C G_19 h_16 dX5_seal_53
    · rw [if_pos hc] at h_16
      refine lv_bipush (v := (-2:Int32)) C.1 C.2.1 dX5_seal_39 (by decide) ?_
      exact cl_iret ⟨rfl, rfl⟩ rfl C G_19 h_16 dX5_seal_41
  · rw [if_pos hc] at h_3
    refine lv_iconst (v := (-1:Int32)) C.1 C.2.1 dX5_seal_9 (by decide) ?_
    exact cl_iret ⟨rfl, rfl⟩ rfl C G_6 h_3 dX5_seal_10
noncomputable def fc_X5_seal (a : Nat) (x1 : (Option Nat)) (x2 : Int32) (σ : cl_S) : Option (Int32 × cl_S) := bc_X5_seal_0 a x1 x2 σ
theorem kc_X5_seal (l : Launch) (D : cl_D) (c0 : Nat) {r : Int32} {a : Nat} {x1 : (Option Nat)} {x2 : Int32} {σ σ' : cl_S} (ha : (σ.2.2.2.1 a).1 = 21) (h : fc_X5_seal a x1 x2 σ = some (r, σ')) (f1 : cl_RT σ.2.2.2.1 x1 22) : cl_Met true l D c0 yX5_seal cX5_seal 9 (some .int) 5 132 [.ref (c0 + a), cl_rf c0 x1, .int x2] σ (some (.int r)) cl_no σ' :=
  by cases x1 <;> exact cl_of (by decide) (Nat.le_of_ble_eq_true rfl) (fun p e s m args below meth c ls C hn G hl => wc_X5_seal_0 C h G ha f1 hl)
abbrev cX5_unseal : ByteArray := prog_7_method_29_code
def yX5_unseal : MethodName := ⟨RX5, "unseal", "(LPartHouse$Partition;I)I"⟩
theorem dX5_unseal_0 : decode cX5_unseal 0 = .ok (.aload_n 0, 1) := by decide +kernel
theorem dX5_unseal_1 : decode cX5_unseal 1 = .ok (.aload_n 1, 1) := by decide +kernel
theorem dX5_unseal_2 : decode cX5_unseal 2 = .ok (.iload_n 2, 1) := by decide +kernel
theorem dX5_unseal_3 : decode cX5_unseal 3 = .ok (.invokevirtual 372, 3) := by decide +kernel
theorem dX5_unseal_6 : decode cX5_unseal 6 = .ok (.ifCond .ne 5, 3) := by decide +kernel
theorem dX5_unseal_9 : decode cX5_unseal 9 = .ok (.iconst (-1), 1) := by decide +kernel
theorem dX5_unseal_10 : decode cX5_unseal 10 = .ok (.ireturn, 1) := by decide +kernel
theorem dX5_unseal_11 : decode cX5_unseal 11 = .ok (.aload_n 0, 1) := by decide +kernel
theorem dX5_unseal_12 : decode cX5_unseal 12 = .ok (.aload_n 1, 1) := by decide +kernel
theorem dX5_unseal_13 : decode cX5_unseal 13 = .ok (.iload_n 2, 1) := by decide +kernel
theorem dX5_unseal_14 : decode cX5_unseal 14 = .ok (.invokevirtual 375, 3) := by decide +kernel
theorem dX5_unseal_17 : decode cX5_unseal 17 = .ok (.istore_n 3, 1) := by decide +kernel
theorem dX5_unseal_18 : decode cX5_unseal 18 = .ok (.iload_n 3, 1) := by decide +kernel
theorem dX5_unseal_19 : decode cX5_unseal 19 = .ok (.ifCond .ge 8, 3) := by decide +kernel
theorem dX5_unseal_22 : decode cX5_unseal 22 = .ok (.bipush (-3), 2) := by decide +kernel
theorem dX5_unseal_24 : decode cX5_unseal 24 = .ok (.goto 22, 3) := by decide +kernel
theorem dX5_unseal_27 : decode cX5_unseal 27 = .ok (.aload_n 1, 1) := by decide +kernel
theorem dX5_unseal_28 : decode cX5_unseal 28 = .ok (.getfield 199, 3) := by decide +kernel
theorem dX5_unseal_31 : decode cX5_unseal 31 = .ok (.aload_n 0, 1) := by decide +kernel
theorem dX5_unseal_32 : decode cX5_unseal 32 = .ok (.getfield 55, 3) := by decide +kernel
theorem dX5_unseal_35 : decode cX5_unseal 35 = .ok (.getfield 381, 3) := by decide +kernel
theorem dX5_unseal_38 : decode cX5_unseal 38 = .ok (.iload_n 3, 1) := by decide +kernel
theorem dX5_unseal_39 : decode cX5_unseal 39 = .ok (.aaload, 1) := by decide +kernel
theorem dX5_unseal_40 : decode cX5_unseal 40 = .ok (.getfield 348, 3) := by decide +kernel
theorem dX5_unseal_43 : decode cX5_unseal 43 = .ok (.invokevirtual 282, 3) := by decide +kernel
theorem dX5_unseal_46 : decode cX5_unseal 46 = .ok (.ireturn, 1) := by decide +kernel
theorem cc_X5_unseal : Cond.code yX5_unseal cX5_unseal 4 (some .int) ∈ rf_tb := rf_at 1321 (by decide +kernel) (by decide +kernel)
noncomputable def bc_X5_unseal_0 (a : Nat) (x1 : (Option Nat)) (x2 : Int32) (σ : cl_S) : Option (Int32 × cl_S) := bd2 (fc_X5_hasBlob a x1 x2 σ) (fun r_2 σ_1 => (if r_2 = 0 then some ((-1:Int32), σ_1) else bd2 (fc_X5_countingBlock a x1 x2 σ_1) (fun r_8 σ_7 => (if 0 ≤ r_8 then nn x1 (fun a_14 => vl (σ_7.2.2.1 a 1) (fun r_19 => nn r_19 (fun a_22 => ix r_8 64 (vl (σ_7.2.2.1 (a_22 + 2) r_8.toNatClampNeg) (fun r_28 => nn r_28 (fun a_31 => vl (σ_7.2.2.1 a_31 5) (fun r_35 => bd2 (fc_X8_comeIn (a_14 + 9) r_35 σ_7) (fun r_39 σ_38 => some (r_39, σ_38))))))))) else some ((-3:Int32), σ_7)))))
set_option maxHeartbeats 4000000 in
theorem wc_X5_unseal_0 (C : cl_C D p s m args meth c cX5_unseal 4 (some .int) RX5) {r : Int32} {a : Nat} {x1 : (Option Nat)} {x2 : Int32} {σ0 σ σ' : cl_S} {T : Nat → Nat × Nat} {H : Heap} {locs : List Loc} {ls : Array Slot} {cells slots : Nat} (h : bc_X5_unseal_0 a x1 x2 σ = some (r, σ')) (G : cl_G true D c0 ({ frames := 3, cells := σ0.2.2.2.2.2.1, slots := σ0.2.2.2.2.2.2, locals := 73 }) s σ0.2.2.2.1 T σ H locs cells slots) (ha : (T a).1 = 21) (f1 : cl_RT T x1 22) (hl : lv_has ls 4 [(0, .ref (c0 + a)), (1, cl_rf c0 x1), (2, .int x2)]) : W p l e ({ frames := 3, cells := σ0.2.2.2.2.2.1, slots := σ0.2.2.2.2.2.2, locals := 73 }) s m args below meth c H locs cells slots (MQ below (cl_Q true D c0 (some (.int r)) cl_no σ0 σ') args s (σ0.2.2.2.2.2.1 - σ'.2.2.2.2.2.1) (σ0.2.2.2.2.2.2 - σ'.2.2.2.2.2.2) (cl_A c0 σ0.2.2.2.1 s.heap.size)) (F0 m 0 ls []) := by
  unfold bc_X5_unseal_0 at h
  refine lv_aload_n C.1 C.2.1 dX5_unseal_0 rfl (lv_at hl 0 rfl) ?_
  refine cl_aload_n C.1 C.2.1 dX5_unseal_1 rfl (lv_at hl 1 rfl) ?_
  refine lv_iload_n C.1 C.2.1 dX5_unseal_2 rfl (lv_at hl 2 rfl) ?_
  obtain ⟨r_2, σ_1, hq, h_3⟩ := bd2_some h
  refine cl_callV (ci := 5) (rest := []) C G rfl ha cw_RX5_372 [cl_rf c0 x1, .int x2] _ (kc_X5_hasBlob l D c0 (by rw [G.1]; exact ha) hq (by rw [G.1]; exact f1)) (Nat.le_of_ble_eq_true rfl) (Nat.le_of_ble_eq_true rfl) rfl rfl hl.1 (Nat.le_of_ble_eq_true rfl) dX5_unseal_3 (fun T_4 H locs cells slots t_5 hu G_6 => ?_)
  have ha := hu.kind ha (by decide)
  have f1 := f1.up hu (by decide)
  refine W.eq (g2 := F0 m 6 ls [.int r_2]) rfl ?_
  refine lv_if_ne (tgt := 11) C.1 C.2.1 dX5_unseal_6 (by decide) (fun hc => ?_) (fun hc => ?_)
  · rw [if_neg hc] at h_3
    refine lv_aload_n C.1 C.2.1 dX5_unseal_11 rfl (lv_at hl 0 rfl) ?_
    refine cl_aload_n C.1 C.2.1 dX5_unseal_12 rfl (lv_at hl 1 rfl) ?_
    refine lv_iload_n C.1 C.2.1 dX5_unseal_13 rfl (lv_at hl 2 rfl) ?_
    obtain ⟨r_8, σ_7, hq, h_9⟩ := bd2_some h_3
    refine cl_callV (ci := 5) (rest := []) C G_6 rfl ha cw_RX5_375 [cl_rf c0 x1, .int x2] _ (kc_X5_countingBlock l D c0 (by rw [G_6.1]; exact ha) hq (by rw [G_6.1]; exact f1)) (Nat.le_of_ble_eq_true rfl) (Nat.le_of_ble_eq_true rfl) rfl rfl hl.1 (Nat.le_of_ble_eq_true rfl) dX5_unseal_14 (fun T_10 H locs cells slots t_11 hu G_12 => ?_)
    have ha := hu.kind ha (by decide)
    have f1 := f1.up hu (by decide)
    refine W.eq (g2 := F0 m 17 ls [.int r_8]) rfl ?_
    refine lv_istore_n (lv' := [(3, .int r_8), (0, .ref (c0 + a)), (1, cl_rf c0 x1), (2, .int x2)]) C.1 C.2.1 dX5_unseal_17 rfl hl (by decide) (by first | rfl | (cases x1 <;> rfl)) (fun ls hl_13 => ?_)
    refine lv_iload_n C.1 C.2.1 dX5_unseal_18 rfl (lv_at hl_13 0 rfl) ?_
    refine lv_if_ge (tgt := 27) C.1 C.2.1 dX5_unseal_19 (by decide) (fun hc => ?_) (fun hc => ?_)
    · rw [if_pos hc] at h_9
      refine cl_aload_n C.1 C.2.1 dX5_unseal_27 rfl (lv_at hl_13 2 rfl) ?_
      obtain ⟨a_14, rfl, h_16⟩ := nn_some h_9
      have t_15 := f1 _ rfl
      refine cg_5_199 C G_12 t_15 dX5_unseal_28 (fun t_17 => ?_)
      have t_17 : (T_10 (a_14 + 9)).1 = 24 := by rw [t_17]
      refine lv_aload_n C.1 C.2.1 dX5_unseal_31 rfl (lv_at hl_13 1 rfl) ?_
      refine cg_5_55 C G_12 ha dX5_unseal_32 (fun t_18 => ?_)
      refine vt_r (K := 19) t_18 h_16 (fun r_19 t_20 h_21 => ?_)
      obtain ⟨a_22, rfl, h_24⟩ := nn_some h_21
      have t_23 := t_20 _ rfl
      refine cg_5_381 C G_12 t_23 dX5_unseal_35 (fun t_25 => ?_)
      refine lv_iload_n C.1 C.2.1 dX5_unseal_38 rfl (lv_at hl_13 0 rfl) ?_
      obtain ⟨hi, h_26⟩ := ix_some h_24
      refine cl_aald C G_12 t_25 (by decide) (by decide) rfl hi dX5_unseal_39 (fun t_27 => ?_)
      refine vt_r (K := 25) t_27 h_26 (fun r_28 t_29 h_30 => ?_)
      obtain ⟨a_31, rfl, h_33⟩ := nn_some h_30
      have t_32 := t_29 _ rfl
      refine cg_5_348 C G_12 t_32 dX5_unseal_40 (fun t_34 => ?_)
      refine vt_r (K := 25) t_34 h_33 (fun r_35 t_36 h_37 => ?_)
      obtain ⟨r_39, σ_38, hq, h_40⟩ := bd2_some h_37
      refine cl_callV (ci := 8) (rest := []) C G_12 rfl t_17 cw_RX5_282 [cl_rf c0 r_35] _ (kc_X8_comeIn l D c0 (by rw [G_12.1]; exact t_17) hq (by rw [G_12.1]; exact t_36)) (Nat.le_of_ble_eq_true rfl) (Nat.le_of_ble_eq_true rfl) rfl rfl hl_13.1 (Nat.le_of_ble_eq_true rfl) dX5_unseal_43 (fun T_41 H locs cells slots t_42 hu G_43 => ?_)
      have ha := hu.kind ha (by decide)
      have t_15 := hu.kind t_15 (by decide)
      refine W.eq (g2 := F0 m 46 ls [.int r_39]) rfl ?_
      exact cl_iret ⟨rfl, rfl⟩ rfl C G_43 h_40 dX5_unseal_46
    · rw [if_neg hc] at h_9
      refine lv_bipush (v := (-3:Int32)) C.1 C.2.1 dX5_unseal_22 (by decide) ?_
      refine lv_goto (tgt := 46) C.1 C.2.1 dX5_unseal_24 (by decide) ?_
      exact cl_iret ⟨rfl, rfl⟩ rfl C G_12 h_9 dX5_unseal_46
  · rw [if_pos hc] at h_3
    refine lv_iconst (v := (-1:Int32)) C.1 C.2.1 dX5_unseal_9 (by decide) ?_
    exact cl_iret ⟨rfl, rfl⟩ rfl C G_6 h_3 dX5_unseal_10
noncomputable def fc_X5_unseal (a : Nat) (x1 : (Option Nat)) (x2 : Int32) (σ : cl_S) : Option (Int32 × cl_S) := bc_X5_unseal_0 a x1 x2 σ
theorem kc_X5_unseal (l : Launch) (D : cl_D) (c0 : Nat) {r : Int32} {a : Nat} {x1 : (Option Nat)} {x2 : Int32} {σ σ' : cl_S} (ha : (σ.2.2.2.1 a).1 = 21) (h : fc_X5_unseal a x1 x2 σ = some (r, σ')) (f1 : cl_RT σ.2.2.2.1 x1 22) : cl_Met true l D c0 yX5_unseal cX5_unseal 4 (some .int) 3 73 [.ref (c0 + a), cl_rf c0 x1, .int x2] σ (some (.int r)) cl_no σ' :=
  by cases x1 <;> exact cl_of (by decide) (Nat.le_of_ble_eq_true rfl) (fun p e s m args below meth c ls C hn G hl => wc_X5_unseal_0 C h G ha f1 hl)
abbrev cX5_versionThatCounts : ByteArray := prog_7_method_28_code
def yX5_versionThatCounts : MethodName := ⟨RX5, "versionThatCounts", "(LPartHouse$Partition;I)I"⟩
theorem dX5_versionThatCounts_0 : decode cX5_versionThatCounts 0 = .ok (.aload_n 0, 1) := by decide +kernel
theorem dX5_versionThatCounts_1 : decode cX5_versionThatCounts 1 = .ok (.aload_n 1, 1) := by decide +kernel
theorem dX5_versionThatCounts_2 : decode cX5_versionThatCounts 2 = .ok (.iload_n 2, 1) := by decide +kernel
theorem dX5_versionThatCounts_3 : decode cX5_versionThatCounts 3 = .ok (.invokevirtual 372, 3) := by decide +kernel
theorem dX5_versionThatCounts_6 : decode cX5_versionThatCounts 6 = .ok (.ifCond .ne 5, 3) := by decide +kernel
theorem dX5_versionThatCounts_9 : decode cX5_versionThatCounts 9 = .ok (.iconst (-1), 1) := by decide +kernel
theorem dX5_versionThatCounts_10 : decode cX5_versionThatCounts 10 = .ok (.ireturn, 1) := by decide +kernel
theorem dX5_versionThatCounts_11 : decode cX5_versionThatCounts 11 = .ok (.aload_n 0, 1) := by decide +kernel
theorem dX5_versionThatCounts_12 : decode cX5_versionThatCounts 12 = .ok (.aload_n 1, 1) := by decide +kernel
theorem dX5_versionThatCounts_13 : decode cX5_versionThatCounts 13 = .ok (.iload_n 2, 1) := by decide +kernel
theorem dX5_versionThatCounts_14 : decode cX5_versionThatCounts 14 = .ok (.invokevirtual 375, 3) := by decide +kernel
theorem dX5_versionThatCounts_17 : decode cX5_versionThatCounts 17 = .ok (.istore_n 3, 1) := by decide +kernel
theorem dX5_versionThatCounts_18 : decode cX5_versionThatCounts 18 = .ok (.iload_n 3, 1) := by decide +kernel
theorem dX5_versionThatCounts_19 : decode cX5_versionThatCounts 19 = .ok (.ifCond .ge 7, 3) := by decide +kernel
theorem dX5_versionThatCounts_22 : decode cX5_versionThatCounts 22 = .ok (.iconst 0, 1) := by decide +kernel
theorem dX5_versionThatCounts_23 : decode cX5_versionThatCounts 23 = .ok (.goto 12, 3) := by decide +kernel
theorem dX5_versionThatCounts_26 : decode cX5_versionThatCounts 26 = .ok (.aload_n 0, 1) := by decide +kernel
theorem dX5_versionThatCounts_27 : decode cX5_versionThatCounts 27 = .ok (.getfield 55, 3) := by decide +kernel
theorem dX5_versionThatCounts_30 : decode cX5_versionThatCounts 30 = .ok (.getfield 378, 3) := by decide +kernel
theorem dX5_versionThatCounts_33 : decode cX5_versionThatCounts 33 = .ok (.iload_n 3, 1) := by decide +kernel
theorem dX5_versionThatCounts_34 : decode cX5_versionThatCounts 34 = .ok (.iaload, 1) := by decide +kernel
theorem dX5_versionThatCounts_35 : decode cX5_versionThatCounts 35 = .ok (.ireturn, 1) := by decide +kernel
theorem cc_X5_versionThatCounts : Cond.code yX5_versionThatCounts cX5_versionThatCounts 4 (some .int) ∈ rf_tb := rf_at 1325 (by decide +kernel) (by decide +kernel)
noncomputable def bc_X5_versionThatCounts_0 (a : Nat) (x1 : (Option Nat)) (x2 : Int32) (σ : cl_S) : Option (Int32 × cl_S) := bd2 (fc_X5_hasBlob a x1 x2 σ) (fun r_2 σ_1 => (if r_2 = 0 then some ((-1:Int32), σ_1) else bd2 (fc_X5_countingBlock a x1 x2 σ_1) (fun r_8 σ_7 => (if 0 ≤ r_8 then vl (σ_7.2.2.1 a 1) (fun r_15 => nn r_15 (fun a_18 => ix r_8 64 (some ((σ_7.1 (a_18 + 1) r_8.toNatClampNeg), σ_7)))) else some ((0:Int32), σ_7)))))
set_option maxHeartbeats 4000000 in
theorem wc_X5_versionThatCounts_0 (C : cl_C D p s m args meth c cX5_versionThatCounts 4 (some .int) RX5) {r : Int32} {a : Nat} {x1 : (Option Nat)} {x2 : Int32} {σ0 σ σ' : cl_S} {T : Nat → Nat × Nat} {H : Heap} {locs : List Loc} {ls : Array Slot} {cells slots : Nat} (h : bc_X5_versionThatCounts_0 a x1 x2 σ = some (r, σ')) (G : cl_G true D c0 ({ frames := 3, cells := σ0.2.2.2.2.2.1, slots := σ0.2.2.2.2.2.2, locals := 73 }) s σ0.2.2.2.1 T σ H locs cells slots) (ha : (T a).1 = 21) (f1 : cl_RT T x1 22) (hl : lv_has ls 4 [(0, .ref (c0 + a)), (1, cl_rf c0 x1), (2, .int x2)]) : W p l e ({ frames := 3, cells := σ0.2.2.2.2.2.1, slots := σ0.2.2.2.2.2.2, locals := 73 }) s m args below meth c H locs cells slots (MQ below (cl_Q true D c0 (some (.int r)) cl_no σ0 σ') args s (σ0.2.2.2.2.2.1 - σ'.2.2.2.2.2.1) (σ0.2.2.2.2.2.2 - σ'.2.2.2.2.2.2) (cl_A c0 σ0.2.2.2.1 s.heap.size)) (F0 m 0 ls []) := by
  unfold bc_X5_versionThatCounts_0 at h
  refine lv_aload_n C.1 C.2.1 dX5_versionThatCounts_0 rfl (lv_at hl 0 rfl) ?_
  refine cl_aload_n C.1 C.2.1 dX5_versionThatCounts_1 rfl (lv_at hl 1 rfl) ?_
  refine lv_iload_n C.1 C.2.1 dX5_versionThatCounts_2 rfl (lv_at hl 2 rfl) ?_
  obtain ⟨r_2, σ_1, hq, h_3⟩ := bd2_some h
  refine cl_callV (ci := 5) (rest := []) C G rfl ha cw_RX5_372 [cl_rf c0 x1, .int x2] _ (kc_X5_hasBlob l D c0 (by rw [G.1]; exact ha) hq (by rw [G.1]; exact f1)) (Nat.le_of_ble_eq_true rfl) (Nat.le_of_ble_eq_true rfl) rfl rfl hl.1 (Nat.le_of_ble_eq_true rfl) dX5_versionThatCounts_3 (fun T_4 H locs cells slots t_5 hu G_6 => ?_)
  have ha := hu.kind ha (by decide)
  have f1 := f1.up hu (by decide)
  refine W.eq (g2 := F0 m 6 ls [.int r_2]) rfl ?_
  refine lv_if_ne (tgt := 11) C.1 C.2.1 dX5_versionThatCounts_6 (by decide) (fun hc => ?_) (fun hc => ?_)
  · rw [if_neg hc] at h_3
    refine lv_aload_n C.1 C.2.1 dX5_versionThatCounts_11 rfl (lv_at hl 0 rfl) ?_
    refine cl_aload_n C.1 C.2.1 dX5_versionThatCounts_12 rfl (lv_at hl 1 rfl) ?_
    refine lv_iload_n C.1 C.2.1 dX5_versionThatCounts_13 rfl (lv_at hl 2 rfl) ?_
    obtain ⟨r_8, σ_7, hq, h_9⟩ := bd2_some h_3
    refine cl_callV (ci := 5) (rest := []) C G_6 rfl ha cw_RX5_375 [cl_rf c0 x1, .int x2] _ (kc_X5_countingBlock l D c0 (by rw [G_6.1]; exact ha) hq (by rw [G_6.1]; exact f1)) (Nat.le_of_ble_eq_true rfl) (Nat.le_of_ble_eq_true rfl) rfl rfl hl.1 (Nat.le_of_ble_eq_true rfl) dX5_versionThatCounts_14 (fun T_10 H locs cells slots t_11 hu G_12 => ?_)
    have ha := hu.kind ha (by decide)
    have f1 := f1.up hu (by decide)
    refine W.eq (g2 := F0 m 17 ls [.int r_8]) rfl ?_
    refine lv_istore_n (lv' := [(3, .int r_8), (0, .ref (c0 + a)), (1, cl_rf c0 x1), (2, .int x2)]) C.1 C.2.1 dX5_versionThatCounts_17 rfl hl (by decide) (by first | rfl | (cases x1 <;> rfl)) (fun ls hl_13 => ?_)
    refine lv_iload_n C.1 C.2.1 dX5_versionThatCounts_18 rfl (lv_at hl_13 0 rfl) ?_
    refine lv_if_ge (tgt := 26) C.1 C.2.1 dX5_versionThatCounts_19 (by decide) (fun hc => ?_) (fun hc => ?_)
    · rw [if_pos hc] at h_9
      refine lv_aload_n C.1 C.2.1 dX5_versionThatCounts_26 rfl (lv_at hl_13 1 rfl) ?_
      refine cg_5_55 C G_12 ha dX5_versionThatCounts_27 (fun t_14 => ?_)
      refine vt_r (K := 19) t_14 h_9 (fun r_15 t_16 h_17 => ?_)
      obtain ⟨a_18, rfl, h_20⟩ := nn_some h_17
      have t_19 := t_16 _ rfl
      refine cg_5_378 C G_12 t_19 dX5_versionThatCounts_30 (fun t_21 => ?_)
      refine lv_iload_n C.1 C.2.1 dX5_versionThatCounts_33 rfl (lv_at hl_13 0 rfl) ?_
      obtain ⟨hi, h_22⟩ := ix_some h_20
      refine cl_iald C G_12 t_21 hi dX5_versionThatCounts_34 ?_
      exact cl_iret ⟨rfl, rfl⟩ rfl C G_12 h_22 dX5_versionThatCounts_35
    · rw [if_neg hc] at h_9
      refine lv_iconst (v := (0:Int32)) C.1 C.2.1 dX5_versionThatCounts_22 (by decide) ?_
      refine lv_goto (tgt := 35) C.1 C.2.1 dX5_versionThatCounts_23 (by decide) ?_
      exact cl_iret ⟨rfl, rfl⟩ rfl C G_12 h_9 dX5_versionThatCounts_35
  · rw [if_pos hc] at h_3
    refine lv_iconst (v := (-1:Int32)) C.1 C.2.1 dX5_versionThatCounts_9 (by decide) ?_
    exact cl_iret ⟨rfl, rfl⟩ rfl C G_6 h_3 dX5_versionThatCounts_10
noncomputable def fc_X5_versionThatCounts (a : Nat) (x1 : (Option Nat)) (x2 : Int32) (σ : cl_S) : Option (Int32 × cl_S) := bc_X5_versionThatCounts_0 a x1 x2 σ
theorem kc_X5_versionThatCounts (l : Launch) (D : cl_D) (c0 : Nat) {r : Int32} {a : Nat} {x1 : (Option Nat)} {x2 : Int32} {σ σ' : cl_S} (ha : (σ.2.2.2.1 a).1 = 21) (h : fc_X5_versionThatCounts a x1 x2 σ = some (r, σ')) (f1 : cl_RT σ.2.2.2.1 x1 22) : cl_Met true l D c0 yX5_versionThatCounts cX5_versionThatCounts 4 (some .int) 3 73 [.ref (c0 + a), cl_rf c0 x1, .int x2] σ (some (.int r)) cl_no σ' :=
  by cases x1 <;> exact cl_of (by decide) (Nat.le_of_ble_eq_true rfl) (fun p e s m args below meth c ls C hn G hl => wc_X5_versionThatCounts_0 C h G ha f1 hl)
end CQ9
