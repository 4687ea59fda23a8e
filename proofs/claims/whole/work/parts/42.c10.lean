section CQ9
variable {p : Program} {l : Launch} {e : Env} {s : State} {m : MethodId} {args : Array Value} {below : List Frame} {meth : Method} {c : Code} {D : cl_D} {c0 : Nat}
abbrev cX10_add : ByteArray := prog_12_method_5_code
def yX10_add : MethodName := ⟨RX10, "add", "(IILPartHouse$Term;LPartHouse$Term;LPartHouse$Term;)LPartHouse$Term;"⟩
theorem dX10_add_0 : decode cX10_add 0 = .ok (.aload_n 0, 1) := by decide +kernel
theorem dX10_add_1 : decode cX10_add 1 = .ok (.dup, 1) := by decide +kernel
theorem dX10_add_2 : decode cX10_add 2 = .ok (.getfield 76, 3) := by decide +kernel
theorem dX10_add_5 : decode cX10_add 5 = .ok (.iconst 1, 1) := by decide +kernel
theorem dX10_add_6 : decode cX10_add 6 = .ok (.iadd, 1) := by decide +kernel
theorem dX10_add_7 : decode cX10_add 7 = .ok (.putfield 76, 3) := by decide +kernel
theorem dX10_add_10 : decode cX10_add 10 = .ok (.new 11, 3) := by decide +kernel
theorem dX10_add_13 : decode cX10_add 13 = .ok (.dup, 1) := by decide +kernel
theorem dX10_add_14 : decode cX10_add 14 = .ok (.iload_n 1, 1) := by decide +kernel
theorem dX10_add_15 : decode cX10_add 15 = .ok (.iload_n 2, 1) := by decide +kernel
theorem dX10_add_16 : decode cX10_add 16 = .ok (.aload_n 0, 1) := by decide +kernel
theorem dX10_add_17 : decode cX10_add 17 = .ok (.getfield 76, 3) := by decide +kernel
theorem dX10_add_20 : decode cX10_add 20 = .ok (.aload_n 0, 1) := by decide +kernel
theorem dX10_add_21 : decode cX10_add 21 = .ok (.getfield 79, 3) := by decide +kernel
theorem dX10_add_24 : decode cX10_add 24 = .ok (.invokespecial 17, 3) := by decide +kernel
theorem dX10_add_27 : decode cX10_add 27 = .ok (.astore 6, 2) := by decide +kernel
theorem dX10_add_29 : decode cX10_add 29 = .ok (.aload_n 0, 1) := by decide +kernel
theorem dX10_add_30 : decode cX10_add 30 = .ok (.aload 6, 2) := by decide +kernel
theorem dX10_add_32 : decode cX10_add 32 = .ok (.putfield 79, 3) := by decide +kernel
theorem dX10_add_35 : decode cX10_add 35 = .ok (.aload 6, 2) := by decide +kernel
theorem dX10_add_37 : decode cX10_add 37 = .ok (.aload_n 3, 1) := by decide +kernel
theorem dX10_add_38 : decode cX10_add 38 = .ok (.putfield 24, 3) := by decide +kernel
theorem dX10_add_41 : decode cX10_add 41 = .ok (.aload 6, 2) := by decide +kernel
theorem dX10_add_43 : decode cX10_add 43 = .ok (.aload 4, 2) := by decide +kernel
theorem dX10_add_45 : decode cX10_add 45 = .ok (.putfield 27, 3) := by decide +kernel
theorem dX10_add_48 : decode cX10_add 48 = .ok (.aload 6, 2) := by decide +kernel
theorem dX10_add_50 : decode cX10_add 50 = .ok (.aload 5, 2) := by decide +kernel
theorem dX10_add_52 : decode cX10_add 52 = .ok (.putfield 30, 3) := by decide +kernel
theorem dX10_add_55 : decode cX10_add 55 = .ok (.iload_n 1, 1) := by decide +kernel
theorem dX10_add_56 : decode cX10_add 56 = .ok (.iload_n 2, 1) := by decide +kernel
theorem dX10_add_57 : decode cX10_add 57 = .ok (.aload_n 3, 1) := by decide +kernel
theorem dX10_add_58 : decode cX10_add 58 = .ok (.aload 4, 2) := by decide +kernel
theorem dX10_add_60 : decode cX10_add 60 = .ok (.aload 5, 2) := by decide +kernel
theorem dX10_add_62 : decode cX10_add 62 = .ok (.invokestatic 63, 3) := by decide +kernel
theorem dX10_add_65 : decode cX10_add 65 = .ok (.istore 7, 2) := by decide +kernel
theorem dX10_add_67 : decode cX10_add 67 = .ok (.aload 6, 2) := by decide +kernel
theorem dX10_add_69 : decode cX10_add 69 = .ok (.aload_n 0, 1) := by decide +kernel
theorem dX10_add_70 : decode cX10_add 70 = .ok (.getfield 13, 3) := by decide +kernel
theorem dX10_add_73 : decode cX10_add 73 = .ok (.iload 7, 2) := by decide +kernel
theorem dX10_add_75 : decode cX10_add 75 = .ok (.aaload, 1) := by decide +kernel
theorem dX10_add_76 : decode cX10_add 76 = .ok (.putfield 73, 3) := by decide +kernel
theorem dX10_add_79 : decode cX10_add 79 = .ok (.aload_n 0, 1) := by decide +kernel
theorem dX10_add_80 : decode cX10_add 80 = .ok (.getfield 13, 3) := by decide +kernel
theorem dX10_add_83 : decode cX10_add 83 = .ok (.iload 7, 2) := by decide +kernel
theorem dX10_add_85 : decode cX10_add 85 = .ok (.aload 6, 2) := by decide +kernel
theorem dX10_add_87 : decode cX10_add 87 = .ok (.aastore, 1) := by decide +kernel
theorem dX10_add_88 : decode cX10_add 88 = .ok (.aload_n 0, 1) := by decide +kernel
theorem dX10_add_89 : decode cX10_add 89 = .ok (.aload 6, 2) := by decide +kernel
theorem dX10_add_91 : decode cX10_add 91 = .ok (.invokevirtual 82, 3) := by decide +kernel
theorem dX10_add_94 : decode cX10_add 94 = .ok (.aload_n 0, 1) := by decide +kernel
theorem dX10_add_95 : decode cX10_add 95 = .ok (.iconst 0, 1) := by decide +kernel
theorem dX10_add_96 : decode cX10_add 96 = .ok (.putfield 85, 3) := by decide +kernel
theorem dX10_add_99 : decode cX10_add 99 = .ok (.aload 6, 2) := by decide +kernel
theorem dX10_add_101 : decode cX10_add 101 = .ok (.areturn, 1) := by decide +kernel
theorem cc_X10_add : Cond.code yX10_add cX10_add 8 (some (.object "PartHouse$Term")) ∈ rf_tb := rf_at 293 (by decide +kernel) (by decide +kernel)
theorem cw_RX10_17 : cl_wI RX10 yX9_init cX9_init 5 17 4 := ⟨⟨rf_at 204 (by decide +kernel) (by decide +kernel), rf_at 205 (by decide +kernel) (by decide +kernel), cc_X9_init, rf_at 10 (by decide +kernel) (by decide +kernel)⟩, rfl, ⟨by decide, by decide, by decide +kernel⟩⟩
theorem cw_RX10_82 : cl_wV RX10 RX10 yX10_noteUser cX10_noteUser 2 none 82 1 := ⟨⟨rf_at 298 (by decide +kernel) (by decide +kernel), rf_at 300 (by decide +kernel) (by decide +kernel), rf_sel (q := (yX10_noteUser, 11)) 0 (by decide +kernel) (by decide +kernel), cc_X10_noteUser, rf_at 9 (by decide +kernel) (by decide +kernel)⟩, ⟨by decide, by decide, by decide +kernel⟩⟩
theorem nw_RX10_11 : Cond.classLink RX10 11 RX9 ∈ rf_tb := rf_at 201 (by decide +kernel) (by decide +kernel)
theorem ni_9 : Cond.instantiable RX9 16 ∈ rf_tb := rf_at 203 (by decide +kernel) (by decide +kernel)
theorem nz_9 : Cond.initialized RX9 ∈ rf_tb := rf_at 10 (by decide +kernel) (by decide +kernel)
theorem nd_9 {c0 zw : Nat} {σ : cl_S} : ∀ k, k < 16 → defaultValue (tyX9 k) = cl_V c0 zw true (cl_nw σ 125 0 16) σ.2.2.2.2.1 9 k := by
  intro k hk
  have h1 : ∀ j, (cl_nw σ 125 0 16).1 σ.2.2.2.2.1 j = 0 := fun j => (by simp [cl_nw, cl_row_eq])
  have h2 : ∀ j, (cl_nw σ 125 0 16).2.1 σ.2.2.2.2.1 j = 0 := fun j => (by simp [cl_nw, cl_row_eq])
  have h3 : ∀ j, (cl_nw σ 125 0 16).2.2.1 σ.2.2.2.2.1 j = none := fun j => (by simp [cl_nw, cl_row_eq])
  unfold cl_V
  rw [h1, h2, h3]
  rcases (show k = 0 ∨ k = 1 ∨ k = 2 ∨ k = 3 ∨ k = 4 ∨ k = 5 ∨ k = 6 ∨ k = 7 ∨ k = 8 ∨ k = 9 ∨ k = 10 ∨ k = 11 ∨ k = 12 ∨ k = 13 ∨ k = 14 ∨ k = 15 by omega) with rfl | rfl | rfl | rfl | rfl | rfl | rfl | rfl | rfl | rfl | rfl | rfl | rfl | rfl | rfl | rfl <;> rfl
noncomputable def bc_X10_add_0 (a : Nat) (x1 : Int32) (x2 : Int32) (x3 : (Option Nat)) (x4 : (Option Nat)) (x5 : (Option Nat)) (σ : cl_S) : Option ((Option Nat) × cl_S) := vl (cl_w σ a 2 ((σ.1 a 2) + (1:Int32))) (fun σ_1 => al σ_1 16 (vl σ_1.2.2.2.2.1 (fun a_5 => vl (cl_nw σ_1 125 0 16) (fun σ_6 => vl (σ_6.2.2.1 a 1) (fun r_16 => bd1 (fc_X9_init a_5 x1 x2 (σ_6.1 a 2) r_16 σ_6) (fun σ_19 => sealed σ_19 a_5 9 (vl (cl_seal σ_19 a_5 9) (fun σ_24 => vl (cl_wr σ_24 a 1 (some a_5)) (fun σ_30 => vl (cl_wr σ_30 a_5 3 x3) (fun σ_34 => vl (cl_wr σ_34 a_5 4 x4) (fun σ_38 => vl (cl_wr σ_38 a_5 5 x5) (fun σ_42 => bd2 (fc_X10_bucketOf x1 x2 x3 x4 x5 σ_42) (fun r_47 σ_46 => vl (σ_46.2.2.1 a 0) (fun r_54 => nn r_54 (fun a_57 => ix r_47 (σ_46.2.2.2.1 a_57).2 (vl (σ_46.2.2.1 a_57 r_47.toNatClampNeg) (fun r_63 => vl (cl_wr σ_46 a_5 7 r_63) (fun σ_66 => vl (σ_66.2.2.1 a 0) (fun r_71 => nn r_71 (fun a_74 => ix r_47 (σ_66.2.2.2.1 a_74).2 (vl (cl_wr σ_66 a_74 r_47.toNatClampNeg (some a_5)) (fun σ_78 => bd1 (fc_X10_noteUser a (some a_5) σ_78) (fun σ_83 => vl (cl_w σ_83 a 8 (0:Int32)) (fun σ_88 => some ((some a_5), σ_88)))))))))))))))))))))))))
set_option maxHeartbeats 4000000 in
theorem wc_X10_add_0 (C : cl_C D p s m args meth c cX10_add 8 (some (.object "PartHouse$Term")) RX10) {r : (Option Nat)} {a : Nat} {x1 : Int32} {x2 : Int32} {x3 : (Option Nat)} {x4 : (Option Nat)} {x5 : (Option Nat)} {σ0 σ σ' : cl_S} {T : Nat → Nat × Nat} {H : Heap} {locs : List Loc} {ls : Array Slot} {cells slots : Nat} (h : bc_X10_add_0 a x1 x2 x3 x4 x5 σ = some (r, σ')) (G : cl_G true D c0 ({ frames := 2, cells := σ0.2.2.2.2.2.1, slots := σ0.2.2.2.2.2.2, locals := 44 }) s σ0.2.2.2.1 T σ H locs cells slots) (ha : (T a).1 = 26) (f3 : cl_RT T x3 25) (f4 : cl_RT T x4 25) (f5 : cl_RT T x5 25) (hl : lv_has ls 8 [(0, .ref (c0 + a)), (1, .int x1), (2, .int x2), (3, cl_rf c0 x3), (4, cl_rf c0 x4), (5, cl_rf c0 x5)]) : W p l e ({ frames := 2, cells := σ0.2.2.2.2.2.1, slots := σ0.2.2.2.2.2.2, locals := 44 }) s m args below meth c H locs cells slots (MQ below (cl_Q true D c0 (some (cl_rf c0 r)) (fun T1 => cl_RT T1 r 25) σ0 σ') args s (σ0.2.2.2.2.2.1 - σ'.2.2.2.2.2.1) (σ0.2.2.2.2.2.2 - σ'.2.2.2.2.2.2) (cl_A c0 σ0.2.2.2.1 s.heap.size)) (F0 m 0 ls []) := by
  unfold bc_X10_add_0 at h
  refine lv_aload_n C.1 C.2.1 dX10_add_0 rfl (lv_at hl 0 rfl) ?_
  refine lv_dup C.1 C.2.1 dX10_add_1 rfl ?_
  refine cg_10_76 C G ha dX10_add_2 ?_
  refine lv_iconst (v := (1:Int32)) C.1 C.2.1 dX10_add_5 (by decide) ?_
  refine lv_iadd C.1 C.2.1 dX10_add_6 ?_
  refine cp_10_76 C G ha dX10_add_7 (fun H locs G_2 => ?_)
  refine cl_nm G_2 h (fun σ_1 G_3 h_4 => ?_)
  obtain ⟨hal, h_10⟩ := al_some h_4
  refine cl_new (ci := 9) C G_3 rfl rfl inX9 tyX9 tyX9_ok (by intro k hk; exact nd_9 k hk) nw_RX10_11 ni_9 nz_9 hal dX10_add_10 (fun T_9 H cells slots z_8 t_7 hu G_11 => ?_)
  have ha := hu.kind ha (by decide)
  have f3 := f3.up hu (by decide)
  have f4 := f4.up hu (by decide)
  have f5 := f5.up hu (by decide)
  refine cl_nmA h_10 z_8 t_7 (fun a_5 z_8 t_7 h_12 => ?_)
  refine cl_nm G_11 h_12 (fun σ_6 G_13 h_14 => ?_)
  refine lv_dup C.1 C.2.1 dX10_add_13 rfl ?_
  refine lv_iload_n C.1 C.2.1 dX10_add_14 rfl (lv_at hl 1 rfl) ?_
  refine lv_iload_n C.1 C.2.1 dX10_add_15 rfl (lv_at hl 2 rfl) ?_
  refine lv_aload_n C.1 C.2.1 dX10_add_16 rfl (lv_at hl 0 rfl) ?_
  refine cg_10_76 C G_13 ha dX10_add_17 ?_
  refine lv_aload_n C.1 C.2.1 dX10_add_20 rfl (lv_at hl 0 rfl) ?_
  refine cg_10_79 C G_13 ha dX10_add_21 (fun t_15 => ?_)
  refine vt_r (K := 25) t_15 h_14 (fun r_16 t_17 h_18 => ?_)
  obtain ⟨σ_19, hq, h_20⟩ := bd1_some h_18
  refine cl_callI (rest := [.ref (c0 + a_5)]) C G_13 cw_RX10_17 [.int x1, .int x2, .int (σ_6.1 a 2), cl_rf c0 r_16] _ (kc_X9_init l D c0 (by rw [G_13.1]; exact t_7) hq (by rw [G_13.1]; exact t_17)) (Nat.le_of_ble_eq_true rfl) (Nat.le_of_ble_eq_true rfl) rfl rfl hl.1 (Nat.le_of_ble_eq_true rfl) dX10_add_24 (fun T_21 H locs cells slots t_22 hu G_23 => ?_)
  have ha := hu.kind ha (by decide)
  have f3 := f3.up hu (by decide)
  have f4 := f4.up hu (by decide)
  have f5 := f5.up hu (by decide)
  have t_7 := hu.kind t_7 (by decide)
  refine W.eq (g2 := F0 m 27 ls [.ref (c0 + a_5)]) rfl ?_
  refine cl_sealrow (ci := 9) G_23 (by decide) t_7 z_8 h_20 (fun σ_24 T_25 hs t_26 G_27 h_28 => ?_)
  have ha := cl_upS hs ha (by decide)
  have f3 := cl_upSo hs f3 (by decide)
  have f4 := cl_upSo hs f4 (by decide)
  have f5 := cl_upSo hs f5 (by decide)
  have t_26 : (T_25 a_5).1 = 25 := by rw [t_26]
  refine lv_astore (lv' := [(6, .ref (c0 + a_5)), (0, .ref (c0 + a)), (1, .int x1), (2, .int x2), (3, cl_rf c0 x3), (4, cl_rf c0 x4), (5, cl_rf c0 x5)]) C.1 C.2.1 dX10_add_27 hl (by decide) (by first | rfl | (cases x3 <;> cases x4 <;> cases x5 <;> rfl)) (fun ls hl_29 => ?_)
  refine lv_aload_n C.1 C.2.1 dX10_add_29 rfl (lv_at hl_29 1 rfl) ?_
  refine lv_aload C.1 C.2.1 dX10_add_30 (lv_at hl_29 0 rfl) ?_
  refine cp_10_79 (x := (some a_5)) C G_27 ha (cl_RTs t_26) dX10_add_32 (fun H locs G_31 => ?_)
  refine cl_nm G_31 h_28 (fun σ_30 G_32 h_33 => ?_)
  refine lv_aload C.1 C.2.1 dX10_add_35 (lv_at hl_29 0 rfl) ?_
  refine cl_aload_n C.1 C.2.1 dX10_add_37 rfl (lv_at hl_29 4 rfl) ?_
  refine cp_10_24 (x := x3) C G_32 t_26 f3 dX10_add_38 (fun H locs G_35 => ?_)
  refine cl_nm G_35 h_33 (fun σ_34 G_36 h_37 => ?_)
  refine lv_aload C.1 C.2.1 dX10_add_41 (lv_at hl_29 0 rfl) ?_
  refine cl_aload C.1 C.2.1 dX10_add_43 (lv_at hl_29 5 rfl) ?_
  refine cp_10_27 (x := x4) C G_36 t_26 f4 dX10_add_45 (fun H locs G_39 => ?_)
  refine cl_nm G_39 h_37 (fun σ_38 G_40 h_41 => ?_)
  refine lv_aload C.1 C.2.1 dX10_add_48 (lv_at hl_29 0 rfl) ?_
  refine cl_aload C.1 C.2.1 dX10_add_50 (lv_at hl_29 6 rfl) ?_
  refine cp_10_30 (x := x5) C G_40 t_26 f5 dX10_add_52 (fun H locs G_43 => ?_)
  refine cl_nm G_43 h_41 (fun σ_42 G_44 h_45 => ?_)
  refine lv_iload_n C.1 C.2.1 dX10_add_55 rfl (lv_at hl_29 2 rfl) ?_
  refine lv_iload_n C.1 C.2.1 dX10_add_56 rfl (lv_at hl_29 3 rfl) ?_
  refine cl_aload_n C.1 C.2.1 dX10_add_57 rfl (lv_at hl_29 4 rfl) ?_
  refine cl_aload C.1 C.2.1 dX10_add_58 (lv_at hl_29 5 rfl) ?_
  refine cl_aload C.1 C.2.1 dX10_add_60 (lv_at hl_29 6 rfl) ?_
  obtain ⟨r_47, σ_46, hq, h_48⟩ := bd2_some h_45
  refine cl_callS (rest := []) C G_44 cw_RX10_63 [.int x1, .int x2, cl_rf c0 x3, cl_rf c0 x4, cl_rf c0 x5] _ (kc_X10_bucketOf l D c0 hq (by rw [G_44.1]; exact f3) (by rw [G_44.1]; exact f4) (by rw [G_44.1]; exact f5)) (Nat.le_of_ble_eq_true rfl) (Nat.le_of_ble_eq_true rfl) rfl rfl hl_29.1 (Nat.le_of_ble_eq_true rfl) dX10_add_62 (fun T_49 H locs cells slots t_50 hu G_51 => ?_)
  have t_26 := hu.kind t_26 (by decide)
  have ha := hu.kind ha (by decide)
  have f3 := f3.up hu (by decide)
  have f4 := f4.up hu (by decide)
  have f5 := f5.up hu (by decide)
  refine W.eq (g2 := F0 m 65 ls [.int r_47]) rfl ?_
  refine lv_istore (lv' := [(7, .int r_47), (6, .ref (c0 + a_5)), (0, .ref (c0 + a)), (1, .int x1), (2, .int x2), (3, cl_rf c0 x3), (4, cl_rf c0 x4), (5, cl_rf c0 x5)]) C.1 C.2.1 dX10_add_65 hl_29 (by decide) (by first | rfl | (cases x3 <;> cases x4 <;> cases x5 <;> rfl)) (fun ls hl_52 => ?_)
  refine lv_aload C.1 C.2.1 dX10_add_67 (lv_at hl_52 1 rfl) ?_
  refine lv_aload_n C.1 C.2.1 dX10_add_69 rfl (lv_at hl_52 2 rfl) ?_
  refine cg_10_13 C G_51 ha dX10_add_70 (fun t_53 => ?_)
  refine vt_r (K := 4) t_53 h_48 (fun r_54 t_55 h_56 => ?_)
  refine lv_iload C.1 C.2.1 dX10_add_73 (lv_at hl_52 0 rfl) ?_
  obtain ⟨a_57, rfl, h_59⟩ := nn_some h_56
  have t_58 := t_55 _ rfl
  have t_60 : T_49 a_57 = (4, (σ_46.2.2.2.1 a_57).2) := by rw [G_51.1]; exact Prod.ext t_58 rfl
  obtain ⟨hi, h_61⟩ := ix_some h_59
  refine cl_aald C G_51 t_60 (by decide) (by decide) rfl hi dX10_add_75 (fun t_62 => ?_)
  refine vt_r (K := 25) t_62 h_61 (fun r_63 t_64 h_65 => ?_)
  refine cp_10_73 (x := r_63) C G_51 t_26 t_64 dX10_add_76 (fun H locs G_67 => ?_)
  refine cl_nm G_67 h_65 (fun σ_66 G_68 h_69 => ?_)
  refine lv_aload_n C.1 C.2.1 dX10_add_79 rfl (lv_at hl_52 2 rfl) ?_
  refine cg_10_13 C G_68 ha dX10_add_80 (fun t_70 => ?_)
  refine vt_r (K := 4) t_70 h_69 (fun r_71 t_72 h_73 => ?_)
  refine lv_iload C.1 C.2.1 dX10_add_83 (lv_at hl_52 0 rfl) ?_
  refine lv_aload C.1 C.2.1 dX10_add_85 (lv_at hl_52 1 rfl) ?_
  obtain ⟨a_74, rfl, h_76⟩ := nn_some h_73
  have t_75 := t_72 _ rfl
  have t_77 : T_49 a_74 = (4, (σ_66.2.2.2.1 a_74).2) := by rw [G_68.1]; exact Prod.ext t_75 rfl
  obtain ⟨hi, h_79⟩ := ix_some h_76
  refine cl_aast (ci := 9) (x := (some a_5)) C G_68 rfl rfl rfl t_77 (by decide) (by decide) (cl_RTs t_26) hi dX10_add_87 (fun H locs G_80 => ?_)
  refine cl_nm G_80 h_79 (fun σ_78 G_81 h_82 => ?_)
  refine lv_aload_n C.1 C.2.1 dX10_add_88 rfl (lv_at hl_52 2 rfl) ?_
  refine lv_aload C.1 C.2.1 dX10_add_89 (lv_at hl_52 1 rfl) ?_
  obtain ⟨σ_83, hq, h_84⟩ := bd1_some h_82
  refine cl_callV (ci := 10) (rest := []) C G_81 rfl ha cw_RX10_82 [.ref (c0 + a_5)] _ (kc_X10_noteUser l D c0 (by rw [G_81.1]; exact ha) hq (by rw [G_81.1]; exact (cl_RTs t_26))) (Nat.le_of_ble_eq_true rfl) (Nat.le_of_ble_eq_true rfl) rfl rfl hl_52.1 (Nat.le_of_ble_eq_true rfl) dX10_add_91 (fun T_85 H locs cells slots t_86 hu G_87 => ?_)
  have t_26 := hu.kind t_26 (by decide)
  have ha := hu.kind ha (by decide)
  have f3 := f3.up hu (by decide)
  have f4 := f4.up hu (by decide)
  have f5 := f5.up hu (by decide)
  refine W.eq (g2 := F0 m 94 ls []) rfl ?_
  refine lv_aload_n C.1 C.2.1 dX10_add_94 rfl (lv_at hl_52 2 rfl) ?_
  refine lv_iconst (v := (0:Int32)) C.1 C.2.1 dX10_add_95 (by decide) ?_
  refine cp_10_85 C G_87 ha rfl rfl dX10_add_96 (fun H locs G_89 => ?_)
  refine cl_nm G_89 h_84 (fun σ_88 G_90 h_91 => ?_)
  refine lv_aload C.1 C.2.1 dX10_add_99 (lv_at hl_52 1 rfl) ?_
  exact cl_aret (v := (some a_5)) ⟨rfl, rfl⟩ rfl C G_90 h_91 (by first | exact Or.inl ⟨_, rfl⟩ | exact Or.inr ⟨_, rfl⟩) (cl_RTs t_26) dX10_add_101
noncomputable def fc_X10_add (a : Nat) (x1 : Int32) (x2 : Int32) (x3 : (Option Nat)) (x4 : (Option Nat)) (x5 : (Option Nat)) (σ : cl_S) : Option ((Option Nat) × cl_S) := bc_X10_add_0 a x1 x2 x3 x4 x5 σ
theorem kc_X10_add (l : Launch) (D : cl_D) (c0 : Nat) {r : (Option Nat)} {a : Nat} {x1 : Int32} {x2 : Int32} {x3 : (Option Nat)} {x4 : (Option Nat)} {x5 : (Option Nat)} {σ σ' : cl_S} (ha : (σ.2.2.2.1 a).1 = 26) (h : fc_X10_add a x1 x2 x3 x4 x5 σ = some (r, σ')) (f3 : cl_RT σ.2.2.2.1 x3 25) (f4 : cl_RT σ.2.2.2.1 x4 25) (f5 : cl_RT σ.2.2.2.1 x5 25) : cl_Met true l D c0 yX10_add cX10_add 8 (some (.object "PartHouse$Term")) 2 44 [.ref (c0 + a), .int x1, .int x2, cl_rf c0 x3, cl_rf c0 x4, cl_rf c0 x5] σ (some (cl_rf c0 r)) (fun T1 => cl_RT T1 r 25) σ' :=
  by cases x3 <;> cases x4 <;> cases x5 <;> exact cl_of (by decide) (Nat.le_of_ble_eq_true rfl) (fun p e s m args below meth c ls C hn G hl => wc_X10_add_0 C h G ha f3 f4 f5 hl)
abbrev cX8_comeInMade : ByteArray := prog_10_method_8_code
def yX8_comeInMade : MethodName := ⟨RX8, "comeInMade", "(IILPartHouse$Term;LPartHouse$Term;LPartHouse$Term;)I"⟩
theorem dX8_comeInMade_0 : decode cX8_comeInMade 0 = .ok (.aload_n 0, 1) := by decide +kernel
theorem dX8_comeInMade_1 : decode cX8_comeInMade 1 = .ok (.getfield 9, 3) := by decide +kernel
theorem dX8_comeInMade_4 : decode cX8_comeInMade 4 = .ok (.iload_n 1, 1) := by decide +kernel
theorem dX8_comeInMade_5 : decode cX8_comeInMade 5 = .ok (.iload_n 2, 1) := by decide +kernel
theorem dX8_comeInMade_6 : decode cX8_comeInMade 6 = .ok (.aload_n 3, 1) := by decide +kernel
theorem dX8_comeInMade_7 : decode cX8_comeInMade 7 = .ok (.aload 4, 2) := by decide +kernel
theorem dX8_comeInMade_9 : decode cX8_comeInMade 9 = .ok (.aload 5, 2) := by decide +kernel
theorem dX8_comeInMade_11 : decode cX8_comeInMade 11 = .ok (.invokevirtual 67, 3) := by decide +kernel
theorem dX8_comeInMade_14 : decode cX8_comeInMade 14 = .ok (.astore 6, 2) := by decide +kernel
theorem dX8_comeInMade_16 : decode cX8_comeInMade 16 = .ok (.aload 6, 2) := by decide +kernel
theorem dX8_comeInMade_18 : decode cX8_comeInMade 18 = .ok (.aload_n 0, 1) := by decide +kernel
theorem dX8_comeInMade_19 : decode cX8_comeInMade 19 = .ok (.getfield 9, 3) := by decide +kernel
theorem dX8_comeInMade_22 : decode cX8_comeInMade 22 = .ok (.getfield 46, 3) := by decide +kernel
theorem dX8_comeInMade_25 : decode cX8_comeInMade 25 = .ok (.if_acmp .ne 29, 3) := by decide +kernel
theorem dX8_comeInMade_28 : decode cX8_comeInMade 28 = .ok (.aload_n 0, 1) := by decide +kernel
theorem dX8_comeInMade_29 : decode cX8_comeInMade 29 = .ok (.invokevirtual 56, 3) := by decide +kernel
theorem dX8_comeInMade_32 : decode cX8_comeInMade 32 = .ok (.ifCond .eq 6, 3) := by decide +kernel
theorem dX8_comeInMade_35 : decode cX8_comeInMade 35 = .ok (.bipush (-4), 2) := by decide +kernel
theorem dX8_comeInMade_37 : decode cX8_comeInMade 37 = .ok (.ireturn, 1) := by decide +kernel
theorem dX8_comeInMade_38 : decode cX8_comeInMade 38 = .ok (.aload_n 0, 1) := by decide +kernel
theorem dX8_comeInMade_39 : decode cX8_comeInMade 39 = .ok (.getfield 9, 3) := by decide +kernel
theorem dX8_comeInMade_42 : decode cX8_comeInMade 42 = .ok (.iload_n 1, 1) := by decide +kernel
theorem dX8_comeInMade_43 : decode cX8_comeInMade 43 = .ok (.iload_n 2, 1) := by decide +kernel
theorem dX8_comeInMade_44 : decode cX8_comeInMade 44 = .ok (.aload_n 3, 1) := by decide +kernel
theorem dX8_comeInMade_45 : decode cX8_comeInMade 45 = .ok (.aload 4, 2) := by decide +kernel
theorem dX8_comeInMade_47 : decode cX8_comeInMade 47 = .ok (.aload 5, 2) := by decide +kernel
theorem dX8_comeInMade_49 : decode cX8_comeInMade 49 = .ok (.invokevirtual 71, 3) := by decide +kernel
theorem dX8_comeInMade_52 : decode cX8_comeInMade 52 = .ok (.astore 6, 2) := by decide +kernel
theorem dX8_comeInMade_54 : decode cX8_comeInMade 54 = .ok (.aload_n 0, 1) := by decide +kernel
theorem dX8_comeInMade_55 : decode cX8_comeInMade 55 = .ok (.aload 6, 2) := by decide +kernel
theorem dX8_comeInMade_57 : decode cX8_comeInMade 57 = .ok (.invokevirtual 74, 3) := by decide +kernel
theorem dX8_comeInMade_60 : decode cX8_comeInMade 60 = .ok (.ireturn, 1) := by decide +kernel
theorem cc_X8_comeInMade : Cond.code yX8_comeInMade cX8_comeInMade 7 (some .int) ∈ rf_tb := rf_at 1239 (by decide +kernel) (by decide +kernel)
theorem cw_RX8_67 : cl_wV RX8 RX10 yX10_find cX10_find 7 (some (.object "PartHouse$Term")) 67 5 := ⟨⟨rf_at 1240 (by decide +kernel) (by decide +kernel), rf_at 307 (by decide +kernel) (by decide +kernel), rf_at 308 (by decide +kernel) (by decide +kernel), cc_X10_find, rf_at 9 (by decide +kernel) (by decide +kernel)⟩, ⟨by decide, by decide, by decide +kernel⟩⟩
theorem cw_RX8_71 : cl_wV RX8 RX10 yX10_add cX10_add 8 (some (.object "PartHouse$Term")) 71 5 := ⟨⟨rf_at 1241 (by decide +kernel) (by decide +kernel), rf_at 291 (by decide +kernel) (by decide +kernel), rf_at 292 (by decide +kernel) (by decide +kernel), cc_X10_add, rf_at 9 (by decide +kernel) (by decide +kernel)⟩, ⟨by decide, by decide, by decide +kernel⟩⟩
theorem cw_RX8_74 : cl_wV RX8 RX8 yX8_comeIn cX8_comeIn 3 (some .int) 74 1 := ⟨⟨rf_at 1242 (by decide +kernel) (by decide +kernel), rf_at 1214 (by decide +kernel) (by decide +kernel), rf_at 1215 (by decide +kernel) (by decide +kernel), cc_X8_comeIn, rf_at 11 (by decide +kernel) (by decide +kernel)⟩, ⟨by decide, by decide, by decide +kernel⟩⟩
noncomputable def bc_X8_comeInMade_54 (a : Nat) (x6 : (Option Nat)) (σ : cl_S) : Option (Int32 × cl_S) := bd2 (fc_X8_comeIn a x6 σ) (fun r_15 σ_14 => some (r_15, σ_14))
set_option maxHeartbeats 4000000 in
theorem wc_X8_comeInMade_54 (C : cl_C D p s m args meth c cX8_comeInMade 7 (some .int) RX8) {r : Int32} {a : Nat} {x6 : (Option Nat)} {σ0 σ σ' : cl_S} {T : Nat → Nat × Nat} {H : Heap} {locs : List Loc} {ls : Array Slot} {cells slots : Nat} (h : bc_X8_comeInMade_54 a x6 σ = some (r, σ')) (G : cl_G true D c0 ({ frames := 3, cells := σ0.2.2.2.2.2.1, slots := σ0.2.2.2.2.2.2, locals := 71 }) s σ0.2.2.2.1 T σ H locs cells slots) (ha : (T a).1 = 24) (f6 : cl_RT T x6 25) (hl : lv_has ls 7 [(0, .ref (c0 + a)), (6, cl_rf c0 x6)]) : W p l e ({ frames := 3, cells := σ0.2.2.2.2.2.1, slots := σ0.2.2.2.2.2.2, locals := 71 }) s m args below meth c H locs cells slots (MQ below (cl_Q true D c0 (some (.int r)) cl_no σ0 σ') args s (σ0.2.2.2.2.2.1 - σ'.2.2.2.2.2.1) (σ0.2.2.2.2.2.2 - σ'.2.2.2.2.2.2) (cl_A c0 σ0.2.2.2.1 s.heap.size)) (F0 m 54 ls []) := by
  unfold bc_X8_comeInMade_54 at h
  refine lv_aload_n C.1 C.2.1 dX8_comeInMade_54 rfl (lv_at hl 0 rfl) ?_
  refine cl_aload C.1 C.2.1 dX8_comeInMade_55 (lv_at hl 1 rfl) ?_
  obtain ⟨r_15, σ_14, hq, h_16⟩ := bd2_some h
  refine cl_callV (ci := 8) (rest := []) C G rfl ha cw_RX8_74 [cl_rf c0 x6] _ (kc_X8_comeIn l D c0 (by rw [G.1]; exact ha) hq (by rw [G.1]; exact f6)) (Nat.le_of_ble_eq_true rfl) (Nat.le_of_ble_eq_true rfl) rfl rfl hl.1 (Nat.le_of_ble_eq_true rfl) dX8_comeInMade_57 (fun T_17 H locs cells slots t_18 hu G_19 => ?_)
  have ha := hu.kind ha (by decide)
  have f6 := f6.up hu (by decide)
  refine W.eq (g2 := F0 m 60 ls [.int r_15]) rfl ?_
  exact cl_iret ⟨rfl, rfl⟩ rfl C G_19 h_16 dX8_comeInMade_60
noncomputable def bc_X8_comeInMade_0 (a : Nat) (x1 : Int32) (x2 : Int32) (x3 : (Option Nat)) (x4 : (Option Nat)) (x5 : (Option Nat)) (σ : cl_S) : Option (Int32 × cl_S) := bd2 (fc_X10_find 31 x1 x2 x3 x4 x5 σ) (fun r_3 σ_2 => vl (σ_2.2.2.1 31 4) (fun r_11 => (if r_3 = r_11 then bd2 (fc_X8_isFull a σ_2) (fun r_21 σ_20 => (if r_21 = 0 then bd2 (fc_X10_add 31 x1 x2 x3 x4 x5 σ_20) (fun r_28 σ_27 => bc_X8_comeInMade_54 a r_28 σ_27) else some ((-4:Int32), σ_20))) else bc_X8_comeInMade_54 a r_3 σ_2)))
set_option maxHeartbeats 4000000 in
theorem wc_X8_comeInMade_0 (C : cl_C D p s m args meth c cX8_comeInMade 7 (some .int) RX8) {r : Int32} {a : Nat} {x1 : Int32} {x2 : Int32} {x3 : (Option Nat)} {x4 : (Option Nat)} {x5 : (Option Nat)} {σ0 σ σ' : cl_S} {T : Nat → Nat × Nat} {H : Heap} {locs : List Loc} {ls : Array Slot} {cells slots : Nat} (h : bc_X8_comeInMade_0 a x1 x2 x3 x4 x5 σ = some (r, σ')) (G : cl_G true D c0 ({ frames := 3, cells := σ0.2.2.2.2.2.1, slots := σ0.2.2.2.2.2.2, locals := 71 }) s σ0.2.2.2.1 T σ H locs cells slots) (ha : (T a).1 = 24) (f3 : cl_RT T x3 25) (f4 : cl_RT T x4 25) (f5 : cl_RT T x5 25) (hl : lv_has ls 7 [(0, .ref (c0 + a)), (1, .int x1), (2, .int x2), (3, cl_rf c0 x3), (4, cl_rf c0 x4), (5, cl_rf c0 x5)]) : W p l e ({ frames := 3, cells := σ0.2.2.2.2.2.1, slots := σ0.2.2.2.2.2.2, locals := 71 }) s m args below meth c H locs cells slots (MQ below (cl_Q true D c0 (some (.int r)) cl_no σ0 σ') args s (σ0.2.2.2.2.2.1 - σ'.2.2.2.2.2.1) (σ0.2.2.2.2.2.2 - σ'.2.2.2.2.2.2) (cl_A c0 σ0.2.2.2.1 s.heap.size)) (F0 m 0 ls []) := by
  unfold bc_X8_comeInMade_0 at h
  refine lv_aload_n C.1 C.2.1 dX8_comeInMade_0 rfl (lv_at hl 0 rfl) ?_
  refine cg_8_9 C G ha dX8_comeInMade_1 (fun t_1 => ?_)
  have t_1 : (T 31).1 = 26 := by rw [t_1]
  refine lv_iload_n C.1 C.2.1 dX8_comeInMade_4 rfl (lv_at hl 1 rfl) ?_
  refine lv_iload_n C.1 C.2.1 dX8_comeInMade_5 rfl (lv_at hl 2 rfl) ?_
  refine cl_aload_n C.1 C.2.1 dX8_comeInMade_6 rfl (lv_at hl 3 rfl) ?_
  refine cl_aload C.1 C.2.1 dX8_comeInMade_7 (lv_at hl 4 rfl) ?_
  refine cl_aload C.1 C.2.1 dX8_comeInMade_9 (lv_at hl 5 rfl) ?_
  obtain ⟨r_3, σ_2, hq, h_4⟩ := bd2_some h
  refine cl_callV (ci := 10) (rest := []) C G rfl t_1 cw_RX8_67 [.int x1, .int x2, cl_rf c0 x3, cl_rf c0 x4, cl_rf c0 x5] _ (kc_X10_find l D c0 (by rw [G.1]; exact t_1) hq (by rw [G.1]; exact f3) (by rw [G.1]; exact f4) (by rw [G.1]; exact f5)) (Nat.le_of_ble_eq_true rfl) (Nat.le_of_ble_eq_true rfl) rfl rfl hl.1 (Nat.le_of_ble_eq_true rfl) dX8_comeInMade_11 (fun T_5 H locs cells slots t_6 hu G_7 => ?_)
  have ha := hu.kind ha (by decide)
  have f3 := f3.up hu (by decide)
  have f4 := f4.up hu (by decide)
  have f5 := f5.up hu (by decide)
  refine W.eq (g2 := F0 m 14 ls [cl_rf c0 r_3]) rfl ?_
  refine cl_astore (lv' := [(6, cl_rf c0 r_3), (0, .ref (c0 + a)), (1, .int x1), (2, .int x2), (3, cl_rf c0 x3), (4, cl_rf c0 x4), (5, cl_rf c0 x5)]) C.1 C.2.1 dX8_comeInMade_14 hl (by decide) (by first | rfl | (cases x3 <;> cases x4 <;> cases x5 <;> rfl)) (fun ls hl_8 => ?_)
  refine cl_aload C.1 C.2.1 dX8_comeInMade_16 (lv_at hl_8 0 rfl) ?_
  refine lv_aload_n C.1 C.2.1 dX8_comeInMade_18 rfl (lv_at hl_8 1 rfl) ?_
  refine cg_8_9 C G_7 ha dX8_comeInMade_19 (fun t_9 => ?_)
  have t_9 : (T_5 31).1 = 26 := by rw [t_9]
  refine cg_8_46 C G_7 t_9 dX8_comeInMade_22 (fun t_10 => ?_)
  refine vt_r (K := 25) t_10 h_4 (fun r_11 t_12 h_13 => ?_)
  refine cl_acmp_ne (rx := r_3) (ry := r_11) (tgt := 54) C.1 C.2.1 dX8_comeInMade_25 (by decide) (fun hc => ?_) (fun hc => ?_)
  · rw [if_neg hc] at h_13
    exact wc_X8_comeInMade_54 C h_13 G_7 ha t_6 (lv_sub hl_8 [1, 0] rfl)
  · rw [if_pos hc] at h_13
    refine lv_aload_n C.1 C.2.1 dX8_comeInMade_28 rfl (lv_at hl_8 1 rfl) ?_
    obtain ⟨r_21, σ_20, hq, h_22⟩ := bd2_some h_13
    refine cl_callV (ci := 8) (rest := []) C G_7 rfl ha cw_RX8_56 [] _ (kc_X8_isFull l D c0 (by rw [G_7.1]; exact ha) hq) (Nat.le_of_ble_eq_true rfl) (Nat.le_of_ble_eq_true rfl) rfl rfl hl_8.1 (Nat.le_of_ble_eq_true rfl) dX8_comeInMade_29 (fun T_23 H locs cells slots t_24 hu G_25 => ?_)
    have t_6 := t_6.up hu (by decide)
    have ha := hu.kind ha (by decide)
    have f3 := f3.up hu (by decide)
    have f4 := f4.up hu (by decide)
    have f5 := f5.up hu (by decide)
    refine W.eq (g2 := F0 m 32 ls [.int r_21]) rfl ?_
    refine lv_if_eq (tgt := 38) C.1 C.2.1 dX8_comeInMade_32 (by decide) (fun hc => ?_) (fun hc => ?_)
    · rw [if_pos hc] at h_22
      refine lv_aload_n C.1 C.2.1 dX8_comeInMade_38 rfl (lv_at hl_8 1 rfl) ?_
      refine cg_8_9 C G_25 ha dX8_comeInMade_39 (fun t_26 => ?_)
      have t_26 : (T_23 31).1 = 26 := by rw [t_26]
      refine lv_iload_n C.1 C.2.1 dX8_comeInMade_42 rfl (lv_at hl_8 2 rfl) ?_
      refine lv_iload_n C.1 C.2.1 dX8_comeInMade_43 rfl (lv_at hl_8 3 rfl) ?_
      refine cl_aload_n C.1 C.2.1 dX8_comeInMade_44 rfl (lv_at hl_8 4 rfl) ?_
      refine cl_aload C.1 C.2.1 dX8_comeInMade_45 (lv_at hl_8 5 rfl) ?_
      refine cl_aload C.1 C.2.1 dX8_comeInMade_47 (lv_at hl_8 6 rfl) ?_
      obtain ⟨r_28, σ_27, hq, h_29⟩ := bd2_some h_22
      refine cl_callV (ci := 10) (rest := []) C G_25 rfl t_26 cw_RX8_71 [.int x1, .int x2, cl_rf c0 x3, cl_rf c0 x4, cl_rf c0 x5] _ (kc_X10_add l D c0 (by rw [G_25.1]; exact t_26) hq (by rw [G_25.1]; exact f3) (by rw [G_25.1]; exact f4) (by rw [G_25.1]; exact f5)) (Nat.le_of_ble_eq_true rfl) (Nat.le_of_ble_eq_true rfl) rfl rfl hl_8.1 (Nat.le_of_ble_eq_true rfl) dX8_comeInMade_49 (fun T_30 H locs cells slots t_31 hu G_32 => ?_)
      have t_6 := t_6.up hu (by decide)
      have ha := hu.kind ha (by decide)
      have f3 := f3.up hu (by decide)
      have f4 := f4.up hu (by decide)
      have f5 := f5.up hu (by decide)
      refine W.eq (g2 := F0 m 52 ls [cl_rf c0 r_28]) rfl ?_
      refine cl_astore (lv' := [(6, cl_rf c0 r_28), (0, .ref (c0 + a)), (1, .int x1), (2, .int x2), (3, cl_rf c0 x3), (4, cl_rf c0 x4), (5, cl_rf c0 x5)]) C.1 C.2.1 dX8_comeInMade_52 hl_8 (by decide) (by first | rfl | (cases r_3 <;> cases x3 <;> cases x4 <;> cases x5 <;> rfl)) (fun ls hl_33 => ?_)
      exact wc_X8_comeInMade_54 C h_29 G_32 ha t_31 (lv_sub hl_33 [1, 0] rfl)
    · rw [if_neg hc] at h_22
      refine lv_bipush (v := (-4:Int32)) C.1 C.2.1 dX8_comeInMade_35 (by decide) ?_
      exact cl_iret ⟨rfl, rfl⟩ rfl C G_25 h_22 dX8_comeInMade_37
noncomputable def fc_X8_comeInMade (a : Nat) (x1 : Int32) (x2 : Int32) (x3 : (Option Nat)) (x4 : (Option Nat)) (x5 : (Option Nat)) (σ : cl_S) : Option (Int32 × cl_S) := bc_X8_comeInMade_0 a x1 x2 x3 x4 x5 σ
theorem kc_X8_comeInMade (l : Launch) (D : cl_D) (c0 : Nat) {r : Int32} {a : Nat} {x1 : Int32} {x2 : Int32} {x3 : (Option Nat)} {x4 : (Option Nat)} {x5 : (Option Nat)} {σ σ' : cl_S} (ha : (σ.2.2.2.1 a).1 = 24) (h : fc_X8_comeInMade a x1 x2 x3 x4 x5 σ = some (r, σ')) (f3 : cl_RT σ.2.2.2.1 x3 25) (f4 : cl_RT σ.2.2.2.1 x4 25) (f5 : cl_RT σ.2.2.2.1 x5 25) : cl_Met true l D c0 yX8_comeInMade cX8_comeInMade 7 (some .int) 3 71 [.ref (c0 + a), .int x1, .int x2, cl_rf c0 x3, cl_rf c0 x4, cl_rf c0 x5] σ (some (.int r)) cl_no σ' :=
  by cases x3 <;> cases x4 <;> cases x5 <;> exact cl_of (by decide) (Nat.le_of_ble_eq_true rfl) (fun p e s m args below meth c ls C hn G hl => wc_X8_comeInMade_0 C h G ha f3 f4 f5 hl)
abbrev cX10_parts : ByteArray := prog_12_method_2_code
def yX10_parts : MethodName := ⟨RX10, "parts", "(I)I"⟩
theorem dX10_parts_0 : decode cX10_parts 0 = .ok (.iload_n 0, 1) := by decide +kernel
theorem dX10_parts_1 : decode cX10_parts 1 = .ok (.tableswitch 49 3 9 #[45, 43, 45, 43, 45, 47, 45], 43) := by decide +kernel
theorem dX10_parts_44 : decode cX10_parts 44 = .ok (.iconst 1, 1) := by decide +kernel
theorem dX10_parts_45 : decode cX10_parts 45 = .ok (.ireturn, 1) := by decide +kernel
theorem dX10_parts_46 : decode cX10_parts 46 = .ok (.iconst 2, 1) := by decide +kernel
theorem dX10_parts_47 : decode cX10_parts 47 = .ok (.ireturn, 1) := by decide +kernel
theorem dX10_parts_48 : decode cX10_parts 48 = .ok (.iconst 3, 1) := by decide +kernel
theorem dX10_parts_49 : decode cX10_parts 49 = .ok (.ireturn, 1) := by decide +kernel
theorem dX10_parts_50 : decode cX10_parts 50 = .ok (.iconst 0, 1) := by decide +kernel
theorem dX10_parts_51 : decode cX10_parts 51 = .ok (.ireturn, 1) := by decide +kernel
theorem cc_X10_parts : Cond.code yX10_parts cX10_parts 1 (some .int) ∈ rf_tb := rf_at 1249 (by decide +kernel) (by decide +kernel)
noncomputable def bc_X10_parts_0 (x0 : Int32) (σ : cl_S) : Option (Int32 × cl_S) := (if x0 = (3:Int32) then some ((2:Int32), σ) else if x0 = (4:Int32) then some ((1:Int32), σ) else if x0 = (5:Int32) then some ((2:Int32), σ) else if x0 = (6:Int32) then some ((1:Int32), σ) else if x0 = (7:Int32) then some ((2:Int32), σ) else if x0 = (8:Int32) then some ((3:Int32), σ) else if x0 = (9:Int32) then some ((2:Int32), σ) else some ((0:Int32), σ))
set_option maxHeartbeats 4000000 in
theorem wc_X10_parts_0 (C : cl_C D p s m args meth c cX10_parts 1 (some .int) RX10) {r : Int32} {x0 : Int32} {σ0 σ σ' : cl_S} {T : Nat → Nat × Nat} {H : Heap} {locs : List Loc} {ls : Array Slot} {cells slots : Nat} (h : bc_X10_parts_0 x0 σ = some (r, σ')) (G : cl_G true D c0 ({ frames := 0, cells := σ0.2.2.2.2.2.1, slots := σ0.2.2.2.2.2.2, locals := 0 }) s σ0.2.2.2.1 T σ H locs cells slots) (hl : lv_has ls 1 [(0, .int x0)]) : W p l e ({ frames := 0, cells := σ0.2.2.2.2.2.1, slots := σ0.2.2.2.2.2.2, locals := 0 }) s m args below meth c H locs cells slots (MQ below (cl_Q true D c0 (some (.int r)) cl_no σ0 σ') args s (σ0.2.2.2.2.2.1 - σ'.2.2.2.2.2.1) (σ0.2.2.2.2.2.2 - σ'.2.2.2.2.2.2) (cl_A c0 σ0.2.2.2.1 s.heap.size)) (F0 m 0 ls []) := by
  unfold bc_X10_parts_0 at h
  refine lv_iload_n C.1 C.2.1 dX10_parts_0 rfl (lv_at hl 0 rfl) ?_
  by_cases hk3 : x0 = (3:Int32)
  · rw [if_pos hk3] at h
    refine lv_tableIn (tgt := 46) C.1 C.2.1 dX10_parts_1 (by rw [hk3]; decide) (by rw [hk3]; decide) (by rw [hk3]; rfl) (by decide) ?_
    refine lv_iconst (v := (2:Int32)) C.1 C.2.1 dX10_parts_46 (by decide) ?_
    exact cl_iret ⟨rfl, rfl⟩ rfl C G h dX10_parts_47
  rw [if_neg hk3] at h
  by_cases hk4 : x0 = (4:Int32)
  · rw [if_pos hk4] at h
    refine lv_tableIn (tgt := 44) C.1 C.2.1 dX10_parts_1 (by rw [hk4]; decide) (by rw [hk4]; decide) (by rw [hk4]; rfl) (by decide) ?_
    refine lv_iconst (v := (1:Int32)) C.1 C.2.1 dX10_parts_44 (by decide) ?_
    exact cl_iret ⟨rfl, rfl⟩ rfl C G h dX10_parts_45
  rw [if_neg hk4] at h
  by_cases hk5 : x0 = (5:Int32)
  · rw [if_pos hk5] at h
    refine lv_tableIn (tgt := 46) C.1 C.2.1 dX10_parts_1 (by rw [hk5]; decide) (by rw [hk5]; decide) (by rw [hk5]; rfl) (by decide) ?_
    refine lv_iconst (v := (2:Int32)) C.1 C.2.1 dX10_parts_46 (by decide) ?_
    exact cl_iret ⟨rfl, rfl⟩ rfl C G h dX10_parts_47
  rw [if_neg hk5] at h
  by_cases hk6 : x0 = (6:Int32)
  · rw [if_pos hk6] at h
    refine lv_tableIn (tgt := 44) C.1 C.2.1 dX10_parts_1 (by rw [hk6]; decide) (by rw [hk6]; decide) (by rw [hk6]; rfl) (by decide) ?_
    refine lv_iconst (v := (1:Int32)) C.1 C.2.1 dX10_parts_44 (by decide) ?_
    exact cl_iret ⟨rfl, rfl⟩ rfl C G h dX10_parts_45
  rw [if_neg hk6] at h
  by_cases hk7 : x0 = (7:Int32)
  · rw [if_pos hk7] at h
    refine lv_tableIn (tgt := 46) C.1 C.2.1 dX10_parts_1 (by rw [hk7]; decide) (by rw [hk7]; decide) (by rw [hk7]; rfl) (by decide) ?_
    refine lv_iconst (v := (2:Int32)) C.1 C.2.1 dX10_parts_46 (by decide) ?_
    exact cl_iret ⟨rfl, rfl⟩ rfl C G h dX10_parts_47
  rw [if_neg hk7] at h
  by_cases hk8 : x0 = (8:Int32)
  · rw [if_pos hk8] at h
    refine lv_tableIn (tgt := 48) C.1 C.2.1 dX10_parts_1 (by rw [hk8]; decide) (by rw [hk8]; decide) (by rw [hk8]; rfl) (by decide) ?_
    refine lv_iconst (v := (3:Int32)) C.1 C.2.1 dX10_parts_48 (by decide) ?_
    exact cl_iret ⟨rfl, rfl⟩ rfl C G h dX10_parts_49
  rw [if_neg hk8] at h
  by_cases hk9 : x0 = (9:Int32)
  · rw [if_pos hk9] at h
    refine lv_tableIn (tgt := 46) C.1 C.2.1 dX10_parts_1 (by rw [hk9]; decide) (by rw [hk9]; decide) (by rw [hk9]; rfl) (by decide) ?_
    refine lv_iconst (v := (2:Int32)) C.1 C.2.1 dX10_parts_46 (by decide) ?_
    exact cl_iret ⟨rfl, rfl⟩ rfl C G h dX10_parts_47
  rw [if_neg hk9] at h
  refine lv_tableOut (tgt := 50) C.1 C.2.1 dX10_parts_1 ?_ (by decide) ?_
  · rcases Int.lt_or_le x0.toInt 3 with q | q
    · exact Or.inl q
    · rcases Int.lt_or_le 9 x0.toInt with q2 | q2
      · exact Or.inr q2
      · exfalso
        have hd : x0.toInt = (3 : Int) ∨ x0.toInt = (4 : Int) ∨ x0.toInt = (5 : Int) ∨ x0.toInt = (6 : Int) ∨ x0.toInt = (7 : Int) ∨ x0.toInt = (8 : Int) ∨ x0.toInt = (9 : Int) := by omega
        rcases hd with e | e | e | e | e | e | e
        · exact hk3 (Int32.toInt_inj.mp (e.trans (by decide)))
        · exact hk4 (Int32.toInt_inj.mp (e.trans (by decide)))
        · exact hk5 (Int32.toInt_inj.mp (e.trans (by decide)))
        · exact hk6 (Int32.toInt_inj.mp (e.trans (by decide)))
        · exact hk7 (Int32.toInt_inj.mp (e.trans (by decide)))
        · exact hk8 (Int32.toInt_inj.mp (e.trans (by decide)))
        · exact hk9 (Int32.toInt_inj.mp (e.trans (by decide)))
  · refine lv_iconst (v := (0:Int32)) C.1 C.2.1 dX10_parts_50 (by decide) ?_
    exact cl_iret ⟨rfl, rfl⟩ rfl C G h dX10_parts_51
noncomputable def fc_X10_parts (x0 : Int32) (σ : cl_S) : Option (Int32 × cl_S) := bc_X10_parts_0 x0 σ
theorem kc_X10_parts (l : Launch) (D : cl_D) (c0 : Nat) {r : Int32} {x0 : Int32} {σ σ' : cl_S} (h : fc_X10_parts x0 σ = some (r, σ')) : cl_Met true l D c0 yX10_parts cX10_parts 1 (some .int) 0 0 [.int x0] σ (some (.int r)) cl_no σ' :=
  cl_of (by decide) (Nat.le_of_ble_eq_true rfl) (fun p e s m args below meth c ls C hn G hl => wc_X10_parts_0 C h G  hl)
abbrev cX5_makeOf : ByteArray := prog_7_method_20_code
def yX5_makeOf : MethodName := ⟨RX5, "makeOf", "(LPartHouse$Partition;I)I"⟩
theorem dX5_makeOf_0 : decode cX5_makeOf 0 = .ok (.iload_n 2, 1) := by decide +kernel
theorem dX5_makeOf_1 : decode cX5_makeOf 1 = .ok (.invokestatic 343, 3) := by decide +kernel
theorem dX5_makeOf_4 : decode cX5_makeOf 4 = .ok (.istore_n 3, 1) := by decide +kernel
theorem dX5_makeOf_5 : decode cX5_makeOf 5 = .ok (.iconst 1, 1) := by decide +kernel
theorem dX5_makeOf_6 : decode cX5_makeOf 6 = .ok (.istore 4, 2) := by decide +kernel
theorem dX5_makeOf_8 : decode cX5_makeOf 8 = .ok (.iload 4, 2) := by decide +kernel
theorem dX5_makeOf_10 : decode cX5_makeOf 10 = .ok (.iload_n 3, 1) := by decide +kernel
theorem dX5_makeOf_11 : decode cX5_makeOf 11 = .ok (.if_icmp .gt 32, 3) := by decide +kernel
theorem dX5_makeOf_14 : decode cX5_makeOf 14 = .ok (.aload_n 1, 1) := by decide +kernel
theorem dX5_makeOf_15 : decode cX5_makeOf 15 = .ok (.getfield 199, 3) := by decide +kernel
theorem dX5_makeOf_18 : decode cX5_makeOf 18 = .ok (.aload_n 1, 1) := by decide +kernel
theorem dX5_makeOf_19 : decode cX5_makeOf 19 = .ok (.getfield 121, 3) := by decide +kernel
theorem dX5_makeOf_22 : decode cX5_makeOf 22 = .ok (.getfield 193, 3) := by decide +kernel
theorem dX5_makeOf_25 : decode cX5_makeOf 25 = .ok (.iload 4, 2) := by decide +kernel
theorem dX5_makeOf_27 : decode cX5_makeOf 27 = .ok (.iaload, 1) := by decide +kernel
theorem dX5_makeOf_28 : decode cX5_makeOf 28 = .ok (.invokevirtual 335, 3) := by decide +kernel
theorem dX5_makeOf_31 : decode cX5_makeOf 31 = .ok (.ifCond .ne 6, 3) := by decide +kernel
theorem dX5_makeOf_34 : decode cX5_makeOf 34 = .ok (.bipush (-2), 2) := by decide +kernel
theorem dX5_makeOf_36 : decode cX5_makeOf 36 = .ok (.ireturn, 1) := by decide +kernel
theorem dX5_makeOf_37 : decode cX5_makeOf 37 = .ok (.iinc 4 1, 3) := by decide +kernel
theorem dX5_makeOf_40 : decode cX5_makeOf 40 = .ok (.goto (-32), 3) := by decide +kernel
theorem dX5_makeOf_43 : decode cX5_makeOf 43 = .ok (.aload_n 1, 1) := by decide +kernel
theorem dX5_makeOf_44 : decode cX5_makeOf 44 = .ok (.getfield 199, 3) := by decide +kernel
theorem dX5_makeOf_47 : decode cX5_makeOf 47 = .ok (.aload_n 1, 1) := by decide +kernel
theorem dX5_makeOf_48 : decode cX5_makeOf 48 = .ok (.getfield 121, 3) := by decide +kernel
theorem dX5_makeOf_51 : decode cX5_makeOf 51 = .ok (.getfield 193, 3) := by decide +kernel
theorem dX5_makeOf_54 : decode cX5_makeOf 54 = .ok (.iconst 1, 1) := by decide +kernel
theorem dX5_makeOf_55 : decode cX5_makeOf 55 = .ok (.iaload, 1) := by decide +kernel
theorem dX5_makeOf_56 : decode cX5_makeOf 56 = .ok (.invokevirtual 203, 3) := by decide +kernel
theorem dX5_makeOf_59 : decode cX5_makeOf 59 = .ok (.astore 4, 2) := by decide +kernel
theorem dX5_makeOf_61 : decode cX5_makeOf 61 = .ok (.iload_n 3, 1) := by decide +kernel
theorem dX5_makeOf_62 : decode cX5_makeOf 62 = .ok (.iconst 2, 1) := by decide +kernel
theorem dX5_makeOf_63 : decode cX5_makeOf 63 = .ok (.if_icmp .lt 22, 3) := by decide +kernel
theorem dX5_makeOf_66 : decode cX5_makeOf 66 = .ok (.aload_n 1, 1) := by decide +kernel
theorem dX5_makeOf_67 : decode cX5_makeOf 67 = .ok (.getfield 199, 3) := by decide +kernel
theorem dX5_makeOf_70 : decode cX5_makeOf 70 = .ok (.aload_n 1, 1) := by decide +kernel
theorem dX5_makeOf_71 : decode cX5_makeOf 71 = .ok (.getfield 121, 3) := by decide +kernel
theorem dX5_makeOf_74 : decode cX5_makeOf 74 = .ok (.getfield 193, 3) := by decide +kernel
theorem dX5_makeOf_77 : decode cX5_makeOf 77 = .ok (.iconst 2, 1) := by decide +kernel
theorem dX5_makeOf_78 : decode cX5_makeOf 78 = .ok (.iaload, 1) := by decide +kernel
theorem dX5_makeOf_79 : decode cX5_makeOf 79 = .ok (.invokevirtual 203, 3) := by decide +kernel
theorem dX5_makeOf_82 : decode cX5_makeOf 82 = .ok (.goto 10, 3) := by decide +kernel
theorem dX5_makeOf_85 : decode cX5_makeOf 85 = .ok (.aload_n 0, 1) := by decide +kernel
theorem dX5_makeOf_86 : decode cX5_makeOf 86 = .ok (.getfield 51, 3) := by decide +kernel
theorem dX5_makeOf_89 : decode cX5_makeOf 89 = .ok (.getfield 83, 3) := by decide +kernel
theorem dX5_makeOf_92 : decode cX5_makeOf 92 = .ok (.astore 5, 2) := by decide +kernel
theorem dX5_makeOf_94 : decode cX5_makeOf 94 = .ok (.iload_n 3, 1) := by decide +kernel
theorem dX5_makeOf_95 : decode cX5_makeOf 95 = .ok (.iconst 3, 1) := by decide +kernel
theorem dX5_makeOf_96 : decode cX5_makeOf 96 = .ok (.if_icmp .lt 22, 3) := by decide +kernel
theorem dX5_makeOf_99 : decode cX5_makeOf 99 = .ok (.aload_n 1, 1) := by decide +kernel
theorem dX5_makeOf_100 : decode cX5_makeOf 100 = .ok (.getfield 199, 3) := by decide +kernel
theorem dX5_makeOf_103 : decode cX5_makeOf 103 = .ok (.aload_n 1, 1) := by decide +kernel
theorem dX5_makeOf_104 : decode cX5_makeOf 104 = .ok (.getfield 121, 3) := by decide +kernel
theorem dX5_makeOf_107 : decode cX5_makeOf 107 = .ok (.getfield 193, 3) := by decide +kernel
theorem dX5_makeOf_110 : decode cX5_makeOf 110 = .ok (.iconst 3, 1) := by decide +kernel
theorem dX5_makeOf_111 : decode cX5_makeOf 111 = .ok (.iaload, 1) := by decide +kernel
theorem dX5_makeOf_112 : decode cX5_makeOf 112 = .ok (.invokevirtual 203, 3) := by decide +kernel
theorem dX5_makeOf_115 : decode cX5_makeOf 115 = .ok (.goto 10, 3) := by decide +kernel
theorem dX5_makeOf_118 : decode cX5_makeOf 118 = .ok (.aload_n 0, 1) := by decide +kernel
theorem dX5_makeOf_119 : decode cX5_makeOf 119 = .ok (.getfield 51, 3) := by decide +kernel
theorem dX5_makeOf_122 : decode cX5_makeOf 122 = .ok (.getfield 83, 3) := by decide +kernel
theorem dX5_makeOf_125 : decode cX5_makeOf 125 = .ok (.astore 6, 2) := by decide +kernel
theorem dX5_makeOf_127 : decode cX5_makeOf 127 = .ok (.aload_n 1, 1) := by decide +kernel
theorem dX5_makeOf_128 : decode cX5_makeOf 128 = .ok (.getfield 199, 3) := by decide +kernel
theorem dX5_makeOf_131 : decode cX5_makeOf 131 = .ok (.iload_n 2, 1) := by decide +kernel
theorem dX5_makeOf_132 : decode cX5_makeOf 132 = .ok (.iconst 0, 1) := by decide +kernel
theorem dX5_makeOf_133 : decode cX5_makeOf 133 = .ok (.aload 4, 2) := by decide +kernel
theorem dX5_makeOf_135 : decode cX5_makeOf 135 = .ok (.aload 5, 2) := by decide +kernel
theorem dX5_makeOf_137 : decode cX5_makeOf 137 = .ok (.aload 6, 2) := by decide +kernel
theorem dX5_makeOf_139 : decode cX5_makeOf 139 = .ok (.invokevirtual 247, 3) := by decide +kernel
theorem dX5_makeOf_142 : decode cX5_makeOf 142 = .ok (.ireturn, 1) := by decide +kernel
theorem cc_X5_makeOf : Cond.code yX5_makeOf cX5_makeOf 7 (some .int) ∈ rf_tb := rf_at 1246 (by decide +kernel) (by decide +kernel)
theorem cw_RX5_247 : cl_wV RX5 RX8 yX8_comeInMade cX8_comeInMade 7 (some .int) 247 5 := ⟨⟨rf_at 1236 (by decide +kernel) (by decide +kernel), rf_at 1237 (by decide +kernel) (by decide +kernel), rf_at 1238 (by decide +kernel) (by decide +kernel), cc_X8_comeInMade, rf_at 11 (by decide +kernel) (by decide +kernel)⟩, ⟨by decide, by decide, by decide +kernel⟩⟩
theorem cw_RX5_343 : cl_wS RX5 yX10_parts cX10_parts 1 (some .int) 343 1 := ⟨⟨rf_at 1247 (by decide +kernel) (by decide +kernel), rf_at 1248 (by decide +kernel) (by decide +kernel), cc_X10_parts, rf_at 9 (by decide +kernel) (by decide +kernel)⟩, ⟨by decide, by decide, by decide +kernel⟩⟩
noncomputable def lc_X5_makeOf_8 (a : Nat) (x1 : (Option Nat)) (x2 : Int32) (x3 : Int32) (x4 : Int32) (σ : cl_S) : Option ((Int32 × cl_S) ⊕ ((Int32 × cl_S) ⊕ (Int32 × cl_S))) := (if x3 < x4 then some (.inr (.inr (x4, σ))) else nn x1 (fun a_9 => ix x4 16 (bd2 (fc_X8_has (a_9 + 9) (σ.1 ((a_9 + 1) + 2) x4.toNatClampNeg) σ) (fun r_17 σ_16 => (if r_17 = 0 then some (.inr (.inl ((-2:Int32), σ_16))) else vl (x4 + (1:Int32)) (fun x4_22 => some (.inl (x4_22, σ_16))))))))
noncomputable def bc_X5_makeOf_125 (x1 : (Option Nat)) (x2 : Int32) (x4 : (Option Nat)) (x5 : (Option Nat)) (v0 : (Option Nat)) (σ : cl_S) : Option (Int32 × cl_S) := nn x1 (fun a_51 => bd2 (fc_X8_comeInMade (a_51 + 9) x2 (0:Int32) x4 x5 v0 σ) (fun r_56 σ_55 => some (r_56, σ_55)))
set_option maxHeartbeats 4000000 in
theorem wc_X5_makeOf_125 (C : cl_C D p s m args meth c cX5_makeOf 7 (some .int) RX5) {r : Int32} {x1 : (Option Nat)} {x2 : Int32} {x4 : (Option Nat)} {x5 : (Option Nat)} {v0 : (Option Nat)} {σ0 σ σ' : cl_S} {T : Nat → Nat × Nat} {H : Heap} {locs : List Loc} {ls : Array Slot} {cells slots : Nat} (h : bc_X5_makeOf_125 x1 x2 x4 x5 v0 σ = some (r, σ')) (G : cl_G true D c0 ({ frames := 4, cells := σ0.2.2.2.2.2.1, slots := σ0.2.2.2.2.2.2, locals := 97 }) s σ0.2.2.2.1 T σ H locs cells slots) (f1 : cl_RT T x1 22) (f4 : cl_RT T x4 25) (f5 : cl_RT T x5 25) (g0 : cl_RT T v0 25) (hl : lv_has ls 7 [(1, cl_rf c0 x1), (2, .int x2), (4, cl_rf c0 x4), (5, cl_rf c0 x5)]) : W p l e ({ frames := 4, cells := σ0.2.2.2.2.2.1, slots := σ0.2.2.2.2.2.2, locals := 97 }) s m args below meth c H locs cells slots (MQ below (cl_Q true D c0 (some (.int r)) cl_no σ0 σ') args s (σ0.2.2.2.2.2.1 - σ'.2.2.2.2.2.1) (σ0.2.2.2.2.2.2 - σ'.2.2.2.2.2.2) (cl_A c0 σ0.2.2.2.1 s.heap.size)) (F0 m 125 ls [cl_rf c0 v0]) := by
  unfold bc_X5_makeOf_125 at h
  refine cl_astore (lv' := [(6, cl_rf c0 v0), (1, cl_rf c0 x1), (2, .int x2), (4, cl_rf c0 x4), (5, cl_rf c0 x5)]) C.1 C.2.1 dX5_makeOf_125 hl (by decide) (by first | rfl | (cases x1 <;> cases x4 <;> cases x5 <;> rfl)) (fun ls hl_50 => ?_)
  refine cl_aload_n C.1 C.2.1 dX5_makeOf_127 rfl (lv_at hl_50 1 rfl) ?_
  obtain ⟨a_51, rfl, h_53⟩ := nn_some h
  have t_52 := f1 _ rfl
  refine cg_5_199 C G t_52 dX5_makeOf_128 (fun t_54 => ?_)
  have t_54 : (T (a_51 + 9)).1 = 24 := by rw [t_54]
  refine lv_iload_n C.1 C.2.1 dX5_makeOf_131 rfl (lv_at hl_50 2 rfl) ?_
  refine lv_iconst (v := (0:Int32)) C.1 C.2.1 dX5_makeOf_132 (by decide) ?_
  refine cl_aload C.1 C.2.1 dX5_makeOf_133 (lv_at hl_50 3 rfl) ?_
  refine cl_aload C.1 C.2.1 dX5_makeOf_135 (lv_at hl_50 4 rfl) ?_
  refine cl_aload C.1 C.2.1 dX5_makeOf_137 (lv_at hl_50 0 rfl) ?_
  obtain ⟨r_56, σ_55, hq, h_57⟩ := bd2_some h_53
  refine cl_callV (ci := 8) (rest := []) C G rfl t_54 cw_RX5_247 [.int x2, .int (0:Int32), cl_rf c0 x4, cl_rf c0 x5, cl_rf c0 v0] _ (kc_X8_comeInMade l D c0 (by rw [G.1]; exact t_54) hq (by rw [G.1]; exact f4) (by rw [G.1]; exact f5) (by rw [G.1]; exact g0)) (Nat.le_of_ble_eq_true rfl) (Nat.le_of_ble_eq_true rfl) rfl rfl hl_50.1 (Nat.le_of_ble_eq_true rfl) dX5_makeOf_139 (fun T_58 H locs cells slots t_59 hu G_60 => ?_)
  have g0 := g0.up hu (by decide)
  have t_52 := hu.kind t_52 (by decide)
  have f4 := f4.up hu (by decide)
  have f5 := f5.up hu (by decide)
  refine W.eq (g2 := F0 m 142 ls [.int r_56]) rfl ?_
  exact cl_iret ⟨rfl, rfl⟩ rfl C G_60 h_57 dX5_makeOf_142
noncomputable def bc_X5_makeOf_92 (a : Nat) (x1 : (Option Nat)) (x2 : Int32) (x3 : Int32) (x4 : (Option Nat)) (v0 : (Option Nat)) (σ : cl_S) : Option (Int32 × cl_S) := (if x3 < (3:Int32) then vl (σ.2.2.1 31 4) (fun r_47 => bc_X5_makeOf_125 x1 x2 x4 v0 r_47 σ) else nn x1 (fun a_61 => ix (3:Int32) 16 (bd2 (fc_X8_at (a_61 + 9) (σ.1 ((a_61 + 1) + 2) (3:Int32).toNatClampNeg) σ) (fun r_69 σ_68 => bc_X5_makeOf_125 (some a_61) x2 x4 v0 r_69 σ_68))))
set_option maxHeartbeats 4000000 in
theorem wc_X5_makeOf_92 (C : cl_C D p s m args meth c cX5_makeOf 7 (some .int) RX5) {r : Int32} {a : Nat} {x1 : (Option Nat)} {x2 : Int32} {x3 : Int32} {x4 : (Option Nat)} {v0 : (Option Nat)} {σ0 σ σ' : cl_S} {T : Nat → Nat × Nat} {H : Heap} {locs : List Loc} {ls : Array Slot} {cells slots : Nat} (h : bc_X5_makeOf_92 a x1 x2 x3 x4 v0 σ = some (r, σ')) (G : cl_G true D c0 ({ frames := 4, cells := σ0.2.2.2.2.2.1, slots := σ0.2.2.2.2.2.2, locals := 97 }) s σ0.2.2.2.1 T σ H locs cells slots) (ha : (T a).1 = 21) (f1 : cl_RT T x1 22) (f4 : cl_RT T x4 25) (g0 : cl_RT T v0 25) (hl : lv_has ls 7 [(0, .ref (c0 + a)), (1, cl_rf c0 x1), (2, .int x2), (3, .int x3), (4, cl_rf c0 x4)]) : W p l e ({ frames := 4, cells := σ0.2.2.2.2.2.1, slots := σ0.2.2.2.2.2.2, locals := 97 }) s m args below meth c H locs cells slots (MQ below (cl_Q true D c0 (some (.int r)) cl_no σ0 σ') args s (σ0.2.2.2.2.2.1 - σ'.2.2.2.2.2.1) (σ0.2.2.2.2.2.2 - σ'.2.2.2.2.2.2) (cl_A c0 σ0.2.2.2.1 s.heap.size)) (F0 m 92 ls [cl_rf c0 v0]) := by
  unfold bc_X5_makeOf_92 at h
  refine cl_astore (lv' := [(5, cl_rf c0 v0), (0, .ref (c0 + a)), (1, cl_rf c0 x1), (2, .int x2), (3, .int x3), (4, cl_rf c0 x4)]) C.1 C.2.1 dX5_makeOf_92 hl (by decide) (by first | rfl | (cases x1 <;> cases x4 <;> rfl)) (fun ls hl_44 => ?_)
  refine lv_iload_n C.1 C.2.1 dX5_makeOf_94 rfl (lv_at hl_44 4 rfl) ?_
  refine lv_iconst (v := (3:Int32)) C.1 C.2.1 dX5_makeOf_95 (by decide) ?_
  refine lv_icmp_lt (tgt := 118) C.1 C.2.1 dX5_makeOf_96 (by decide) (fun hc => ?_) (fun hc => ?_)
  · rw [if_pos hc] at h
    refine lv_aload_n C.1 C.2.1 dX5_makeOf_118 rfl (lv_at hl_44 1 rfl) ?_
    refine cg_5_51 C G ha dX5_makeOf_119 (fun t_45 => ?_)
    have t_45 : (T 31).1 = 26 := by rw [t_45]
    refine cg_5_83 C G t_45 dX5_makeOf_122 (fun t_46 => ?_)
    refine vt_r (K := 25) t_46 h (fun r_47 t_48 h_49 => ?_)
    exact wc_X5_makeOf_125 C h_49 G f1 f4 g0 t_48 (lv_sub hl_44 [2, 3, 5, 0] rfl)
  · rw [if_neg hc] at h
    refine cl_aload_n C.1 C.2.1 dX5_makeOf_99 rfl (lv_at hl_44 2 rfl) ?_
    obtain ⟨a_61, rfl, h_63⟩ := nn_some h
    have t_62 := f1 _ rfl
    refine cg_5_199 C G t_62 dX5_makeOf_100 (fun t_64 => ?_)
    have t_64 : (T (a_61 + 9)).1 = 24 := by rw [t_64]
    refine lv_aload_n C.1 C.2.1 dX5_makeOf_103 rfl (lv_at hl_44 2 rfl) ?_
    refine cg_5_121 C G t_62 dX5_makeOf_104 (fun t_65 => ?_)
    have t_65 : (T (a_61 + 1)).1 = 18 := by rw [t_65]
    refine cg_5_193 C G t_65 dX5_makeOf_107 (fun t_66 => ?_)
    refine lv_iconst (v := (3:Int32)) C.1 C.2.1 dX5_makeOf_110 (by decide) ?_
    obtain ⟨hi, h_67⟩ := ix_some h_63
    refine cl_iald C G t_66 hi dX5_makeOf_111 ?_
    obtain ⟨r_69, σ_68, hq, h_70⟩ := bd2_some h_67
    refine cl_callV (ci := 8) (rest := []) C G rfl t_64 cw_RX5_203 [.int (σ.1 ((a_61 + 1) + 2) (3:Int32).toNatClampNeg)] _ (kc_X8_at l D c0 (by rw [G.1]; exact t_64) hq) (Nat.le_of_ble_eq_true rfl) (Nat.le_of_ble_eq_true rfl) rfl rfl hl_44.1 (Nat.le_of_ble_eq_true rfl) dX5_makeOf_112 (fun T_71 H locs cells slots t_72 hu G_73 => ?_)
    have g0 := g0.up hu (by decide)
    have ha := hu.kind ha (by decide)
    have t_62 := hu.kind t_62 (by decide)
    have f4 := f4.up hu (by decide)
    refine W.eq (g2 := F0 m 115 ls [cl_rf c0 r_69]) rfl ?_
    refine lv_goto (tgt := 125) C.1 C.2.1 dX5_makeOf_115 (by decide) ?_
    exact wc_X5_makeOf_125 C h_70 G_73 (cl_RTs t_62) f4 g0 t_72 (lv_sub hl_44 [2, 3, 5, 0] rfl)
noncomputable def ec_X5_makeOf_8 (a : Nat) (x1 : (Option Nat)) (x2 : Int32) (x3 : Int32) (x4 : Int32) (σ : cl_S) : Option (Int32 × cl_S) := nn x1 (fun a_25 => ix (1:Int32) 16 (bd2 (fc_X8_at (a_25 + 9) (σ.1 ((a_25 + 1) + 2) (1:Int32).toNatClampNeg) σ) (fun r_33 σ_32 => (if x3 < (2:Int32) then vl (σ_32.2.2.1 31 4) (fun r_41 => bc_X5_makeOf_92 a (some a_25) x2 x3 r_33 r_41 σ_32) else ix (2:Int32) 16 (bd2 (fc_X8_at (a_25 + 9) (σ_32.1 ((a_25 + 1) + 2) (2:Int32).toNatClampNeg) σ_32) (fun r_79 σ_78 => bc_X5_makeOf_92 a (some a_25) x2 x3 r_33 r_79 σ_78))))))
noncomputable def bc_X5_makeOf_8 (a : Nat) (x1 : (Option Nat)) (x2 : Int32) (x3 : Int32) (x4 : Int32) (σ : cl_S) : Option (Int32 × cl_S) := (lp (fun z : (Int32 × cl_S) => lc_X5_makeOf_8 a x1 x2 x3 z.1 z.2) (x4, σ)).bind (fun y => Sum.elim (fun z => some z) (fun z => ec_X5_makeOf_8 a x1 x2 x3 z.1 z.2) y)
set_option maxHeartbeats 4000000 in
theorem wc_X5_makeOf_8 (C : cl_C D p s m args meth c cX5_makeOf 7 (some .int) RX5) {r : Int32} {a : Nat} {x1 : (Option Nat)} {x2 : Int32} {x3 : Int32} {x4 : Int32} {σ0 σ σ' : cl_S} {T : Nat → Nat × Nat} {H : Heap} {locs : List Loc} {ls : Array Slot} {cells slots : Nat} (h : bc_X5_makeOf_8 a x1 x2 x3 x4 σ = some (r, σ')) (G : cl_G true D c0 ({ frames := 4, cells := σ0.2.2.2.2.2.1, slots := σ0.2.2.2.2.2.2, locals := 97 }) s σ0.2.2.2.1 T σ H locs cells slots) (ha : (T a).1 = 21) (f1 : cl_RT T x1 22) (hl : lv_has ls 7 [(0, .ref (c0 + a)), (1, cl_rf c0 x1), (2, .int x2), (3, .int x3), (4, .int x4)]) : W p l e ({ frames := 4, cells := σ0.2.2.2.2.2.1, slots := σ0.2.2.2.2.2.2, locals := 97 }) s m args below meth c H locs cells slots (MQ below (cl_Q true D c0 (some (.int r)) cl_no σ0 σ') args s (σ0.2.2.2.2.2.1 - σ'.2.2.2.2.2.1) (σ0.2.2.2.2.2.2 - σ'.2.2.2.2.2.2) (cl_A c0 σ0.2.2.2.1 s.heap.size)) (F0 m 8 ls []) := by
  unfold bc_X5_makeOf_8 at h
  obtain ⟨y, hy, h⟩ := bd_some h
  have hE : (Sum.elim (fun z : Int32 × cl_S => z = (r, σ')) (fun z : (Int32 × cl_S) => ∀ (T : Nat → Nat × Nat) (H : Heap) (locs : List Loc) (ls : Array Slot) (cells slots : Nat), cl_G true D c0 ({ frames := 4, cells := σ0.2.2.2.2.2.1, slots := σ0.2.2.2.2.2.2, locals := 97 }) s σ0.2.2.2.1 T z.2 H locs cells slots → (T a).1 = 21 → cl_RT T x1 22 → lv_has ls 7 [(0, .ref (c0 + a)), (1, cl_rf c0 x1), (2, .int x2), (3, .int x3), (4, .int (z.1))] → W p l e ({ frames := 4, cells := σ0.2.2.2.2.2.1, slots := σ0.2.2.2.2.2.2, locals := 97 }) s m args below meth c H locs cells slots (MQ below (cl_Q true D c0 (some (.int r)) cl_no σ0 σ') args s (σ0.2.2.2.2.2.1 - σ'.2.2.2.2.2.1) (σ0.2.2.2.2.2.2 - σ'.2.2.2.2.2.2) (cl_A c0 σ0.2.2.2.1 s.heap.size)) (F0 m 43 ls []))) y := by
    clear hy G ha f1 hl
    cases y with
    | inl z =>
      exact Option.some.inj h
    | inr z =>
      intro T H locs ls cells slots G ha f1 hl
      have h := se_r h
      obtain ⟨x4, σ⟩ := z
      dsimp only at h G ha f1 hl
      unfold ec_X5_makeOf_8 at h
      refine cl_aload_n C.1 C.2.1 dX5_makeOf_43 rfl (lv_at hl 1 rfl) ?_
      obtain ⟨a_25, rfl, h_27⟩ := nn_some h
      have t_26 := f1 _ rfl
      refine cg_5_199 C G t_26 dX5_makeOf_44 (fun t_28 => ?_)
      have t_28 : (T (a_25 + 9)).1 = 24 := by rw [t_28]
      refine lv_aload_n C.1 C.2.1 dX5_makeOf_47 rfl (lv_at hl 1 rfl) ?_
      refine cg_5_121 C G t_26 dX5_makeOf_48 (fun t_29 => ?_)
      have t_29 : (T (a_25 + 1)).1 = 18 := by rw [t_29]
      refine cg_5_193 C G t_29 dX5_makeOf_51 (fun t_30 => ?_)
      refine lv_iconst (v := (1:Int32)) C.1 C.2.1 dX5_makeOf_54 (by decide) ?_
      obtain ⟨hi, h_31⟩ := ix_some h_27
      refine cl_iald C G t_30 hi dX5_makeOf_55 ?_
      obtain ⟨r_33, σ_32, hq, h_34⟩ := bd2_some h_31
      refine cl_callV (ci := 8) (rest := []) C G rfl t_28 cw_RX5_203 [.int (σ.1 ((a_25 + 1) + 2) (1:Int32).toNatClampNeg)] _ (kc_X8_at l D c0 (by rw [G.1]; exact t_28) hq) (Nat.le_of_ble_eq_true rfl) (Nat.le_of_ble_eq_true rfl) rfl rfl hl.1 (Nat.le_of_ble_eq_true rfl) dX5_makeOf_56 (fun T_35 H locs cells slots t_36 hu G_37 => ?_)
      have ha := hu.kind ha (by decide)
      have t_26 := hu.kind t_26 (by decide)
      refine W.eq (g2 := F0 m 59 ls [cl_rf c0 r_33]) rfl ?_
      refine cl_astore (lv' := [(4, cl_rf c0 r_33), (0, .ref (c0 + a)), (1, .ref (c0 + a_25)), (2, .int x2), (3, .int x3)]) C.1 C.2.1 dX5_makeOf_59 hl (by decide) rfl (fun ls hl_38 => ?_)
      refine lv_iload_n C.1 C.2.1 dX5_makeOf_61 rfl (lv_at hl_38 4 rfl) ?_
      refine lv_iconst (v := (2:Int32)) C.1 C.2.1 dX5_makeOf_62 (by decide) ?_
      refine lv_icmp_lt (tgt := 85) C.1 C.2.1 dX5_makeOf_63 (by decide) (fun hc => ?_) (fun hc => ?_)
      · rw [if_pos hc] at h_34
        refine lv_aload_n C.1 C.2.1 dX5_makeOf_85 rfl (lv_at hl_38 1 rfl) ?_
        refine cg_5_51 C G_37 ha dX5_makeOf_86 (fun t_39 => ?_)
        have t_39 : (T_35 31).1 = 26 := by rw [t_39]
        refine cg_5_83 C G_37 t_39 dX5_makeOf_89 (fun t_40 => ?_)
        refine vt_r (K := 25) t_40 h_34 (fun r_41 t_42 h_43 => ?_)
        exact wc_X5_makeOf_92 C h_43 G_37 ha (cl_RTs t_26) t_36 t_42 (lv_sub hl_38 [1, 2, 3, 4, 0] rfl)
      · rw [if_neg hc] at h_34
        refine lv_aload_n C.1 C.2.1 dX5_makeOf_66 rfl (lv_at hl_38 2 rfl) ?_
        refine cg_5_199 C G_37 t_26 dX5_makeOf_67 (fun t_74 => ?_)
        have t_74 : (T_35 (a_25 + 9)).1 = 24 := by rw [t_74]
        refine lv_aload_n C.1 C.2.1 dX5_makeOf_70 rfl (lv_at hl_38 2 rfl) ?_
        refine cg_5_121 C G_37 t_26 dX5_makeOf_71 (fun t_75 => ?_)
        have t_75 : (T_35 (a_25 + 1)).1 = 18 := by rw [t_75]
        refine cg_5_193 C G_37 t_75 dX5_makeOf_74 (fun t_76 => ?_)
        refine lv_iconst (v := (2:Int32)) C.1 C.2.1 dX5_makeOf_77 (by decide) ?_
        obtain ⟨hi, h_77⟩ := ix_some h_34
        refine cl_iald C G_37 t_76 hi dX5_makeOf_78 ?_
        obtain ⟨r_79, σ_78, hq, h_80⟩ := bd2_some h_77
        refine cl_callV (ci := 8) (rest := []) C G_37 rfl t_74 cw_RX5_203 [.int (σ_32.1 ((a_25 + 1) + 2) (2:Int32).toNatClampNeg)] _ (kc_X8_at l D c0 (by rw [G_37.1]; exact t_74) hq) (Nat.le_of_ble_eq_true rfl) (Nat.le_of_ble_eq_true rfl) rfl rfl hl_38.1 (Nat.le_of_ble_eq_true rfl) dX5_makeOf_79 (fun T_81 H locs cells slots t_82 hu G_83 => ?_)
        have t_36 := t_36.up hu (by decide)
        have ha := hu.kind ha (by decide)
        have t_26 := hu.kind t_26 (by decide)
        refine W.eq (g2 := F0 m 82 ls [cl_rf c0 r_79]) rfl ?_
        refine lv_goto (tgt := 92) C.1 C.2.1 dX5_makeOf_82 (by decide) ?_
        exact wc_X5_makeOf_92 C h_80 G_83 ha (cl_RTs t_26) t_36 t_82 (lv_sub hl_38 [1, 2, 3, 4, 0] rfl)
  refine lp_recE (fun z : (Int32 × cl_S) => ∀ (T : Nat → Nat × Nat) (H : Heap) (locs : List Loc) (ls : Array Slot) (cells slots : Nat), cl_G true D c0 ({ frames := 4, cells := σ0.2.2.2.2.2.1, slots := σ0.2.2.2.2.2.2, locals := 97 }) s σ0.2.2.2.1 T z.2 H locs cells slots → (T a).1 = 21 → cl_RT T x1 22 → lv_has ls 7 [(0, .ref (c0 + a)), (1, cl_rf c0 x1), (2, .int x2), (3, .int x3), (4, .int (z.1))] → W p l e ({ frames := 4, cells := σ0.2.2.2.2.2.1, slots := σ0.2.2.2.2.2.2, locals := 97 }) s m args below meth c H locs cells slots (MQ below (cl_Q true D c0 (some (.int r)) cl_no σ0 σ') args s (σ0.2.2.2.2.2.1 - σ'.2.2.2.2.2.1) (σ0.2.2.2.2.2.2 - σ'.2.2.2.2.2.2) (cl_A c0 σ0.2.2.2.1 s.heap.size)) (F0 m 8 ls [])) (Sum.elim (fun z : Int32 × cl_S => z = (r, σ')) (fun z : (Int32 × cl_S) => ∀ (T : Nat → Nat × Nat) (H : Heap) (locs : List Loc) (ls : Array Slot) (cells slots : Nat), cl_G true D c0 ({ frames := 4, cells := σ0.2.2.2.2.2.1, slots := σ0.2.2.2.2.2.2, locals := 97 }) s σ0.2.2.2.1 T z.2 H locs cells slots → (T a).1 = 21 → cl_RT T x1 22 → lv_has ls 7 [(0, .ref (c0 + a)), (1, cl_rf c0 x1), (2, .int x2), (3, .int x3), (4, .int (z.1))] → W p l e ({ frames := 4, cells := σ0.2.2.2.2.2.1, slots := σ0.2.2.2.2.2.2, locals := 97 }) s m args below meth c H locs cells slots (MQ below (cl_Q true D c0 (some (.int r)) cl_no σ0 σ') args s (σ0.2.2.2.2.2.1 - σ'.2.2.2.2.2.1) (σ0.2.2.2.2.2.2 - σ'.2.2.2.2.2.2) (cl_A c0 σ0.2.2.2.1 s.heap.size)) (F0 m 43 ls []))) ?_ _ _ hy hE _ _ _ _ _ _ G ha f1 hl
  clear hE hy G ha f1 hl h
  intro z o h hP T H locs ls cells slots G ha f1 hl
  obtain ⟨x4, σ⟩ := z
  dsimp only at h G ha f1 hl
  unfold lc_X5_makeOf_8 at h
  refine lv_iload C.1 C.2.1 dX5_makeOf_8 (lv_at hl 4 rfl) ?_
  refine lv_iload_n C.1 C.2.1 dX5_makeOf_10 rfl (lv_at hl 3 rfl) ?_
  refine lv_icmp_gt (tgt := 43) C.1 C.2.1 dX5_makeOf_11 (by decide) (fun hc => ?_) (fun hc => ?_)
  · rw [if_pos hc] at h
    cases h
    exact hP _ _ _ _ _ _ G ha f1 (lv_sub hl [0, 1, 2, 3, 4] rfl)
  · rw [if_neg hc] at h
    refine cl_aload_n C.1 C.2.1 dX5_makeOf_14 rfl (lv_at hl 1 rfl) ?_
    obtain ⟨a_9, rfl, h_11⟩ := nn_some h
    have t_10 := f1 _ rfl
    refine cg_5_199 C G t_10 dX5_makeOf_15 (fun t_12 => ?_)
    have t_12 : (T (a_9 + 9)).1 = 24 := by rw [t_12]
    refine lv_aload_n C.1 C.2.1 dX5_makeOf_18 rfl (lv_at hl 1 rfl) ?_
    refine cg_5_121 C G t_10 dX5_makeOf_19 (fun t_13 => ?_)
    have t_13 : (T (a_9 + 1)).1 = 18 := by rw [t_13]
    refine cg_5_193 C G t_13 dX5_makeOf_22 (fun t_14 => ?_)
    refine lv_iload C.1 C.2.1 dX5_makeOf_25 (lv_at hl 4 rfl) ?_
    obtain ⟨hi, h_15⟩ := ix_some h_11
    refine cl_iald C G t_14 hi dX5_makeOf_27 ?_
    obtain ⟨r_17, σ_16, hq, h_18⟩ := bd2_some h_15
    refine cl_callV (ci := 8) (rest := []) C G rfl t_12 cw_RX5_335 [.int (σ.1 ((a_9 + 1) + 2) x4.toNatClampNeg)] _ (kc_X8_has l D c0 (by rw [G.1]; exact t_12) hq) (Nat.le_of_ble_eq_true rfl) (Nat.le_of_ble_eq_true rfl) rfl rfl hl.1 (Nat.le_of_ble_eq_true rfl) dX5_makeOf_28 (fun T_19 H locs cells slots t_20 hu G_21 => ?_)
    have ha := hu.kind ha (by decide)
    have t_10 := hu.kind t_10 (by decide)
    refine W.eq (g2 := F0 m 31 ls [.int r_17]) rfl ?_
    refine lv_if_ne (tgt := 37) C.1 C.2.1 dX5_makeOf_31 (by decide) (fun hc => ?_) (fun hc => ?_)
    · rw [if_neg hc] at h_18
      refine vl_ex h_18 (fun x4_22 ey h_23 => ?_)
      refine lv_iinc (v := x4_22) (lv' := [(4, .int x4_22), (0, .ref (c0 + a)), (1, .ref (c0 + a_9)), (2, .int x2), (3, .int x3)]) C.1 C.2.1 dX5_makeOf_37 hl (k := 4) rfl (by rw [ey]; rfl) (by decide) rfl (fun ls hl_24 => ?_)
      refine lv_goto (tgt := 8) C.1 C.2.1 dX5_makeOf_40 (by decide) ?_
      cases h_23
      exact hP _ _ _ _ _ _ G_21 ha (cl_RTs t_10) (lv_sub hl_24 [1, 2, 3, 4, 0] rfl)
    · rw [if_pos hc] at h_18
      refine lv_bipush (v := (-2:Int32)) C.1 C.2.1 dX5_makeOf_34 (by decide) ?_
      cases h_18
      have hP := congrArg some hP
      exact cl_iret ⟨rfl, rfl⟩ rfl C G_21 hP dX5_makeOf_36
noncomputable def bc_X5_makeOf_0 (a : Nat) (x1 : (Option Nat)) (x2 : Int32) (σ : cl_S) : Option (Int32 × cl_S) := bd2 (fc_X10_parts x2 σ) (fun r_2 σ_1 => bc_X5_makeOf_8 a x1 x2 r_2 (1:Int32) σ_1)
set_option maxHeartbeats 4000000 in
theorem wc_X5_makeOf_0 (C : cl_C D p s m args meth c cX5_makeOf 7 (some .int) RX5) {r : Int32} {a : Nat} {x1 : (Option Nat)} {x2 : Int32} {σ0 σ σ' : cl_S} {T : Nat → Nat × Nat} {H : Heap} {locs : List Loc} {ls : Array Slot} {cells slots : Nat} (h : bc_X5_makeOf_0 a x1 x2 σ = some (r, σ')) (G : cl_G true D c0 ({ frames := 4, cells := σ0.2.2.2.2.2.1, slots := σ0.2.2.2.2.2.2, locals := 97 }) s σ0.2.2.2.1 T σ H locs cells slots) (ha : (T a).1 = 21) (f1 : cl_RT T x1 22) (hl : lv_has ls 7 [(0, .ref (c0 + a)), (1, cl_rf c0 x1), (2, .int x2)]) : W p l e ({ frames := 4, cells := σ0.2.2.2.2.2.1, slots := σ0.2.2.2.2.2.2, locals := 97 }) s m args below meth c H locs cells slots (MQ below (cl_Q true D c0 (some (.int r)) cl_no σ0 σ') args s (σ0.2.2.2.2.2.1 - σ'.2.2.2.2.2.1) (σ0.2.2.2.2.2.2 - σ'.2.2.2.2.2.2) (cl_A c0 σ0.2.2.2.1 s.heap.size)) (F0 m 0 ls []) := by
  unfold bc_X5_makeOf_0 at h
  refine lv_iload_n C.1 C.2.1 dX5_makeOf_0 rfl (lv_at hl 2 rfl) ?_
  obtain ⟨r_2, σ_1, hq, h_3⟩ := bd2_some h
  refine cl_callS (rest := []) C G cw_RX5_343 [.int x2] _ (kc_X10_parts l D c0 hq) (Nat.le_of_ble_eq_true rfl) (Nat.le_of_ble_eq_true rfl) rfl rfl hl.1 (Nat.le_of_ble_eq_true rfl) dX5_makeOf_1 (fun T_4 H locs cells slots t_5 hu G_6 => ?_)
  have ha := hu.kind ha (by decide)
  have f1 := f1.up hu (by decide)
  refine W.eq (g2 := F0 m 4 ls [.int r_2]) rfl ?_
  refine lv_istore_n (lv' := [(3, .int r_2), (0, .ref (c0 + a)), (1, cl_rf c0 x1), (2, .int x2)]) C.1 C.2.1 dX5_makeOf_4 rfl hl (by decide) (by first | rfl | (cases x1 <;> rfl)) (fun ls hl_7 => ?_)
  refine lv_iconst (v := (1:Int32)) C.1 C.2.1 dX5_makeOf_5 (by decide) ?_
  refine lv_istore (lv' := [(4, .int (1:Int32)), (3, .int r_2), (0, .ref (c0 + a)), (1, cl_rf c0 x1), (2, .int x2)]) C.1 C.2.1 dX5_makeOf_6 hl_7 (by decide) (by first | rfl | (cases x1 <;> rfl)) (fun ls hl_8 => ?_)
  exact wc_X5_makeOf_8 C h_3 G_6 ha f1 (lv_sub hl_8 [2, 3, 4, 1, 0] rfl)
noncomputable def fc_X5_makeOf (a : Nat) (x1 : (Option Nat)) (x2 : Int32) (σ : cl_S) : Option (Int32 × cl_S) := bc_X5_makeOf_0 a x1 x2 σ
theorem kc_X5_makeOf (l : Launch) (D : cl_D) (c0 : Nat) {r : Int32} {a : Nat} {x1 : (Option Nat)} {x2 : Int32} {σ σ' : cl_S} (ha : (σ.2.2.2.1 a).1 = 21) (h : fc_X5_makeOf a x1 x2 σ = some (r, σ')) (f1 : cl_RT σ.2.2.2.1 x1 22) : cl_Met true l D c0 yX5_makeOf cX5_makeOf 7 (some .int) 4 97 [.ref (c0 + a), cl_rf c0 x1, .int x2] σ (some (.int r)) cl_no σ' :=
  by cases x1 <;> exact cl_of (by decide) (Nat.le_of_ble_eq_true rfl) (fun p e s m args below meth c ls C hn G hl => wc_X5_makeOf_0 C h G ha f1 hl)
abbrev cX10_newSecret : ByteArray := prog_12_method_9_code
def yX10_newSecret : MethodName := ⟨RX10, "newSecret", "()LPartHouse$Term;"⟩
theorem dX10_newSecret_0 : decode cX10_newSecret 0 = .ok (.aload_n 0, 1) := by decide +kernel
theorem dX10_newSecret_1 : decode cX10_newSecret 1 = .ok (.iconst 2, 1) := by decide +kernel
theorem dX10_newSecret_2 : decode cX10_newSecret 2 = .ok (.aload_n 0, 1) := by decide +kernel
theorem dX10_newSecret_3 : decode cX10_newSecret 3 = .ok (.getfield 108, 3) := by decide +kernel
theorem dX10_newSecret_6 : decode cX10_newSecret 6 = .ok (.aload_n 0, 1) := by decide +kernel
theorem dX10_newSecret_7 : decode cX10_newSecret 7 = .ok (.getfield 20, 3) := by decide +kernel
theorem dX10_newSecret_10 : decode cX10_newSecret 10 = .ok (.aload_n 0, 1) := by decide +kernel
theorem dX10_newSecret_11 : decode cX10_newSecret 11 = .ok (.getfield 20, 3) := by decide +kernel
theorem dX10_newSecret_14 : decode cX10_newSecret 14 = .ok (.aload_n 0, 1) := by decide +kernel
theorem dX10_newSecret_15 : decode cX10_newSecret 15 = .ok (.getfield 20, 3) := by decide +kernel
theorem dX10_newSecret_18 : decode cX10_newSecret 18 = .ok (.invokevirtual 105, 3) := by decide +kernel
theorem dX10_newSecret_21 : decode cX10_newSecret 21 = .ok (.astore_n 1, 1) := by decide +kernel
theorem dX10_newSecret_22 : decode cX10_newSecret 22 = .ok (.aload_n 0, 1) := by decide +kernel
theorem dX10_newSecret_23 : decode cX10_newSecret 23 = .ok (.dup, 1) := by decide +kernel
theorem dX10_newSecret_24 : decode cX10_newSecret 24 = .ok (.getfield 108, 3) := by decide +kernel
theorem dX10_newSecret_27 : decode cX10_newSecret 27 = .ok (.iconst 1, 1) := by decide +kernel
theorem dX10_newSecret_28 : decode cX10_newSecret 28 = .ok (.iadd, 1) := by decide +kernel
theorem dX10_newSecret_29 : decode cX10_newSecret 29 = .ok (.putfield 108, 3) := by decide +kernel
theorem dX10_newSecret_32 : decode cX10_newSecret 32 = .ok (.aload_n 1, 1) := by decide +kernel
theorem dX10_newSecret_33 : decode cX10_newSecret 33 = .ok (.areturn, 1) := by decide +kernel
theorem cc_X10_newSecret : Cond.code yX10_newSecret cX10_newSecret 2 (some (.object "PartHouse$Term")) ∈ rf_tb := rf_at 289 (by decide +kernel) (by decide +kernel)
theorem cw_RX10_105 : cl_wV RX10 RX10 yX10_add cX10_add 8 (some (.object "PartHouse$Term")) 105 5 := ⟨⟨rf_at 290 (by decide +kernel) (by decide +kernel), rf_at 291 (by decide +kernel) (by decide +kernel), rf_at 292 (by decide +kernel) (by decide +kernel), cc_X10_add, rf_at 9 (by decide +kernel) (by decide +kernel)⟩, ⟨by decide, by decide, by decide +kernel⟩⟩
noncomputable def bc_X10_newSecret_0 (a : Nat) (σ : cl_S) : Option ((Option Nat) × cl_S) := vl (σ.2.2.1 a 4) (fun r_2 => vl (σ.2.2.1 a 4) (fun r_6 => vl (σ.2.2.1 a 4) (fun r_10 => bd2 (fc_X10_add a (2:Int32) (σ.1 a 3) r_2 r_6 r_10 σ) (fun r_14 σ_13 => vl (cl_w σ_13 a 3 ((σ_13.1 a 3) + (1:Int32))) (fun σ_20 => some (r_14, σ_20))))))
set_option maxHeartbeats 4000000 in
theorem wc_X10_newSecret_0 (C : cl_C D p s m args meth c cX10_newSecret 2 (some (.object "PartHouse$Term")) RX10) {r : (Option Nat)} {a : Nat} {σ0 σ σ' : cl_S} {T : Nat → Nat × Nat} {H : Heap} {locs : List Loc} {ls : Array Slot} {cells slots : Nat} (h : bc_X10_newSecret_0 a σ = some (r, σ')) (G : cl_G true D c0 ({ frames := 3, cells := σ0.2.2.2.2.2.1, slots := σ0.2.2.2.2.2.2, locals := 71 }) s σ0.2.2.2.1 T σ H locs cells slots) (ha : (T a).1 = 26) (hl : lv_has ls 2 [(0, .ref (c0 + a))]) : W p l e ({ frames := 3, cells := σ0.2.2.2.2.2.1, slots := σ0.2.2.2.2.2.2, locals := 71 }) s m args below meth c H locs cells slots (MQ below (cl_Q true D c0 (some (cl_rf c0 r)) (fun T1 => cl_RT T1 r 25) σ0 σ') args s (σ0.2.2.2.2.2.1 - σ'.2.2.2.2.2.1) (σ0.2.2.2.2.2.2 - σ'.2.2.2.2.2.2) (cl_A c0 σ0.2.2.2.1 s.heap.size)) (F0 m 0 ls []) := by
  unfold bc_X10_newSecret_0 at h
  refine lv_aload_n C.1 C.2.1 dX10_newSecret_0 rfl (lv_at hl 0 rfl) ?_
  refine lv_iconst (v := (2:Int32)) C.1 C.2.1 dX10_newSecret_1 (by decide) ?_
  refine lv_aload_n C.1 C.2.1 dX10_newSecret_2 rfl (lv_at hl 0 rfl) ?_
  refine cg_10_108 C G ha dX10_newSecret_3 ?_
  refine lv_aload_n C.1 C.2.1 dX10_newSecret_6 rfl (lv_at hl 0 rfl) ?_
  refine cg_10_20 C G ha dX10_newSecret_7 (fun t_1 => ?_)
  refine vt_r (K := 25) t_1 h (fun r_2 t_3 h_4 => ?_)
  refine lv_aload_n C.1 C.2.1 dX10_newSecret_10 rfl (lv_at hl 0 rfl) ?_
  refine cg_10_20 C G ha dX10_newSecret_11 (fun t_5 => ?_)
  refine vt_r (K := 25) t_5 h_4 (fun r_6 t_7 h_8 => ?_)
  refine lv_aload_n C.1 C.2.1 dX10_newSecret_14 rfl (lv_at hl 0 rfl) ?_
  refine cg_10_20 C G ha dX10_newSecret_15 (fun t_9 => ?_)
  refine vt_r (K := 25) t_9 h_8 (fun r_10 t_11 h_12 => ?_)
  obtain ⟨r_14, σ_13, hq, h_15⟩ := bd2_some h_12
  refine cl_callV (ci := 10) (rest := []) C G rfl ha cw_RX10_105 [.int (2:Int32), .int (σ.1 a 3), cl_rf c0 r_2, cl_rf c0 r_6, cl_rf c0 r_10] _ (kc_X10_add l D c0 (by rw [G.1]; exact ha) hq (by rw [G.1]; exact t_3) (by rw [G.1]; exact t_7) (by rw [G.1]; exact t_11)) (Nat.le_of_ble_eq_true rfl) (Nat.le_of_ble_eq_true rfl) rfl rfl hl.1 (Nat.le_of_ble_eq_true rfl) dX10_newSecret_18 (fun T_16 H locs cells slots t_17 hu G_18 => ?_)
  have ha := hu.kind ha (by decide)
  refine W.eq (g2 := F0 m 21 ls [cl_rf c0 r_14]) rfl ?_
  refine cl_astore_n (lv' := [(1, cl_rf c0 r_14), (0, .ref (c0 + a))]) C.1 C.2.1 dX10_newSecret_21 rfl hl (by decide) rfl (fun ls hl_19 => ?_)
  refine lv_aload_n C.1 C.2.1 dX10_newSecret_22 rfl (lv_at hl_19 1 rfl) ?_
  refine lv_dup C.1 C.2.1 dX10_newSecret_23 rfl ?_
  refine cg_10_108 C G_18 ha dX10_newSecret_24 ?_
  refine lv_iconst (v := (1:Int32)) C.1 C.2.1 dX10_newSecret_27 (by decide) ?_
  refine lv_iadd C.1 C.2.1 dX10_newSecret_28 ?_
  refine cp_10_108 C G_18 ha dX10_newSecret_29 (fun H locs G_21 => ?_)
  refine cl_nm G_21 h_15 (fun σ_20 G_22 h_23 => ?_)
  refine cl_aload_n C.1 C.2.1 dX10_newSecret_32 rfl (lv_at hl_19 0 rfl) ?_
  exact cl_aret (v := r_14) ⟨rfl, rfl⟩ rfl C G_22 h_23 (by first | exact Or.inl ⟨_, rfl⟩ | exact Or.inr ⟨_, rfl⟩) t_17 dX10_newSecret_33
noncomputable def fc_X10_newSecret (a : Nat) (σ : cl_S) : Option ((Option Nat) × cl_S) := bc_X10_newSecret_0 a σ
theorem kc_X10_newSecret (l : Launch) (D : cl_D) (c0 : Nat) {r : (Option Nat)} {a : Nat} {σ σ' : cl_S} (ha : (σ.2.2.2.1 a).1 = 26) (h : fc_X10_newSecret a σ = some (r, σ')) : cl_Met true l D c0 yX10_newSecret cX10_newSecret 2 (some (.object "PartHouse$Term")) 3 71 [.ref (c0 + a)] σ (some (cl_rf c0 r)) (fun T1 => cl_RT T1 r 25) σ' :=
  cl_of (by decide) (Nat.le_of_ble_eq_true rfl) (fun p e s m args below meth c ls C hn G hl => wc_X10_newSecret_0 C h G ha hl)
abbrev cX6_askSecret : ByteArray := prog_8_method_9_code
def yX6_askSecret : MethodName := ⟨RX6, "askSecret", "()I"⟩
theorem dX6_askSecret_0 : decode cX6_askSecret 0 = .ok (.aload_n 0, 1) := by decide +kernel
theorem dX6_askSecret_1 : decode cX6_askSecret 1 = .ok (.getfield 50, 3) := by decide +kernel
theorem dX6_askSecret_4 : decode cX6_askSecret 4 = .ok (.invokevirtual 108, 3) := by decide +kernel
theorem dX6_askSecret_7 : decode cX6_askSecret 7 = .ok (.ifCond .ne 12, 3) := by decide +kernel
theorem dX6_askSecret_10 : decode cX6_askSecret 10 = .ok (.aload_n 0, 1) := by decide +kernel
theorem dX6_askSecret_11 : decode cX6_askSecret 11 = .ok (.getfield 88, 3) := by decide +kernel
theorem dX6_askSecret_14 : decode cX6_askSecret 14 = .ok (.bipush 100, 2) := by decide +kernel
theorem dX6_askSecret_16 : decode cX6_askSecret 16 = .ok (.if_icmp .lt 6, 3) := by decide +kernel
theorem dX6_askSecret_19 : decode cX6_askSecret 19 = .ok (.bipush (-4), 2) := by decide +kernel
theorem dX6_askSecret_21 : decode cX6_askSecret 21 = .ok (.ireturn, 1) := by decide +kernel
theorem dX6_askSecret_22 : decode cX6_askSecret 22 = .ok (.aload_n 0, 1) := by decide +kernel
theorem dX6_askSecret_23 : decode cX6_askSecret 23 = .ok (.getfield 88, 3) := by decide +kernel
theorem dX6_askSecret_26 : decode cX6_askSecret 26 = .ok (.aload_n 0, 1) := by decide +kernel
theorem dX6_askSecret_27 : decode cX6_askSecret 27 = .ok (.getfield 85, 3) := by decide +kernel
theorem dX6_askSecret_30 : decode cX6_askSecret 30 = .ok (.if_icmp .lt 29, 3) := by decide +kernel
theorem dX6_askSecret_33 : decode cX6_askSecret 33 = .ok (.aload_n 0, 1) := by decide +kernel
theorem dX6_askSecret_34 : decode cX6_askSecret 34 = .ok (.getfield 34, 3) := by decide +kernel
theorem dX6_askSecret_37 : decode cX6_askSecret 37 = .ok (.aload_n 0, 1) := by decide +kernel
theorem dX6_askSecret_38 : decode cX6_askSecret 38 = .ok (.getfield 88, 3) := by decide +kernel
theorem dX6_askSecret_41 : decode cX6_askSecret 41 = .ok (.aload_n 0, 1) := by decide +kernel
theorem dX6_askSecret_42 : decode cX6_askSecret 42 = .ok (.getfield 37, 3) := by decide +kernel
theorem dX6_askSecret_45 : decode cX6_askSecret 45 = .ok (.invokevirtual 112, 3) := by decide +kernel
theorem dX6_askSecret_48 : decode cX6_askSecret 48 = .ok (.aastore, 1) := by decide +kernel
theorem dX6_askSecret_49 : decode cX6_askSecret 49 = .ok (.aload_n 0, 1) := by decide +kernel
theorem dX6_askSecret_50 : decode cX6_askSecret 50 = .ok (.aload_n 0, 1) := by decide +kernel
theorem dX6_askSecret_51 : decode cX6_askSecret 51 = .ok (.getfield 88, 3) := by decide +kernel
theorem dX6_askSecret_54 : decode cX6_askSecret 54 = .ok (.iconst 1, 1) := by decide +kernel
theorem dX6_askSecret_55 : decode cX6_askSecret 55 = .ok (.iadd, 1) := by decide +kernel
theorem dX6_askSecret_56 : decode cX6_askSecret 56 = .ok (.putfield 85, 3) := by decide +kernel
theorem dX6_askSecret_59 : decode cX6_askSecret 59 = .ok (.aload_n 0, 1) := by decide +kernel
theorem dX6_askSecret_60 : decode cX6_askSecret 60 = .ok (.dup, 1) := by decide +kernel
theorem dX6_askSecret_61 : decode cX6_askSecret 61 = .ok (.getfield 88, 3) := by decide +kernel
theorem dX6_askSecret_64 : decode cX6_askSecret 64 = .ok (.iconst 1, 1) := by decide +kernel
theorem dX6_askSecret_65 : decode cX6_askSecret 65 = .ok (.iadd, 1) := by decide +kernel
theorem dX6_askSecret_66 : decode cX6_askSecret 66 = .ok (.putfield 88, 3) := by decide +kernel
theorem dX6_askSecret_69 : decode cX6_askSecret 69 = .ok (.aload_n 0, 1) := by decide +kernel
theorem dX6_askSecret_70 : decode cX6_askSecret 70 = .ok (.getfield 50, 3) := by decide +kernel
theorem dX6_askSecret_73 : decode cX6_askSecret 73 = .ok (.aload_n 0, 1) := by decide +kernel
theorem dX6_askSecret_74 : decode cX6_askSecret 74 = .ok (.getfield 34, 3) := by decide +kernel
theorem dX6_askSecret_77 : decode cX6_askSecret 77 = .ok (.aload_n 0, 1) := by decide +kernel
theorem dX6_askSecret_78 : decode cX6_askSecret 78 = .ok (.getfield 88, 3) := by decide +kernel
theorem dX6_askSecret_81 : decode cX6_askSecret 81 = .ok (.iconst 1, 1) := by decide +kernel
theorem dX6_askSecret_82 : decode cX6_askSecret 82 = .ok (.isub, 1) := by decide +kernel
theorem dX6_askSecret_83 : decode cX6_askSecret 83 = .ok (.aaload, 1) := by decide +kernel
theorem dX6_askSecret_84 : decode cX6_askSecret 84 = .ok (.invokevirtual 104, 3) := by decide +kernel
theorem dX6_askSecret_87 : decode cX6_askSecret 87 = .ok (.ireturn, 1) := by decide +kernel
theorem cc_X6_askSecret : Cond.code yX6_askSecret cX6_askSecret 1 (some .int) ∈ rf_tb := rf_at 1253 (by decide +kernel) (by decide +kernel)
theorem cw_RX6_108 : cl_wV RX6 RX8 yX8_isFull cX8_isFull 1 (some .boolean) 108 0 := ⟨⟨rf_at 1254 (by decide +kernel) (by decide +kernel), rf_at 1222 (by decide +kernel) (by decide +kernel), rf_at 1223 (by decide +kernel) (by decide +kernel), cc_X8_isFull, rf_at 11 (by decide +kernel) (by decide +kernel)⟩, ⟨by decide, by decide, by decide +kernel⟩⟩
theorem cw_RX6_112 : cl_wV RX6 RX10 yX10_newSecret cX10_newSecret 2 (some (.object "PartHouse$Term")) 112 0 := ⟨⟨rf_at 1255 (by decide +kernel) (by decide +kernel), rf_at 287 (by decide +kernel) (by decide +kernel), rf_at 288 (by decide +kernel) (by decide +kernel), cc_X10_newSecret, rf_at 9 (by decide +kernel) (by decide +kernel)⟩, ⟨by decide, by decide, by decide +kernel⟩⟩
noncomputable def bc_X6_askSecret_59 (a : Nat) (σ : cl_S) : Option (Int32 × cl_S) := vl (cl_w σ a 13 ((σ.1 a 13) + (1:Int32))) (fun σ_8 => ix ((σ_8.1 a 13) - (1:Int32)) 100 (vl (σ_8.2.2.1 (a + 8) ((σ_8.1 a 13) - (1:Int32)).toNatClampNeg) (fun r_16 => bd2 (fc_X8_comeIn (a + 9) r_16 σ_8) (fun r_20 σ_19 => some (r_20, σ_19)))))
set_option maxHeartbeats 4000000 in
theorem wc_X6_askSecret_59 (C : cl_C D p s m args meth c cX6_askSecret 1 (some .int) RX6) {r : Int32} {a : Nat} {σ0 σ σ' : cl_S} {T : Nat → Nat × Nat} {H : Heap} {locs : List Loc} {ls : Array Slot} {cells slots : Nat} (h : bc_X6_askSecret_59 a σ = some (r, σ')) (G : cl_G true D c0 ({ frames := 4, cells := σ0.2.2.2.2.2.1, slots := σ0.2.2.2.2.2.2, locals := 92 }) s σ0.2.2.2.1 T σ H locs cells slots) (ha : (T a).1 = 22) (hl : lv_has ls 1 [(0, .ref (c0 + a))]) : W p l e ({ frames := 4, cells := σ0.2.2.2.2.2.1, slots := σ0.2.2.2.2.2.2, locals := 92 }) s m args below meth c H locs cells slots (MQ below (cl_Q true D c0 (some (.int r)) cl_no σ0 σ') args s (σ0.2.2.2.2.2.1 - σ'.2.2.2.2.2.1) (σ0.2.2.2.2.2.2 - σ'.2.2.2.2.2.2) (cl_A c0 σ0.2.2.2.1 s.heap.size)) (F0 m 59 ls []) := by
  unfold bc_X6_askSecret_59 at h
  refine lv_aload_n C.1 C.2.1 dX6_askSecret_59 rfl (lv_at hl 0 rfl) ?_
  refine lv_dup C.1 C.2.1 dX6_askSecret_60 rfl ?_
  refine cg_6_88 C G ha dX6_askSecret_61 ?_
  refine lv_iconst (v := (1:Int32)) C.1 C.2.1 dX6_askSecret_64 (by decide) ?_
  refine lv_iadd C.1 C.2.1 dX6_askSecret_65 ?_
  refine cp_6_88 C G ha dX6_askSecret_66 (fun H locs G_9 => ?_)
  refine cl_nm G_9 h (fun σ_8 G_10 h_11 => ?_)
  refine lv_aload_n C.1 C.2.1 dX6_askSecret_69 rfl (lv_at hl 0 rfl) ?_
  refine cg_6_50 C G_10 ha dX6_askSecret_70 (fun t_12 => ?_)
  have t_12 : (T (a + 9)).1 = 24 := by rw [t_12]
  refine lv_aload_n C.1 C.2.1 dX6_askSecret_73 rfl (lv_at hl 0 rfl) ?_
  refine cg_6_34 C G_10 ha dX6_askSecret_74 (fun t_13 => ?_)
  refine lv_aload_n C.1 C.2.1 dX6_askSecret_77 rfl (lv_at hl 0 rfl) ?_
  refine cg_6_88 C G_10 ha dX6_askSecret_78 ?_
  refine lv_iconst (v := (1:Int32)) C.1 C.2.1 dX6_askSecret_81 (by decide) ?_
  refine lv_isub C.1 C.2.1 dX6_askSecret_82 ?_
  obtain ⟨hi, h_14⟩ := ix_some h_11
  refine cl_aald C G_10 t_13 (by decide) (by decide) rfl hi dX6_askSecret_83 (fun t_15 => ?_)
  refine vt_r (K := 25) t_15 h_14 (fun r_16 t_17 h_18 => ?_)
  obtain ⟨r_20, σ_19, hq, h_21⟩ := bd2_some h_18
  refine cl_callV (ci := 8) (rest := []) C G_10 rfl t_12 cw_RX6_104 [cl_rf c0 r_16] _ (kc_X8_comeIn l D c0 (by rw [G_10.1]; exact t_12) hq (by rw [G_10.1]; exact t_17)) (Nat.le_of_ble_eq_true rfl) (Nat.le_of_ble_eq_true rfl) rfl rfl hl.1 (Nat.le_of_ble_eq_true rfl) dX6_askSecret_84 (fun T_22 H locs cells slots t_23 hu G_24 => ?_)
  have ha := hu.kind ha (by decide)
  refine W.eq (g2 := F0 m 87 ls [.int r_20]) rfl ?_
  exact cl_iret ⟨rfl, rfl⟩ rfl C G_24 h_21 dX6_askSecret_87
noncomputable def bc_X6_askSecret_0 (a : Nat) (σ : cl_S) : Option (Int32 × cl_S) := bd2 (fc_X8_isFull (a + 9) σ) (fun r_3 σ_2 => (if r_3 = 0 then (if (σ_2.1 a 13) < (100:Int32) then (if (σ_2.1 a 13) < (σ_2.1 a 12) then bc_X6_askSecret_59 a σ_2 else bd2 (fc_X10_newSecret 31 σ_2) (fun r_28 σ_27 => ix (σ_2.1 a 13) 100 (vl (cl_wr σ_27 (a + 8) (σ_2.1 a 13).toNatClampNeg r_28) (fun σ_33 => vl (cl_w σ_33 a 12 ((σ_33.1 a 13) + (1:Int32))) (fun σ_38 => bc_X6_askSecret_59 a σ_38))))) else some ((-4:Int32), σ_2)) else some ((-4:Int32), σ_2)))
set_option maxHeartbeats 4000000 in
theorem wc_X6_askSecret_0 (C : cl_C D p s m args meth c cX6_askSecret 1 (some .int) RX6) {r : Int32} {a : Nat} {σ0 σ σ' : cl_S} {T : Nat → Nat × Nat} {H : Heap} {locs : List Loc} {ls : Array Slot} {cells slots : Nat} (h : bc_X6_askSecret_0 a σ = some (r, σ')) (G : cl_G true D c0 ({ frames := 4, cells := σ0.2.2.2.2.2.1, slots := σ0.2.2.2.2.2.2, locals := 92 }) s σ0.2.2.2.1 T σ H locs cells slots) (ha : (T a).1 = 22) (hl : lv_has ls 1 [(0, .ref (c0 + a))]) : W p l e ({ frames := 4, cells := σ0.2.2.2.2.2.1, slots := σ0.2.2.2.2.2.2, locals := 92 }) s m args below meth c H locs cells slots (MQ below (cl_Q true D c0 (some (.int r)) cl_no σ0 σ') args s (σ0.2.2.2.2.2.1 - σ'.2.2.2.2.2.1) (σ0.2.2.2.2.2.2 - σ'.2.2.2.2.2.2) (cl_A c0 σ0.2.2.2.1 s.heap.size)) (F0 m 0 ls []) := by
  unfold bc_X6_askSecret_0 at h
  refine lv_aload_n C.1 C.2.1 dX6_askSecret_0 rfl (lv_at hl 0 rfl) ?_
  refine cg_6_50 C G ha dX6_askSecret_1 (fun t_1 => ?_)
  have t_1 : (T (a + 9)).1 = 24 := by rw [t_1]
  obtain ⟨r_3, σ_2, hq, h_4⟩ := bd2_some h
  refine cl_callV (ci := 8) (rest := []) C G rfl t_1 cw_RX6_108 [] _ (kc_X8_isFull l D c0 (by rw [G.1]; exact t_1) hq) (Nat.le_of_ble_eq_true rfl) (Nat.le_of_ble_eq_true rfl) rfl rfl hl.1 (Nat.le_of_ble_eq_true rfl) dX6_askSecret_4 (fun T_5 H locs cells slots t_6 hu G_7 => ?_)
  have ha := hu.kind ha (by decide)
  refine W.eq (g2 := F0 m 7 ls [.int r_3]) rfl ?_
  refine lv_if_ne (tgt := 19) C.1 C.2.1 dX6_askSecret_7 (by decide) (fun hc => ?_) (fun hc => ?_)
  · rw [if_neg hc] at h_4
    refine lv_bipush (v := (-4:Int32)) C.1 C.2.1 dX6_askSecret_19 (by decide) ?_
    exact cl_iret ⟨rfl, rfl⟩ rfl C G_7 h_4 dX6_askSecret_21
  · rw [if_pos hc] at h_4
    refine lv_aload_n C.1 C.2.1 dX6_askSecret_10 rfl (lv_at hl 0 rfl) ?_
    refine cg_6_88 C G_7 ha dX6_askSecret_11 ?_
    refine lv_bipush (v := (100:Int32)) C.1 C.2.1 dX6_askSecret_14 (by decide) ?_
    refine lv_icmp_lt (tgt := 22) C.1 C.2.1 dX6_askSecret_16 (by decide) (fun hc => ?_) (fun hc => ?_)
    · rw [if_pos hc] at h_4
      refine lv_aload_n C.1 C.2.1 dX6_askSecret_22 rfl (lv_at hl 0 rfl) ?_
      refine cg_6_88 C G_7 ha dX6_askSecret_23 ?_
      refine lv_aload_n C.1 C.2.1 dX6_askSecret_26 rfl (lv_at hl 0 rfl) ?_
      refine cg_6_85 C G_7 ha dX6_askSecret_27 ?_
      refine lv_icmp_lt (tgt := 59) C.1 C.2.1 dX6_askSecret_30 (by decide) (fun hc => ?_) (fun hc => ?_)
      · rw [if_pos hc] at h_4
        exact wc_X6_askSecret_59 C h_4 G_7 ha (lv_sub hl [0] rfl)
      · rw [if_neg hc] at h_4
        refine lv_aload_n C.1 C.2.1 dX6_askSecret_33 rfl (lv_at hl 0 rfl) ?_
        refine cg_6_34 C G_7 ha dX6_askSecret_34 (fun t_25 => ?_)
        refine lv_aload_n C.1 C.2.1 dX6_askSecret_37 rfl (lv_at hl 0 rfl) ?_
        refine cg_6_88 C G_7 ha dX6_askSecret_38 ?_
        refine lv_aload_n C.1 C.2.1 dX6_askSecret_41 rfl (lv_at hl 0 rfl) ?_
        refine cg_6_37 C G_7 ha dX6_askSecret_42 (fun t_26 => ?_)
        have t_26 : (T_5 31).1 = 26 := by rw [t_26]
        obtain ⟨r_28, σ_27, hq, h_29⟩ := bd2_some h_4
        refine cl_callV (ci := 10) (rest := [.int (σ_2.1 a 13), .ref (c0 + (a + 8))]) C G_7 rfl t_26 cw_RX6_112 [] _ (kc_X10_newSecret l D c0 (by rw [G_7.1]; exact t_26) hq) (Nat.le_of_ble_eq_true rfl) (Nat.le_of_ble_eq_true rfl) rfl rfl hl.1 (Nat.le_of_ble_eq_true rfl) dX6_askSecret_45 (fun T_30 H locs cells slots t_31 hu G_32 => ?_)
        have ha := hu.kind ha (by decide)
        have t_25 := cl_uparr hu t_25 (by decide)
        refine W.eq (g2 := F0 m 48 ls [cl_rf c0 r_28, .int (σ_2.1 a 13), .ref (c0 + (a + 8))]) rfl ?_
        obtain ⟨hi, h_34⟩ := ix_some h_29
        refine cl_aast (ci := 9) (x := r_28) C G_32 rfl rfl rfl t_25 (by decide) (by decide) t_31 hi dX6_askSecret_48 (fun H locs G_35 => ?_)
        refine cl_nm G_35 h_34 (fun σ_33 G_36 h_37 => ?_)
        refine lv_aload_n C.1 C.2.1 dX6_askSecret_49 rfl (lv_at hl 0 rfl) ?_
        refine lv_aload_n C.1 C.2.1 dX6_askSecret_50 rfl (lv_at hl 0 rfl) ?_
        refine cg_6_88 C G_36 ha dX6_askSecret_51 ?_
        refine lv_iconst (v := (1:Int32)) C.1 C.2.1 dX6_askSecret_54 (by decide) ?_
        refine lv_iadd C.1 C.2.1 dX6_askSecret_55 ?_
        refine cp_6_85 C G_36 ha dX6_askSecret_56 (fun H locs G_39 => ?_)
        refine cl_nm G_39 h_37 (fun σ_38 G_40 h_41 => ?_)
        exact wc_X6_askSecret_59 C h_41 G_40 ha (lv_sub hl [0] rfl)
    · rw [if_neg hc] at h_4
      refine lv_bipush (v := (-4:Int32)) C.1 C.2.1 dX6_askSecret_19 (by decide) ?_
      exact cl_iret ⟨rfl, rfl⟩ rfl C G_7 h_4 dX6_askSecret_21
noncomputable def fc_X6_askSecret (a : Nat) (σ : cl_S) : Option (Int32 × cl_S) := bc_X6_askSecret_0 a σ
theorem kc_X6_askSecret (l : Launch) (D : cl_D) (c0 : Nat) {r : Int32} {a : Nat} {σ σ' : cl_S} (ha : (σ.2.2.2.1 a).1 = 22) (h : fc_X6_askSecret a σ = some (r, σ')) : cl_Met true l D c0 yX6_askSecret cX6_askSecret 1 (some .int) 4 92 [.ref (c0 + a)] σ (some (.int r)) cl_no σ' :=
  cl_of (by decide) (Nat.le_of_ble_eq_true rfl) (fun p e s m args below meth c ls C hn G hl => wc_X6_askSecret_0 C h G ha hl)
abbrev cX5_lookAtNumber : ByteArray := prog_7_method_21_code
def yX5_lookAtNumber : MethodName := ⟨RX5, "lookAtNumber", "(LPartHouse$Partition;LPartHouse$Term;)I"⟩
theorem dX5_lookAtNumber_0 : decode cX5_lookAtNumber 0 = .ok (.aload_n 2, 1) := by decide +kernel
theorem dX5_lookAtNumber_1 : decode cX5_lookAtNumber 1 = .ok (.getfield 257, 3) := by decide +kernel
theorem dX5_lookAtNumber_4 : decode cX5_lookAtNumber 4 = .ok (.ifCond .ne 7, 3) := by decide +kernel
theorem dX5_lookAtNumber_7 : decode cX5_lookAtNumber 7 = .ok (.iconst 1, 1) := by decide +kernel
theorem dX5_lookAtNumber_8 : decode cX5_lookAtNumber 8 = .ok (.goto 4, 3) := by decide +kernel
theorem dX5_lookAtNumber_11 : decode cX5_lookAtNumber 11 = .ok (.iconst 0, 1) := by decide +kernel
theorem dX5_lookAtNumber_12 : decode cX5_lookAtNumber 12 = .ok (.istore_n 3, 1) := by decide +kernel
theorem dX5_lookAtNumber_13 : decode cX5_lookAtNumber 13 = .ok (.aload_n 1, 1) := by decide +kernel
theorem dX5_lookAtNumber_14 : decode cX5_lookAtNumber 14 = .ok (.getfield 121, 3) := by decide +kernel
theorem dX5_lookAtNumber_17 : decode cX5_lookAtNumber 17 = .ok (.getfield 193, 3) := by decide +kernel
theorem dX5_lookAtNumber_20 : decode cX5_lookAtNumber 20 = .ok (.iconst 2, 1) := by decide +kernel
theorem dX5_lookAtNumber_21 : decode cX5_lookAtNumber 21 = .ok (.iload_n 3, 1) := by decide +kernel
theorem dX5_lookAtNumber_22 : decode cX5_lookAtNumber 22 = .ok (.ifCond .eq 7, 3) := by decide +kernel
theorem dX5_lookAtNumber_25 : decode cX5_lookAtNumber 25 = .ok (.iconst 1, 1) := by decide +kernel
theorem dX5_lookAtNumber_26 : decode cX5_lookAtNumber 26 = .ok (.goto 4, 3) := by decide +kernel
theorem dX5_lookAtNumber_29 : decode cX5_lookAtNumber 29 = .ok (.iconst 0, 1) := by decide +kernel
theorem dX5_lookAtNumber_30 : decode cX5_lookAtNumber 30 = .ok (.iastore, 1) := by decide +kernel
theorem dX5_lookAtNumber_31 : decode cX5_lookAtNumber 31 = .ok (.iload_n 3, 1) := by decide +kernel
theorem dX5_lookAtNumber_32 : decode cX5_lookAtNumber 32 = .ok (.ifCond .eq 10, 3) := by decide +kernel
theorem dX5_lookAtNumber_35 : decode cX5_lookAtNumber 35 = .ok (.aload_n 2, 1) := by decide +kernel
theorem dX5_lookAtNumber_36 : decode cX5_lookAtNumber 36 = .ok (.getfield 345, 3) := by decide +kernel
theorem dX5_lookAtNumber_39 : decode cX5_lookAtNumber 39 = .ok (.goto 4, 3) := by decide +kernel
theorem dX5_lookAtNumber_42 : decode cX5_lookAtNumber 42 = .ok (.iconst 0, 1) := by decide +kernel
theorem dX5_lookAtNumber_43 : decode cX5_lookAtNumber 43 = .ok (.ireturn, 1) := by decide +kernel
theorem cc_X5_lookAtNumber : Cond.code yX5_lookAtNumber cX5_lookAtNumber 4 (some .int) ∈ rf_tb := rf_at 1259 (by decide +kernel) (by decide +kernel)
noncomputable def bc_X5_lookAtNumber_30 (x2 : (Option Nat)) (x3 : Int32) (v0 : Nat) (w0 : Nat) (v1 : Int32) (v2 : Int32) (σ : cl_S) : Option (Int32 × cl_S) := ix v1 w0 (vl (cl_w σ v0 v1.toNatClampNeg v2) (fun σ_10 => (if x3 = 0 then some ((0:Int32), σ_10) else nn x2 (fun a_15 => some ((σ_10.1 a_15 1), σ_10)))))
set_option maxHeartbeats 4000000 in
theorem wc_X5_lookAtNumber_30 (C : cl_C D p s m args meth c cX5_lookAtNumber 4 (some .int) RX5) {r : Int32} {x2 : (Option Nat)} {x3 : Int32} {v0 : Nat} {w0 : Nat} {v1 : Int32} {v2 : Int32} {σ0 σ σ' : cl_S} {T : Nat → Nat × Nat} {H : Heap} {locs : List Loc} {ls : Array Slot} {cells slots : Nat} (h : bc_X5_lookAtNumber_30 x2 x3 v0 w0 v1 v2 σ = some (r, σ')) (G : cl_G true D c0 ({ frames := 0, cells := σ0.2.2.2.2.2.1, slots := σ0.2.2.2.2.2.2, locals := 0 }) s σ0.2.2.2.1 T σ H locs cells slots) (f2 : cl_RT T x2 25) (g0 : T v0 = (1, w0)) (hl : lv_has ls 4 [(2, cl_rf c0 x2), (3, .int x3)]) : W p l e ({ frames := 0, cells := σ0.2.2.2.2.2.1, slots := σ0.2.2.2.2.2.2, locals := 0 }) s m args below meth c H locs cells slots (MQ below (cl_Q true D c0 (some (.int r)) cl_no σ0 σ') args s (σ0.2.2.2.2.2.1 - σ'.2.2.2.2.2.1) (σ0.2.2.2.2.2.2 - σ'.2.2.2.2.2.2) (cl_A c0 σ0.2.2.2.1 s.heap.size)) (F0 m 30 ls [.int v2, .int v1, .ref (c0 + v0)]) := by
  unfold bc_X5_lookAtNumber_30 at h
  obtain ⟨hi, h_11⟩ := ix_some h
  refine cl_iast C G g0 hi dX5_lookAtNumber_30 (fun H locs G_12 => ?_)
  refine cl_nm G_12 h_11 (fun σ_10 G_13 h_14 => ?_)
  refine lv_iload_n C.1 C.2.1 dX5_lookAtNumber_31 rfl (lv_at hl 1 rfl) ?_
  refine lv_if_eq (tgt := 42) C.1 C.2.1 dX5_lookAtNumber_32 (by decide) (fun hc => ?_) (fun hc => ?_)
  · rw [if_pos hc] at h_14
    refine lv_iconst (v := (0:Int32)) C.1 C.2.1 dX5_lookAtNumber_42 (by decide) ?_
    exact cl_iret ⟨rfl, rfl⟩ rfl C G_13 h_14 dX5_lookAtNumber_43
  · rw [if_neg hc] at h_14
    refine cl_aload_n C.1 C.2.1 dX5_lookAtNumber_35 rfl (lv_at hl 0 rfl) ?_
    obtain ⟨a_15, rfl, h_17⟩ := nn_some h_14
    have t_16 := f2 _ rfl
    refine cg_5_345 C G_13 t_16 dX5_lookAtNumber_36 ?_
    refine lv_goto (tgt := 43) C.1 C.2.1 dX5_lookAtNumber_39 (by decide) ?_
    exact cl_iret ⟨rfl, rfl⟩ rfl C G_13 h_17 dX5_lookAtNumber_43
noncomputable def bc_X5_lookAtNumber_12 (x1 : (Option Nat)) (x2 : (Option Nat)) (v0 : Int32) (σ : cl_S) : Option (Int32 × cl_S) := nn x1 (fun a_5 => (if v0 = 0 then bc_X5_lookAtNumber_30 x2 v0 ((a_5 + 1) + 2) 16 (2:Int32) (0:Int32) σ else bc_X5_lookAtNumber_30 x2 v0 ((a_5 + 1) + 2) 16 (2:Int32) (1:Int32) σ))
set_option maxHeartbeats 4000000 in
theorem wc_X5_lookAtNumber_12 (C : cl_C D p s m args meth c cX5_lookAtNumber 4 (some .int) RX5) {r : Int32} {x1 : (Option Nat)} {x2 : (Option Nat)} {v0 : Int32} {σ0 σ σ' : cl_S} {T : Nat → Nat × Nat} {H : Heap} {locs : List Loc} {ls : Array Slot} {cells slots : Nat} (h : bc_X5_lookAtNumber_12 x1 x2 v0 σ = some (r, σ')) (G : cl_G true D c0 ({ frames := 0, cells := σ0.2.2.2.2.2.1, slots := σ0.2.2.2.2.2.2, locals := 0 }) s σ0.2.2.2.1 T σ H locs cells slots) (f1 : cl_RT T x1 22) (f2 : cl_RT T x2 25) (hl : lv_has ls 4 [(1, cl_rf c0 x1), (2, cl_rf c0 x2)]) : W p l e ({ frames := 0, cells := σ0.2.2.2.2.2.1, slots := σ0.2.2.2.2.2.2, locals := 0 }) s m args below meth c H locs cells slots (MQ below (cl_Q true D c0 (some (.int r)) cl_no σ0 σ') args s (σ0.2.2.2.2.2.1 - σ'.2.2.2.2.2.1) (σ0.2.2.2.2.2.2 - σ'.2.2.2.2.2.2) (cl_A c0 σ0.2.2.2.1 s.heap.size)) (F0 m 12 ls [.int v0]) := by
  unfold bc_X5_lookAtNumber_12 at h
  refine lv_istore_n (lv' := [(3, .int v0), (1, cl_rf c0 x1), (2, cl_rf c0 x2)]) C.1 C.2.1 dX5_lookAtNumber_12 rfl hl (by decide) (by first | rfl | (cases x1 <;> cases x2 <;> rfl)) (fun ls hl_4 => ?_)
  refine cl_aload_n C.1 C.2.1 dX5_lookAtNumber_13 rfl (lv_at hl_4 1 rfl) ?_
  obtain ⟨a_5, rfl, h_7⟩ := nn_some h
  have t_6 := f1 _ rfl
  refine cg_5_121 C G t_6 dX5_lookAtNumber_14 (fun t_8 => ?_)
  have t_8 : (T (a_5 + 1)).1 = 18 := by rw [t_8]
  refine cg_5_193 C G t_8 dX5_lookAtNumber_17 (fun t_9 => ?_)
  refine lv_iconst (v := (2:Int32)) C.1 C.2.1 dX5_lookAtNumber_20 (by decide) ?_
  refine lv_iload_n C.1 C.2.1 dX5_lookAtNumber_21 rfl (lv_at hl_4 0 rfl) ?_
  refine lv_if_eq (tgt := 29) C.1 C.2.1 dX5_lookAtNumber_22 (by decide) (fun hc => ?_) (fun hc => ?_)
  · rw [if_pos hc] at h_7
    refine lv_iconst (v := (0:Int32)) C.1 C.2.1 dX5_lookAtNumber_29 (by decide) ?_
    exact wc_X5_lookAtNumber_30 C h_7 G f2 t_9 (lv_sub hl_4 [2, 0] rfl)
  · rw [if_neg hc] at h_7
    refine lv_iconst (v := (1:Int32)) C.1 C.2.1 dX5_lookAtNumber_25 (by decide) ?_
    refine lv_goto (tgt := 30) C.1 C.2.1 dX5_lookAtNumber_26 (by decide) ?_
    exact wc_X5_lookAtNumber_30 C h_7 G f2 t_9 (lv_sub hl_4 [2, 0] rfl)
noncomputable def bc_X5_lookAtNumber_0 (a : Nat) (x1 : (Option Nat)) (x2 : (Option Nat)) (σ : cl_S) : Option (Int32 × cl_S) := nn x2 (fun a_1 => (if (σ.1 a_1 0) = 0 then bc_X5_lookAtNumber_12 x1 (some a_1) (1:Int32) σ else bc_X5_lookAtNumber_12 x1 (some a_1) (0:Int32) σ))
set_option maxHeartbeats 4000000 in
theorem wc_X5_lookAtNumber_0 (C : cl_C D p s m args meth c cX5_lookAtNumber 4 (some .int) RX5) {r : Int32} {a : Nat} {x1 : (Option Nat)} {x2 : (Option Nat)} {σ0 σ σ' : cl_S} {T : Nat → Nat × Nat} {H : Heap} {locs : List Loc} {ls : Array Slot} {cells slots : Nat} (h : bc_X5_lookAtNumber_0 a x1 x2 σ = some (r, σ')) (G : cl_G true D c0 ({ frames := 0, cells := σ0.2.2.2.2.2.1, slots := σ0.2.2.2.2.2.2, locals := 0 }) s σ0.2.2.2.1 T σ H locs cells slots) (ha : (T a).1 = 21) (f1 : cl_RT T x1 22) (f2 : cl_RT T x2 25) (hl : lv_has ls 4 [(0, .ref (c0 + a)), (1, cl_rf c0 x1), (2, cl_rf c0 x2)]) : W p l e ({ frames := 0, cells := σ0.2.2.2.2.2.1, slots := σ0.2.2.2.2.2.2, locals := 0 }) s m args below meth c H locs cells slots (MQ below (cl_Q true D c0 (some (.int r)) cl_no σ0 σ') args s (σ0.2.2.2.2.2.1 - σ'.2.2.2.2.2.1) (σ0.2.2.2.2.2.2 - σ'.2.2.2.2.2.2) (cl_A c0 σ0.2.2.2.1 s.heap.size)) (F0 m 0 ls []) := by
  unfold bc_X5_lookAtNumber_0 at h
  refine cl_aload_n C.1 C.2.1 dX5_lookAtNumber_0 rfl (lv_at hl 2 rfl) ?_
  obtain ⟨a_1, rfl, h_3⟩ := nn_some h
  have t_2 := f2 _ rfl
  refine cg_5_257 C G t_2 dX5_lookAtNumber_1 ?_
  refine lv_if_ne (tgt := 11) C.1 C.2.1 dX5_lookAtNumber_4 (by decide) (fun hc => ?_) (fun hc => ?_)
  · rw [if_neg hc] at h_3
    refine lv_iconst (v := (0:Int32)) C.1 C.2.1 dX5_lookAtNumber_11 (by decide) ?_
    exact wc_X5_lookAtNumber_12 C h_3 G f1 (cl_RTs t_2) (lv_sub hl [1, 2] rfl)
  · rw [if_pos hc] at h_3
    refine lv_iconst (v := (1:Int32)) C.1 C.2.1 dX5_lookAtNumber_7 (by decide) ?_
    refine lv_goto (tgt := 12) C.1 C.2.1 dX5_lookAtNumber_8 (by decide) ?_
    exact wc_X5_lookAtNumber_12 C h_3 G f1 (cl_RTs t_2) (lv_sub hl [1, 2] rfl)
noncomputable def fc_X5_lookAtNumber (a : Nat) (x1 : (Option Nat)) (x2 : (Option Nat)) (σ : cl_S) : Option (Int32 × cl_S) := bc_X5_lookAtNumber_0 a x1 x2 σ
theorem kc_X5_lookAtNumber (l : Launch) (D : cl_D) (c0 : Nat) {r : Int32} {a : Nat} {x1 : (Option Nat)} {x2 : (Option Nat)} {σ σ' : cl_S} (ha : (σ.2.2.2.1 a).1 = 21) (h : fc_X5_lookAtNumber a x1 x2 σ = some (r, σ')) (f1 : cl_RT σ.2.2.2.1 x1 22) (f2 : cl_RT σ.2.2.2.1 x2 25) : cl_Met true l D c0 yX5_lookAtNumber cX5_lookAtNumber 4 (some .int) 0 0 [.ref (c0 + a), cl_rf c0 x1, cl_rf c0 x2] σ (some (.int r)) cl_no σ' :=
  by cases x1 <;> cases x2 <;> exact cl_of (by decide) (Nat.le_of_ble_eq_true rfl) (fun p e s m args below meth c ls C hn G hl => wc_X5_lookAtNumber_0 C h G ha f1 f2 hl)
abbrev cX5_lookInto : ByteArray := prog_7_method_22_code
def yX5_lookInto : MethodName := ⟨RX5, "lookInto", "(LPartHouse$Partition;LPartHouse$Term;ILPartHouse$Term;)I"⟩
theorem dX5_lookInto_0 : decode cX5_lookInto 0 = .ok (.aload_n 2, 1) := by decide +kernel
theorem dX5_lookInto_1 : decode cX5_lookInto 1 = .ok (.aload_n 0, 1) := by decide +kernel
theorem dX5_lookInto_2 : decode cX5_lookInto 2 = .ok (.getfield 51, 3) := by decide +kernel
theorem dX5_lookInto_5 : decode cX5_lookInto 5 = .ok (.getfield 83, 3) := by decide +kernel
theorem dX5_lookInto_8 : decode cX5_lookInto 8 = .ok (.if_acmp .ne 6, 3) := by decide +kernel
theorem dX5_lookInto_11 : decode cX5_lookInto 11 = .ok (.bipush (-2), 2) := by decide +kernel
theorem dX5_lookInto_13 : decode cX5_lookInto 13 = .ok (.ireturn, 1) := by decide +kernel
theorem dX5_lookInto_14 : decode cX5_lookInto 14 = .ok (.aload_n 2, 1) := by decide +kernel
theorem dX5_lookInto_15 : decode cX5_lookInto 15 = .ok (.getfield 257, 3) := by decide +kernel
theorem dX5_lookInto_18 : decode cX5_lookInto 18 = .ok (.iload_n 3, 1) := by decide +kernel
theorem dX5_lookInto_19 : decode cX5_lookInto 19 = .ok (.if_icmp .ne 15, 3) := by decide +kernel
theorem dX5_lookInto_22 : decode cX5_lookInto 22 = .ok (.aload_n 1, 1) := by decide +kernel
theorem dX5_lookInto_23 : decode cX5_lookInto 23 = .ok (.getfield 199, 3) := by decide +kernel
theorem dX5_lookInto_26 : decode cX5_lookInto 26 = .ok (.aload 4, 2) := by decide +kernel
theorem dX5_lookInto_28 : decode cX5_lookInto 28 = .ok (.invokevirtual 282, 3) := by decide +kernel
theorem dX5_lookInto_31 : decode cX5_lookInto 31 = .ok (.goto 5, 3) := by decide +kernel
theorem dX5_lookInto_34 : decode cX5_lookInto 34 = .ok (.bipush (-3), 2) := by decide +kernel
theorem dX5_lookInto_36 : decode cX5_lookInto 36 = .ok (.ireturn, 1) := by decide +kernel
theorem cc_X5_lookInto : Cond.code yX5_lookInto cX5_lookInto 5 (some .int) ∈ rf_tb := rf_at 1263 (by decide +kernel) (by decide +kernel)
noncomputable def bc_X5_lookInto_0 (a : Nat) (x1 : (Option Nat)) (x2 : (Option Nat)) (x3 : Int32) (x4 : (Option Nat)) (σ : cl_S) : Option (Int32 × cl_S) := vl (σ.2.2.1 31 4) (fun r_3 => (if x2 = r_3 then some ((-2:Int32), σ) else nn x2 (fun a_6 => (if (σ.1 a_6 0) = x3 then nn x1 (fun a_9 => bd2 (fc_X8_comeIn (a_9 + 9) x4 σ) (fun r_14 σ_13 => some (r_14, σ_13))) else some ((-3:Int32), σ)))))
set_option maxHeartbeats 4000000 in
theorem wc_X5_lookInto_0 (C : cl_C D p s m args meth c cX5_lookInto 5 (some .int) RX5) {r : Int32} {a : Nat} {x1 : (Option Nat)} {x2 : (Option Nat)} {x3 : Int32} {x4 : (Option Nat)} {σ0 σ σ' : cl_S} {T : Nat → Nat × Nat} {H : Heap} {locs : List Loc} {ls : Array Slot} {cells slots : Nat} (h : bc_X5_lookInto_0 a x1 x2 x3 x4 σ = some (r, σ')) (G : cl_G true D c0 ({ frames := 2, cells := σ0.2.2.2.2.2.1, slots := σ0.2.2.2.2.2.2, locals := 45 }) s σ0.2.2.2.1 T σ H locs cells slots) (ha : (T a).1 = 21) (f1 : cl_RT T x1 22) (f2 : cl_RT T x2 25) (f4 : cl_RT T x4 25) (hl : lv_has ls 5 [(0, .ref (c0 + a)), (1, cl_rf c0 x1), (2, cl_rf c0 x2), (3, .int x3), (4, cl_rf c0 x4)]) : W p l e ({ frames := 2, cells := σ0.2.2.2.2.2.1, slots := σ0.2.2.2.2.2.2, locals := 45 }) s m args below meth c H locs cells slots (MQ below (cl_Q true D c0 (some (.int r)) cl_no σ0 σ') args s (σ0.2.2.2.2.2.1 - σ'.2.2.2.2.2.1) (σ0.2.2.2.2.2.2 - σ'.2.2.2.2.2.2) (cl_A c0 σ0.2.2.2.1 s.heap.size)) (F0 m 0 ls []) := by
  unfold bc_X5_lookInto_0 at h
  refine cl_aload_n C.1 C.2.1 dX5_lookInto_0 rfl (lv_at hl 2 rfl) ?_
  refine lv_aload_n C.1 C.2.1 dX5_lookInto_1 rfl (lv_at hl 0 rfl) ?_
  refine cg_5_51 C G ha dX5_lookInto_2 (fun t_1 => ?_)
  have t_1 : (T 31).1 = 26 := by rw [t_1]
  refine cg_5_83 C G t_1 dX5_lookInto_5 (fun t_2 => ?_)
  refine vt_r (K := 25) t_2 h (fun r_3 t_4 h_5 => ?_)
  refine cl_acmp_ne (rx := x2) (ry := r_3) (tgt := 14) C.1 C.2.1 dX5_lookInto_8 (by decide) (fun hc => ?_) (fun hc => ?_)
  · rw [if_neg hc] at h_5
    refine cl_aload_n C.1 C.2.1 dX5_lookInto_14 rfl (lv_at hl 2 rfl) ?_
    obtain ⟨a_6, rfl, h_8⟩ := nn_some h_5
    have t_7 := f2 _ rfl
    refine cg_5_257 C G t_7 dX5_lookInto_15 ?_
    refine lv_iload_n C.1 C.2.1 dX5_lookInto_18 rfl (lv_at hl 3 rfl) ?_
    refine lv_icmp_ne (tgt := 34) C.1 C.2.1 dX5_lookInto_19 (by decide) (fun hc => ?_) (fun hc => ?_)
    · rw [if_neg hc] at h_8
      refine lv_bipush (v := (-3:Int32)) C.1 C.2.1 dX5_lookInto_34 (by decide) ?_
      exact cl_iret ⟨rfl, rfl⟩ rfl C G h_8 dX5_lookInto_36
    · rw [if_pos hc] at h_8
      refine cl_aload_n C.1 C.2.1 dX5_lookInto_22 rfl (lv_at hl 1 rfl) ?_
      obtain ⟨a_9, rfl, h_11⟩ := nn_some h_8
      have t_10 := f1 _ rfl
      refine cg_5_199 C G t_10 dX5_lookInto_23 (fun t_12 => ?_)
      have t_12 : (T (a_9 + 9)).1 = 24 := by rw [t_12]
      refine cl_aload C.1 C.2.1 dX5_lookInto_26 (lv_at hl 4 rfl) ?_
      obtain ⟨r_14, σ_13, hq, h_15⟩ := bd2_some h_11
      refine cl_callV (ci := 8) (rest := []) C G rfl t_12 cw_RX5_282 [cl_rf c0 x4] _ (kc_X8_comeIn l D c0 (by rw [G.1]; exact t_12) hq (by rw [G.1]; exact f4)) (Nat.le_of_ble_eq_true rfl) (Nat.le_of_ble_eq_true rfl) rfl rfl hl.1 (Nat.le_of_ble_eq_true rfl) dX5_lookInto_28 (fun T_16 H locs cells slots t_17 hu G_18 => ?_)
      have ha := hu.kind ha (by decide)
      have t_10 := hu.kind t_10 (by decide)
      have t_7 := hu.kind t_7 (by decide)
      have f4 := f4.up hu (by decide)
      refine W.eq (g2 := F0 m 31 ls [.int r_14]) rfl ?_
      refine lv_goto (tgt := 36) C.1 C.2.1 dX5_lookInto_31 (by decide) ?_
      exact cl_iret ⟨rfl, rfl⟩ rfl C G_18 h_15 dX5_lookInto_36
  · rw [if_pos hc] at h_5
    refine lv_bipush (v := (-2:Int32)) C.1 C.2.1 dX5_lookInto_11 (by decide) ?_
    exact cl_iret ⟨rfl, rfl⟩ rfl C G h_5 dX5_lookInto_13
noncomputable def fc_X5_lookInto (a : Nat) (x1 : (Option Nat)) (x2 : (Option Nat)) (x3 : Int32) (x4 : (Option Nat)) (σ : cl_S) : Option (Int32 × cl_S) := bc_X5_lookInto_0 a x1 x2 x3 x4 σ
theorem kc_X5_lookInto (l : Launch) (D : cl_D) (c0 : Nat) {r : Int32} {a : Nat} {x1 : (Option Nat)} {x2 : (Option Nat)} {x3 : Int32} {x4 : (Option Nat)} {σ σ' : cl_S} (ha : (σ.2.2.2.1 a).1 = 21) (h : fc_X5_lookInto a x1 x2 x3 x4 σ = some (r, σ')) (f1 : cl_RT σ.2.2.2.1 x1 22) (f2 : cl_RT σ.2.2.2.1 x2 25) (f4 : cl_RT σ.2.2.2.1 x4 25) : cl_Met true l D c0 yX5_lookInto cX5_lookInto 5 (some .int) 2 45 [.ref (c0 + a), cl_rf c0 x1, cl_rf c0 x2, .int x3, cl_rf c0 x4] σ (some (.int r)) cl_no σ' :=
  by cases x1 <;> cases x2 <;> cases x4 <;> exact cl_of (by decide) (Nat.le_of_ble_eq_true rfl) (fun p e s m args below meth c ls C hn G hl => wc_X5_lookInto_0 C h G ha f1 f2 f4 hl)
abbrev cX5_checkSigned : ByteArray := prog_7_method_23_code
def yX5_checkSigned : MethodName := ⟨RX5, "checkSigned", "(LPartHouse$Partition;LPartHouse$Term;)I"⟩
theorem dX5_checkSigned_0 : decode cX5_checkSigned 0 = .ok (.aload_n 1, 1) := by decide +kernel
theorem dX5_checkSigned_1 : decode cX5_checkSigned 1 = .ok (.getfield 199, 3) := by decide +kernel
theorem dX5_checkSigned_4 : decode cX5_checkSigned 4 = .ok (.aload_n 1, 1) := by decide +kernel
theorem dX5_checkSigned_5 : decode cX5_checkSigned 5 = .ok (.getfield 121, 3) := by decide +kernel
theorem dX5_checkSigned_8 : decode cX5_checkSigned 8 = .ok (.getfield 193, 3) := by decide +kernel
theorem dX5_checkSigned_11 : decode cX5_checkSigned 11 = .ok (.iconst 2, 1) := by decide +kernel
theorem dX5_checkSigned_12 : decode cX5_checkSigned 12 = .ok (.iaload, 1) := by decide +kernel
theorem dX5_checkSigned_13 : decode cX5_checkSigned 13 = .ok (.invokevirtual 203, 3) := by decide +kernel
theorem dX5_checkSigned_16 : decode cX5_checkSigned 16 = .ok (.astore_n 3, 1) := by decide +kernel
theorem dX5_checkSigned_17 : decode cX5_checkSigned 17 = .ok (.aload_n 2, 1) := by decide +kernel
theorem dX5_checkSigned_18 : decode cX5_checkSigned 18 = .ok (.aload_n 0, 1) := by decide +kernel
theorem dX5_checkSigned_19 : decode cX5_checkSigned 19 = .ok (.getfield 51, 3) := by decide +kernel
theorem dX5_checkSigned_22 : decode cX5_checkSigned 22 = .ok (.getfield 83, 3) := by decide +kernel
theorem dX5_checkSigned_25 : decode cX5_checkSigned 25 = .ok (.if_acmp .eq 14, 3) := by decide +kernel
theorem dX5_checkSigned_28 : decode cX5_checkSigned 28 = .ok (.aload_n 3, 1) := by decide +kernel
theorem dX5_checkSigned_29 : decode cX5_checkSigned 29 = .ok (.aload_n 0, 1) := by decide +kernel
theorem dX5_checkSigned_30 : decode cX5_checkSigned 30 = .ok (.getfield 51, 3) := by decide +kernel
theorem dX5_checkSigned_33 : decode cX5_checkSigned 33 = .ok (.getfield 83, 3) := by decide +kernel
theorem dX5_checkSigned_36 : decode cX5_checkSigned 36 = .ok (.if_acmp .ne 6, 3) := by decide +kernel
theorem dX5_checkSigned_39 : decode cX5_checkSigned 39 = .ok (.bipush (-2), 2) := by decide +kernel
theorem dX5_checkSigned_41 : decode cX5_checkSigned 41 = .ok (.ireturn, 1) := by decide +kernel
theorem dX5_checkSigned_42 : decode cX5_checkSigned 42 = .ok (.aload_n 2, 1) := by decide +kernel
theorem dX5_checkSigned_43 : decode cX5_checkSigned 43 = .ok (.getfield 257, 3) := by decide +kernel
theorem dX5_checkSigned_46 : decode cX5_checkSigned 46 = .ok (.bipush 6, 2) := by decide +kernel
theorem dX5_checkSigned_48 : decode cX5_checkSigned 48 = .ok (.if_icmp .ne 27, 3) := by decide +kernel
theorem dX5_checkSigned_51 : decode cX5_checkSigned 51 = .ok (.aload_n 3, 1) := by decide +kernel
theorem dX5_checkSigned_52 : decode cX5_checkSigned 52 = .ok (.getfield 257, 3) := by decide +kernel
theorem dX5_checkSigned_55 : decode cX5_checkSigned 55 = .ok (.bipush 7, 2) := by decide +kernel
theorem dX5_checkSigned_57 : decode cX5_checkSigned 57 = .ok (.if_icmp .ne 18, 3) := by decide +kernel
theorem dX5_checkSigned_60 : decode cX5_checkSigned 60 = .ok (.aload_n 2, 1) := by decide +kernel
theorem dX5_checkSigned_61 : decode cX5_checkSigned 61 = .ok (.getfield 263, 3) := by decide +kernel
theorem dX5_checkSigned_64 : decode cX5_checkSigned 64 = .ok (.aload_n 3, 1) := by decide +kernel
theorem dX5_checkSigned_65 : decode cX5_checkSigned 65 = .ok (.getfield 263, 3) := by decide +kernel
theorem dX5_checkSigned_68 : decode cX5_checkSigned 68 = .ok (.if_acmp .ne 7, 3) := by decide +kernel
theorem dX5_checkSigned_71 : decode cX5_checkSigned 71 = .ok (.iconst 1, 1) := by decide +kernel
theorem dX5_checkSigned_72 : decode cX5_checkSigned 72 = .ok (.goto 4, 3) := by decide +kernel
theorem dX5_checkSigned_75 : decode cX5_checkSigned 75 = .ok (.iconst 0, 1) := by decide +kernel
theorem dX5_checkSigned_76 : decode cX5_checkSigned 76 = .ok (.ireturn, 1) := by decide +kernel
theorem cc_X5_checkSigned : Cond.code yX5_checkSigned cX5_checkSigned 4 (some .int) ∈ rf_tb := rf_at 1267 (by decide +kernel) (by decide +kernel)
noncomputable def bc_X5_checkSigned_0 (a : Nat) (x1 : (Option Nat)) (x2 : (Option Nat)) (σ : cl_S) : Option (Int32 × cl_S) := nn x1 (fun a_1 => ix (2:Int32) 16 (bd2 (fc_X8_at (a_1 + 9) (σ.1 ((a_1 + 1) + 2) (2:Int32).toNatClampNeg) σ) (fun r_9 σ_8 => vl (σ_8.2.2.1 31 4) (fun r_17 => (if x2 = r_17 then some ((-2:Int32), σ_8) else vl (σ_8.2.2.1 31 4) (fun r_22 => (if r_9 = r_22 then some ((-2:Int32), σ_8) else nn x2 (fun a_25 => (if (σ_8.1 a_25 0) = (6:Int32) then nn r_9 (fun a_28 => (if (σ_8.1 a_28 0) = (7:Int32) then vl (σ_8.2.2.1 a_25 3) (fun r_32 => vl (σ_8.2.2.1 a_28 3) (fun r_36 => (if r_32 = r_36 then some ((1:Int32), σ_8) else some ((0:Int32), σ_8)))) else some ((0:Int32), σ_8))) else some ((0:Int32), σ_8))))))))))
set_option maxHeartbeats 4000000 in
theorem wc_X5_checkSigned_0 (C : cl_C D p s m args meth c cX5_checkSigned 4 (some .int) RX5) {r : Int32} {a : Nat} {x1 : (Option Nat)} {x2 : (Option Nat)} {σ0 σ σ' : cl_S} {T : Nat → Nat × Nat} {H : Heap} {locs : List Loc} {ls : Array Slot} {cells slots : Nat} (h : bc_X5_checkSigned_0 a x1 x2 σ = some (r, σ')) (G : cl_G true D c0 ({ frames := 2, cells := σ0.2.2.2.2.2.1, slots := σ0.2.2.2.2.2.2, locals := 42 }) s σ0.2.2.2.1 T σ H locs cells slots) (ha : (T a).1 = 21) (f1 : cl_RT T x1 22) (f2 : cl_RT T x2 25) (hl : lv_has ls 4 [(0, .ref (c0 + a)), (1, cl_rf c0 x1), (2, cl_rf c0 x2)]) : W p l e ({ frames := 2, cells := σ0.2.2.2.2.2.1, slots := σ0.2.2.2.2.2.2, locals := 42 }) s m args below meth c H locs cells slots (MQ below (cl_Q true D c0 (some (.int r)) cl_no σ0 σ') args s (σ0.2.2.2.2.2.1 - σ'.2.2.2.2.2.1) (σ0.2.2.2.2.2.2 - σ'.2.2.2.2.2.2) (cl_A c0 σ0.2.2.2.1 s.heap.size)) (F0 m 0 ls []) := by
  unfold bc_X5_checkSigned_0 at h
  refine cl_aload_n C.1 C.2.1 dX5_checkSigned_0 rfl (lv_at hl 1 rfl) ?_
  obtain ⟨a_1, rfl, h_3⟩ := nn_some h
  have t_2 := f1 _ rfl
  refine cg_5_199 C G t_2 dX5_checkSigned_1 (fun t_4 => ?_)
  have t_4 : (T (a_1 + 9)).1 = 24 := by rw [t_4]
  refine lv_aload_n C.1 C.2.1 dX5_checkSigned_4 rfl (lv_at hl 1 rfl) ?_
  refine cg_5_121 C G t_2 dX5_checkSigned_5 (fun t_5 => ?_)
  have t_5 : (T (a_1 + 1)).1 = 18 := by rw [t_5]
  refine cg_5_193 C G t_5 dX5_checkSigned_8 (fun t_6 => ?_)
  refine lv_iconst (v := (2:Int32)) C.1 C.2.1 dX5_checkSigned_11 (by decide) ?_
  obtain ⟨hi, h_7⟩ := ix_some h_3
  refine cl_iald C G t_6 hi dX5_checkSigned_12 ?_
  obtain ⟨r_9, σ_8, hq, h_10⟩ := bd2_some h_7
  refine cl_callV (ci := 8) (rest := []) C G rfl t_4 cw_RX5_203 [.int (σ.1 ((a_1 + 1) + 2) (2:Int32).toNatClampNeg)] _ (kc_X8_at l D c0 (by rw [G.1]; exact t_4) hq) (Nat.le_of_ble_eq_true rfl) (Nat.le_of_ble_eq_true rfl) rfl rfl hl.1 (Nat.le_of_ble_eq_true rfl) dX5_checkSigned_13 (fun T_11 H locs cells slots t_12 hu G_13 => ?_)
  have ha := hu.kind ha (by decide)
  have t_2 := hu.kind t_2 (by decide)
  have f2 := f2.up hu (by decide)
  refine W.eq (g2 := F0 m 16 ls [cl_rf c0 r_9]) rfl ?_
  refine cl_astore_n (lv' := [(3, cl_rf c0 r_9), (0, .ref (c0 + a)), (1, .ref (c0 + a_1)), (2, cl_rf c0 x2)]) C.1 C.2.1 dX5_checkSigned_16 rfl hl (by decide) (by first | rfl | (cases x2 <;> rfl)) (fun ls hl_14 => ?_)
  refine cl_aload_n C.1 C.2.1 dX5_checkSigned_17 rfl (lv_at hl_14 3 rfl) ?_
  refine lv_aload_n C.1 C.2.1 dX5_checkSigned_18 rfl (lv_at hl_14 1 rfl) ?_
  refine cg_5_51 C G_13 ha dX5_checkSigned_19 (fun t_15 => ?_)
  have t_15 : (T_11 31).1 = 26 := by rw [t_15]
  refine cg_5_83 C G_13 t_15 dX5_checkSigned_22 (fun t_16 => ?_)
  refine vt_r (K := 25) t_16 h_10 (fun r_17 t_18 h_19 => ?_)
  refine cl_acmp_eq (rx := x2) (ry := r_17) (tgt := 39) C.1 C.2.1 dX5_checkSigned_25 (by decide) (fun hc => ?_) (fun hc => ?_)
  · rw [if_pos hc] at h_19
    refine lv_bipush (v := (-2:Int32)) C.1 C.2.1 dX5_checkSigned_39 (by decide) ?_
    exact cl_iret ⟨rfl, rfl⟩ rfl C G_13 h_19 dX5_checkSigned_41
  · rw [if_neg hc] at h_19
    refine cl_aload_n C.1 C.2.1 dX5_checkSigned_28 rfl (lv_at hl_14 0 rfl) ?_
    refine lv_aload_n C.1 C.2.1 dX5_checkSigned_29 rfl (lv_at hl_14 1 rfl) ?_
    refine cg_5_51 C G_13 ha dX5_checkSigned_30 (fun t_20 => ?_)
    have t_20 : (T_11 31).1 = 26 := by rw [t_20]
    refine cg_5_83 C G_13 t_20 dX5_checkSigned_33 (fun t_21 => ?_)
    refine vt_r (K := 25) t_21 h_19 (fun r_22 t_23 h_24 => ?_)
    refine cl_acmp_ne (rx := r_9) (ry := r_22) (tgt := 42) C.1 C.2.1 dX5_checkSigned_36 (by decide) (fun hc => ?_) (fun hc => ?_)
    · rw [if_neg hc] at h_24
      refine cl_aload_n C.1 C.2.1 dX5_checkSigned_42 rfl (lv_at hl_14 3 rfl) ?_
      obtain ⟨a_25, rfl, h_27⟩ := nn_some h_24
      have t_26 := f2 _ rfl
      refine cg_5_257 C G_13 t_26 dX5_checkSigned_43 ?_
      refine lv_bipush (v := (6:Int32)) C.1 C.2.1 dX5_checkSigned_46 (by decide) ?_
      refine lv_icmp_ne (tgt := 75) C.1 C.2.1 dX5_checkSigned_48 (by decide) (fun hc => ?_) (fun hc => ?_)
      · rw [if_neg hc] at h_27
        refine lv_iconst (v := (0:Int32)) C.1 C.2.1 dX5_checkSigned_75 (by decide) ?_
        exact cl_iret ⟨rfl, rfl⟩ rfl C G_13 h_27 dX5_checkSigned_76
      · rw [if_pos hc] at h_27
        refine cl_aload_n C.1 C.2.1 dX5_checkSigned_51 rfl (lv_at hl_14 0 rfl) ?_
        obtain ⟨a_28, rfl, h_30⟩ := nn_some h_27
        have t_29 := t_12 _ rfl
        refine cg_5_257 C G_13 t_29 dX5_checkSigned_52 ?_
        refine lv_bipush (v := (7:Int32)) C.1 C.2.1 dX5_checkSigned_55 (by decide) ?_
        refine lv_icmp_ne (tgt := 75) C.1 C.2.1 dX5_checkSigned_57 (by decide) (fun hc => ?_) (fun hc => ?_)
        · rw [if_neg hc] at h_30
          refine lv_iconst (v := (0:Int32)) C.1 C.2.1 dX5_checkSigned_75 (by decide) ?_
          exact cl_iret ⟨rfl, rfl⟩ rfl C G_13 h_30 dX5_checkSigned_76
        · rw [if_pos hc] at h_30
          refine lv_aload_n C.1 C.2.1 dX5_checkSigned_60 rfl (lv_at hl_14 3 rfl) ?_
          refine cg_5_263 C G_13 t_26 dX5_checkSigned_61 (fun t_31 => ?_)
          refine vt_r (K := 25) t_31 h_30 (fun r_32 t_33 h_34 => ?_)
          refine lv_aload_n C.1 C.2.1 dX5_checkSigned_64 rfl (lv_at hl_14 0 rfl) ?_
          refine cg_5_263 C G_13 t_29 dX5_checkSigned_65 (fun t_35 => ?_)
          refine vt_r (K := 25) t_35 h_34 (fun r_36 t_37 h_38 => ?_)
          refine cl_acmp_ne (rx := r_32) (ry := r_36) (tgt := 75) C.1 C.2.1 dX5_checkSigned_68 (by decide) (fun hc => ?_) (fun hc => ?_)
          · rw [if_neg hc] at h_38
            refine lv_iconst (v := (0:Int32)) C.1 C.2.1 dX5_checkSigned_75 (by decide) ?_
            exact cl_iret ⟨rfl, rfl⟩ rfl C G_13 h_38 dX5_checkSigned_76
          · rw [if_pos hc] at h_38
            refine lv_iconst (v := (1:Int32)) C.1 C.2.1 dX5_checkSigned_71 (by decide) ?_
            refine lv_goto (tgt := 76) C.1 C.2.1 dX5_checkSigned_72 (by decide) ?_
            exact cl_iret ⟨rfl, rfl⟩ rfl C G_13 h_38 dX5_checkSigned_76
    · rw [if_pos hc] at h_24
      refine lv_bipush (v := (-2:Int32)) C.1 C.2.1 dX5_checkSigned_39 (by decide) ?_
      exact cl_iret ⟨rfl, rfl⟩ rfl C G_13 h_24 dX5_checkSigned_41
noncomputable def fc_X5_checkSigned (a : Nat) (x1 : (Option Nat)) (x2 : (Option Nat)) (σ : cl_S) : Option (Int32 × cl_S) := bc_X5_checkSigned_0 a x1 x2 σ
theorem kc_X5_checkSigned (l : Launch) (D : cl_D) (c0 : Nat) {r : Int32} {a : Nat} {x1 : (Option Nat)} {x2 : (Option Nat)} {σ σ' : cl_S} (ha : (σ.2.2.2.1 a).1 = 21) (h : fc_X5_checkSigned a x1 x2 σ = some (r, σ')) (f1 : cl_RT σ.2.2.2.1 x1 22) (f2 : cl_RT σ.2.2.2.1 x2 25) : cl_Met true l D c0 yX5_checkSigned cX5_checkSigned 4 (some .int) 2 42 [.ref (c0 + a), cl_rf c0 x1, cl_rf c0 x2] σ (some (.int r)) cl_no σ' :=
  by cases x1 <;> cases x2 <;> exact cl_of (by decide) (Nat.le_of_ble_eq_true rfl) (fun p e s m args below meth c ls C hn G hl => wc_X5_checkSigned_0 C h G ha f1 f2 hl)
abbrev cX5_openClosed : ByteArray := prog_7_method_24_code
def yX5_openClosed : MethodName := ⟨RX5, "openClosed", "(LPartHouse$Partition;LPartHouse$Term;)I"⟩
theorem dX5_openClosed_0 : decode cX5_openClosed 0 = .ok (.aload_n 1, 1) := by decide +kernel
theorem dX5_openClosed_1 : decode cX5_openClosed 1 = .ok (.getfield 199, 3) := by decide +kernel
theorem dX5_openClosed_4 : decode cX5_openClosed 4 = .ok (.aload_n 1, 1) := by decide +kernel
theorem dX5_openClosed_5 : decode cX5_openClosed 5 = .ok (.getfield 121, 3) := by decide +kernel
theorem dX5_openClosed_8 : decode cX5_openClosed 8 = .ok (.getfield 193, 3) := by decide +kernel
theorem dX5_openClosed_11 : decode cX5_openClosed 11 = .ok (.iconst 2, 1) := by decide +kernel
theorem dX5_openClosed_12 : decode cX5_openClosed 12 = .ok (.iaload, 1) := by decide +kernel
theorem dX5_openClosed_13 : decode cX5_openClosed 13 = .ok (.invokevirtual 203, 3) := by decide +kernel
theorem dX5_openClosed_16 : decode cX5_openClosed 16 = .ok (.astore_n 3, 1) := by decide +kernel
theorem dX5_openClosed_17 : decode cX5_openClosed 17 = .ok (.aload_n 2, 1) := by decide +kernel
theorem dX5_openClosed_18 : decode cX5_openClosed 18 = .ok (.aload_n 0, 1) := by decide +kernel
theorem dX5_openClosed_19 : decode cX5_openClosed 19 = .ok (.getfield 51, 3) := by decide +kernel
theorem dX5_openClosed_22 : decode cX5_openClosed 22 = .ok (.getfield 83, 3) := by decide +kernel
theorem dX5_openClosed_25 : decode cX5_openClosed 25 = .ok (.if_acmp .eq 14, 3) := by decide +kernel
theorem dX5_openClosed_28 : decode cX5_openClosed 28 = .ok (.aload_n 3, 1) := by decide +kernel
theorem dX5_openClosed_29 : decode cX5_openClosed 29 = .ok (.aload_n 0, 1) := by decide +kernel
theorem dX5_openClosed_30 : decode cX5_openClosed 30 = .ok (.getfield 51, 3) := by decide +kernel
theorem dX5_openClosed_33 : decode cX5_openClosed 33 = .ok (.getfield 83, 3) := by decide +kernel
theorem dX5_openClosed_36 : decode cX5_openClosed 36 = .ok (.if_acmp .ne 6, 3) := by decide +kernel
theorem dX5_openClosed_39 : decode cX5_openClosed 39 = .ok (.bipush (-2), 2) := by decide +kernel
theorem dX5_openClosed_41 : decode cX5_openClosed 41 = .ok (.ireturn, 1) := by decide +kernel
theorem dX5_openClosed_42 : decode cX5_openClosed 42 = .ok (.aload_n 3, 1) := by decide +kernel
theorem dX5_openClosed_43 : decode cX5_openClosed 43 = .ok (.getfield 263, 3) := by decide +kernel
theorem dX5_openClosed_46 : decode cX5_openClosed 46 = .ok (.aload_n 2, 1) := by decide +kernel
theorem dX5_openClosed_47 : decode cX5_openClosed 47 = .ok (.if_acmp .ne 18, 3) := by decide +kernel
theorem dX5_openClosed_50 : decode cX5_openClosed 50 = .ok (.aload_n 0, 1) := by decide +kernel
theorem dX5_openClosed_51 : decode cX5_openClosed 51 = .ok (.aload_n 1, 1) := by decide +kernel
theorem dX5_openClosed_52 : decode cX5_openClosed 52 = .ok (.aload_n 3, 1) := by decide +kernel
theorem dX5_openClosed_53 : decode cX5_openClosed 53 = .ok (.bipush 8, 2) := by decide +kernel
theorem dX5_openClosed_55 : decode cX5_openClosed 55 = .ok (.aload_n 3, 1) := by decide +kernel
theorem dX5_openClosed_56 : decode cX5_openClosed 56 = .ok (.getfield 348, 3) := by decide +kernel
theorem dX5_openClosed_59 : decode cX5_openClosed 59 = .ok (.invokevirtual 266, 3) := by decide +kernel
theorem dX5_openClosed_62 : decode cX5_openClosed 62 = .ok (.goto 5, 3) := by decide +kernel
theorem dX5_openClosed_65 : decode cX5_openClosed 65 = .ok (.bipush (-3), 2) := by decide +kernel
theorem dX5_openClosed_67 : decode cX5_openClosed 67 = .ok (.ireturn, 1) := by decide +kernel
theorem cc_X5_openClosed : Cond.code yX5_openClosed cX5_openClosed 4 (some .int) ∈ rf_tb := rf_at 1271 (by decide +kernel) (by decide +kernel)
theorem cw_RX5_266 : cl_wV RX5 RX5 yX5_lookInto cX5_lookInto 5 (some .int) 266 4 := ⟨⟨rf_at 1260 (by decide +kernel) (by decide +kernel), rf_at 1262 (by decide +kernel) (by decide +kernel), rf_sel (q := (yX5_lookInto, 20)) 53 (by decide +kernel) (by decide +kernel), cc_X5_lookInto, rf_at 13 (by decide +kernel) (by decide +kernel)⟩, ⟨by decide, by decide, by decide +kernel⟩⟩
noncomputable def bc_X5_openClosed_0 (a : Nat) (x1 : (Option Nat)) (x2 : (Option Nat)) (σ : cl_S) : Option (Int32 × cl_S) := nn x1 (fun a_1 => ix (2:Int32) 16 (bd2 (fc_X8_at (a_1 + 9) (σ.1 ((a_1 + 1) + 2) (2:Int32).toNatClampNeg) σ) (fun r_9 σ_8 => vl (σ_8.2.2.1 31 4) (fun r_17 => (if x2 = r_17 then some ((-2:Int32), σ_8) else vl (σ_8.2.2.1 31 4) (fun r_22 => (if r_9 = r_22 then some ((-2:Int32), σ_8) else nn r_9 (fun a_25 => vl (σ_8.2.2.1 a_25 3) (fun r_29 => (if r_29 = x2 then vl (σ_8.2.2.1 a_25 5) (fun r_33 => bd2 (fc_X5_lookInto a (some a_1) (some a_25) (8:Int32) r_33 σ_8) (fun r_37 σ_36 => some (r_37, σ_36))) else some ((-3:Int32), σ_8)))))))))))
set_option maxHeartbeats 4000000 in
theorem wc_X5_openClosed_0 (C : cl_C D p s m args meth c cX5_openClosed 4 (some .int) RX5) {r : Int32} {a : Nat} {x1 : (Option Nat)} {x2 : (Option Nat)} {σ0 σ σ' : cl_S} {T : Nat → Nat × Nat} {H : Heap} {locs : List Loc} {ls : Array Slot} {cells slots : Nat} (h : bc_X5_openClosed_0 a x1 x2 σ = some (r, σ')) (G : cl_G true D c0 ({ frames := 3, cells := σ0.2.2.2.2.2.1, slots := σ0.2.2.2.2.2.2, locals := 69 }) s σ0.2.2.2.1 T σ H locs cells slots) (ha : (T a).1 = 21) (f1 : cl_RT T x1 22) (f2 : cl_RT T x2 25) (hl : lv_has ls 4 [(0, .ref (c0 + a)), (1, cl_rf c0 x1), (2, cl_rf c0 x2)]) : W p l e ({ frames := 3, cells := σ0.2.2.2.2.2.1, slots := σ0.2.2.2.2.2.2, locals := 69 }) s m args below meth c H locs cells slots (MQ below (cl_Q true D c0 (some (.int r)) cl_no σ0 σ') args s (σ0.2.2.2.2.2.1 - σ'.2.2.2.2.2.1) (σ0.2.2.2.2.2.2 - σ'.2.2.2.2.2.2) (cl_A c0 σ0.2.2.2.1 s.heap.size)) (F0 m 0 ls []) := by
  unfold bc_X5_openClosed_0 at h
  refine cl_aload_n C.1 C.2.1 dX5_openClosed_0 rfl (lv_at hl 1 rfl) ?_
  obtain ⟨a_1, rfl, h_3⟩ := nn_some h
  have t_2 := f1 _ rfl
  refine cg_5_199 C G t_2 dX5_openClosed_1 (fun t_4 => ?_)
  have t_4 : (T (a_1 + 9)).1 = 24 := by rw [t_4]
  refine lv_aload_n C.1 C.2.1 dX5_openClosed_4 rfl (lv_at hl 1 rfl) ?_
  refine cg_5_121 C G t_2 dX5_openClosed_5 (fun t_5 => ?_)
  have t_5 : (T (a_1 + 1)).1 = 18 := by rw [t_5]
  refine cg_5_193 C G t_5 dX5_openClosed_8 (fun t_6 => ?_)
  refine lv_iconst (v := (2:Int32)) C.1 C.2.1 dX5_openClosed_11 (by decide) ?_
  obtain ⟨hi, h_7⟩ := ix_some h_3
  refine cl_iald C G t_6 hi dX5_openClosed_12 ?_
  obtain ⟨r_9, σ_8, hq, h_10⟩ := bd2_some h_7
  refine cl_callV (ci := 8) (rest := []) C G rfl t_4 cw_RX5_203 [.int (σ.1 ((a_1 + 1) + 2) (2:Int32).toNatClampNeg)] _ (kc_X8_at l D c0 (by rw [G.1]; exact t_4) hq) (Nat.le_of_ble_eq_true rfl) (Nat.le_of_ble_eq_true rfl) rfl rfl hl.1 (Nat.le_of_ble_eq_true rfl) dX5_openClosed_13 (fun T_11 H locs cells slots t_12 hu G_13 => ?_)
  have ha := hu.kind ha (by decide)
  have t_2 := hu.kind t_2 (by decide)
  have f2 := f2.up hu (by decide)
  refine W.eq (g2 := F0 m 16 ls [cl_rf c0 r_9]) rfl ?_
  refine cl_astore_n (lv' := [(3, cl_rf c0 r_9), (0, .ref (c0 + a)), (1, .ref (c0 + a_1)), (2, cl_rf c0 x2)]) C.1 C.2.1 dX5_openClosed_16 rfl hl (by decide) (by first | rfl | (cases x2 <;> rfl)) (fun ls hl_14 => ?_)
  refine cl_aload_n C.1 C.2.1 dX5_openClosed_17 rfl (lv_at hl_14 3 rfl) ?_
  refine lv_aload_n C.1 C.2.1 dX5_openClosed_18 rfl (lv_at hl_14 1 rfl) ?_
  refine cg_5_51 C G_13 ha dX5_openClosed_19 (fun t_15 => ?_)
  have t_15 : (T_11 31).1 = 26 := by rw [t_15]
  refine cg_5_83 C G_13 t_15 dX5_openClosed_22 (fun t_16 => ?_)
  refine vt_r (K := 25) t_16 h_10 (fun r_17 t_18 h_19 => ?_)
  refine cl_acmp_eq (rx := x2) (ry := r_17) (tgt := 39) C.1 C.2.1 dX5_openClosed_25 (by decide) (fun hc => ?_) (fun hc => ?_)
  · rw [if_pos hc] at h_19
    refine lv_bipush (v := (-2:Int32)) C.1 C.2.1 dX5_openClosed_39 (by decide) ?_
    exact cl_iret ⟨rfl, rfl⟩ rfl C G_13 h_19 dX5_openClosed_41
  · rw [if_neg hc] at h_19
    refine cl_aload_n C.1 C.2.1 dX5_openClosed_28 rfl (lv_at hl_14 0 rfl) ?_
    refine lv_aload_n C.1 C.2.1 dX5_openClosed_29 rfl (lv_at hl_14 1 rfl) ?_
    refine cg_5_51 C G_13 ha dX5_openClosed_30 (fun t_20 => ?_)
    have t_20 : (T_11 31).1 = 26 := by rw [t_20]
    refine cg_5_83 C G_13 t_20 dX5_openClosed_33 (fun t_21 => ?_)
    refine vt_r (K := 25) t_21 h_19 (fun r_22 t_23 h_24 => ?_)
    refine cl_acmp_ne (rx := r_9) (ry := r_22) (tgt := 42) C.1 C.2.1 dX5_openClosed_36 (by decide) (fun hc => ?_) (fun hc => ?_)
    · rw [if_neg hc] at h_24
      refine cl_aload_n C.1 C.2.1 dX5_openClosed_42 rfl (lv_at hl_14 0 rfl) ?_
      obtain ⟨a_25, rfl, h_27⟩ := nn_some h_24
      have t_26 := t_12 _ rfl
      refine cg_5_263 C G_13 t_26 dX5_openClosed_43 (fun t_28 => ?_)
      refine vt_r (K := 25) t_28 h_27 (fun r_29 t_30 h_31 => ?_)
      refine cl_aload_n C.1 C.2.1 dX5_openClosed_46 rfl (lv_at hl_14 3 rfl) ?_
      refine cl_acmp_ne (rx := r_29) (ry := x2) (tgt := 65) C.1 C.2.1 dX5_openClosed_47 (by decide) (fun hc => ?_) (fun hc => ?_)
      · rw [if_neg hc] at h_31
        refine lv_bipush (v := (-3:Int32)) C.1 C.2.1 dX5_openClosed_65 (by decide) ?_
        exact cl_iret ⟨rfl, rfl⟩ rfl C G_13 h_31 dX5_openClosed_67
      · rw [if_pos hc] at h_31
        refine lv_aload_n C.1 C.2.1 dX5_openClosed_50 rfl (lv_at hl_14 1 rfl) ?_
        refine lv_aload_n C.1 C.2.1 dX5_openClosed_51 rfl (lv_at hl_14 2 rfl) ?_
        refine lv_aload_n C.1 C.2.1 dX5_openClosed_52 rfl (lv_at hl_14 0 rfl) ?_
        refine lv_bipush (v := (8:Int32)) C.1 C.2.1 dX5_openClosed_53 (by decide) ?_
        refine lv_aload_n C.1 C.2.1 dX5_openClosed_55 rfl (lv_at hl_14 0 rfl) ?_
        refine cg_5_348 C G_13 t_26 dX5_openClosed_56 (fun t_32 => ?_)
        refine vt_r (K := 25) t_32 h_31 (fun r_33 t_34 h_35 => ?_)
        obtain ⟨r_37, σ_36, hq, h_38⟩ := bd2_some h_35
        refine cl_callV (ci := 5) (rest := []) C G_13 rfl ha cw_RX5_266 [.ref (c0 + a_1), .ref (c0 + a_25), .int (8:Int32), cl_rf c0 r_33] _ (kc_X5_lookInto l D c0 (by rw [G_13.1]; exact ha) hq (by rw [G_13.1]; exact (cl_RTs t_2)) (by rw [G_13.1]; exact (cl_RTs t_26)) (by rw [G_13.1]; exact t_34)) (Nat.le_of_ble_eq_true rfl) (Nat.le_of_ble_eq_true rfl) rfl rfl hl_14.1 (Nat.le_of_ble_eq_true rfl) dX5_openClosed_59 (fun T_39 H locs cells slots t_40 hu G_41 => ?_)
        have t_26 := hu.kind t_26 (by decide)
        have ha := hu.kind ha (by decide)
        have t_2 := hu.kind t_2 (by decide)
        have f2 := f2.up hu (by decide)
        refine W.eq (g2 := F0 m 62 ls [.int r_37]) rfl ?_
        refine lv_goto (tgt := 67) C.1 C.2.1 dX5_openClosed_62 (by decide) ?_
        exact cl_iret ⟨rfl, rfl⟩ rfl C G_41 h_38 dX5_openClosed_67
    · rw [if_pos hc] at h_24
      refine lv_bipush (v := (-2:Int32)) C.1 C.2.1 dX5_openClosed_39 (by decide) ?_
      exact cl_iret ⟨rfl, rfl⟩ rfl C G_13 h_24 dX5_openClosed_41
noncomputable def fc_X5_openClosed (a : Nat) (x1 : (Option Nat)) (x2 : (Option Nat)) (σ : cl_S) : Option (Int32 × cl_S) := bc_X5_openClosed_0 a x1 x2 σ
theorem kc_X5_openClosed (l : Launch) (D : cl_D) (c0 : Nat) {r : Int32} {a : Nat} {x1 : (Option Nat)} {x2 : (Option Nat)} {σ σ' : cl_S} (ha : (σ.2.2.2.1 a).1 = 21) (h : fc_X5_openClosed a x1 x2 σ = some (r, σ')) (f1 : cl_RT σ.2.2.2.1 x1 22) (f2 : cl_RT σ.2.2.2.1 x2 25) : cl_Met true l D c0 yX5_openClosed cX5_openClosed 4 (some .int) 3 69 [.ref (c0 + a), cl_rf c0 x1, cl_rf c0 x2] σ (some (.int r)) cl_no σ' :=
  by cases x1 <;> cases x2 <;> exact cl_of (by decide) (Nat.le_of_ble_eq_true rfl) (fun p e s m args below meth c ls C hn G hl => wc_X5_openClosed_0 C h G ha f1 f2 hl)
abbrev cX5_quote : ByteArray := prog_7_method_25_code
def yX5_quote : MethodName := ⟨RX5, "quote", "(LPartHouse$Partition;LPartHouse$Term;)I"⟩
theorem dX5_quote_0 : decode cX5_quote 0 = .ok (.aload_n 2, 1) := by decide +kernel
theorem dX5_quote_1 : decode cX5_quote 1 = .ok (.aload_n 0, 1) := by decide +kernel
theorem dX5_quote_2 : decode cX5_quote 2 = .ok (.getfield 51, 3) := by decide +kernel
theorem dX5_quote_5 : decode cX5_quote 5 = .ok (.getfield 83, 3) := by decide +kernel
theorem dX5_quote_8 : decode cX5_quote 8 = .ok (.if_acmp .ne 6, 3) := by decide +kernel
theorem dX5_quote_11 : decode cX5_quote 11 = .ok (.bipush (-2), 2) := by decide +kernel
theorem dX5_quote_13 : decode cX5_quote 13 = .ok (.ireturn, 1) := by decide +kernel
theorem dX5_quote_14 : decode cX5_quote 14 = .ok (.aload_n 0, 1) := by decide +kernel
theorem dX5_quote_15 : decode cX5_quote 15 = .ok (.getfield 51, 3) := by decide +kernel
theorem dX5_quote_18 : decode cX5_quote 18 = .ok (.iconst 3, 1) := by decide +kernel
theorem dX5_quote_19 : decode cX5_quote 19 = .ok (.iconst 0, 1) := by decide +kernel
theorem dX5_quote_20 : decode cX5_quote 20 = .ok (.aload_n 1, 1) := by decide +kernel
theorem dX5_quote_21 : decode cX5_quote 21 = .ok (.getfield 279, 3) := by decide +kernel
theorem dX5_quote_24 : decode cX5_quote 24 = .ok (.aload_n 2, 1) := by decide +kernel
theorem dX5_quote_25 : decode cX5_quote 25 = .ok (.aload_n 0, 1) := by decide +kernel
theorem dX5_quote_26 : decode cX5_quote 26 = .ok (.getfield 51, 3) := by decide +kernel
theorem dX5_quote_29 : decode cX5_quote 29 = .ok (.getfield 83, 3) := by decide +kernel
theorem dX5_quote_32 : decode cX5_quote 32 = .ok (.invokevirtual 351, 3) := by decide +kernel
theorem dX5_quote_35 : decode cX5_quote 35 = .ok (.astore_n 3, 1) := by decide +kernel
theorem dX5_quote_36 : decode cX5_quote 36 = .ok (.aload_n 3, 1) := by decide +kernel
theorem dX5_quote_37 : decode cX5_quote 37 = .ok (.aload_n 0, 1) := by decide +kernel
theorem dX5_quote_38 : decode cX5_quote 38 = .ok (.getfield 51, 3) := by decide +kernel
theorem dX5_quote_41 : decode cX5_quote 41 = .ok (.getfield 83, 3) := by decide +kernel
theorem dX5_quote_44 : decode cX5_quote 44 = .ok (.if_acmp .ne 38, 3) := by decide +kernel
theorem dX5_quote_47 : decode cX5_quote 47 = .ok (.aload_n 1, 1) := by decide +kernel
theorem dX5_quote_48 : decode cX5_quote 48 = .ok (.getfield 199, 3) := by decide +kernel
theorem dX5_quote_51 : decode cX5_quote 51 = .ok (.invokevirtual 355, 3) := by decide +kernel
theorem dX5_quote_54 : decode cX5_quote 54 = .ok (.ifCond .eq 6, 3) := by decide +kernel
theorem dX5_quote_57 : decode cX5_quote 57 = .ok (.bipush (-4), 2) := by decide +kernel
theorem dX5_quote_59 : decode cX5_quote 59 = .ok (.ireturn, 1) := by decide +kernel
theorem dX5_quote_60 : decode cX5_quote 60 = .ok (.aload_n 0, 1) := by decide +kernel
theorem dX5_quote_61 : decode cX5_quote 61 = .ok (.getfield 51, 3) := by decide +kernel
theorem dX5_quote_64 : decode cX5_quote 64 = .ok (.iconst 3, 1) := by decide +kernel
theorem dX5_quote_65 : decode cX5_quote 65 = .ok (.iconst 0, 1) := by decide +kernel
theorem dX5_quote_66 : decode cX5_quote 66 = .ok (.aload_n 1, 1) := by decide +kernel
theorem dX5_quote_67 : decode cX5_quote 67 = .ok (.getfield 279, 3) := by decide +kernel
theorem dX5_quote_70 : decode cX5_quote 70 = .ok (.aload_n 2, 1) := by decide +kernel
theorem dX5_quote_71 : decode cX5_quote 71 = .ok (.aload_n 0, 1) := by decide +kernel
theorem dX5_quote_72 : decode cX5_quote 72 = .ok (.getfield 51, 3) := by decide +kernel
theorem dX5_quote_75 : decode cX5_quote 75 = .ok (.getfield 83, 3) := by decide +kernel
theorem dX5_quote_78 : decode cX5_quote 78 = .ok (.invokevirtual 359, 3) := by decide +kernel
theorem dX5_quote_81 : decode cX5_quote 81 = .ok (.astore_n 3, 1) := by decide +kernel
theorem dX5_quote_82 : decode cX5_quote 82 = .ok (.aload_n 1, 1) := by decide +kernel
theorem dX5_quote_83 : decode cX5_quote 83 = .ok (.getfield 199, 3) := by decide +kernel
theorem dX5_quote_86 : decode cX5_quote 86 = .ok (.bipush 7, 2) := by decide +kernel
theorem dX5_quote_88 : decode cX5_quote 88 = .ok (.iconst 0, 1) := by decide +kernel
theorem dX5_quote_89 : decode cX5_quote 89 = .ok (.aload_n 0, 1) := by decide +kernel
theorem dX5_quote_90 : decode cX5_quote 90 = .ok (.getfield 51, 3) := by decide +kernel
theorem dX5_quote_93 : decode cX5_quote 93 = .ok (.getfield 362, 3) := by decide +kernel
theorem dX5_quote_96 : decode cX5_quote 96 = .ok (.aload_n 3, 1) := by decide +kernel
theorem dX5_quote_97 : decode cX5_quote 97 = .ok (.aload_n 0, 1) := by decide +kernel
theorem dX5_quote_98 : decode cX5_quote 98 = .ok (.getfield 51, 3) := by decide +kernel
theorem dX5_quote_101 : decode cX5_quote 101 = .ok (.getfield 83, 3) := by decide +kernel
theorem dX5_quote_104 : decode cX5_quote 104 = .ok (.invokevirtual 247, 3) := by decide +kernel
theorem dX5_quote_107 : decode cX5_quote 107 = .ok (.ireturn, 1) := by decide +kernel
theorem cc_X5_quote : Cond.code yX5_quote cX5_quote 4 (some .int) ∈ rf_tb := rf_at 1275 (by decide +kernel) (by decide +kernel)
theorem cw_RX5_351 : cl_wV RX5 RX10 yX10_find cX10_find 7 (some (.object "PartHouse$Term")) 351 5 := ⟨⟨rf_at 1276 (by decide +kernel) (by decide +kernel), rf_at 307 (by decide +kernel) (by decide +kernel), rf_at 308 (by decide +kernel) (by decide +kernel), cc_X10_find, rf_at 9 (by decide +kernel) (by decide +kernel)⟩, ⟨by decide, by decide, by decide +kernel⟩⟩
theorem cw_RX5_355 : cl_wV RX5 RX8 yX8_isFull cX8_isFull 1 (some .boolean) 355 0 := ⟨⟨rf_at 1277 (by decide +kernel) (by decide +kernel), rf_at 1222 (by decide +kernel) (by decide +kernel), rf_at 1223 (by decide +kernel) (by decide +kernel), cc_X8_isFull, rf_at 11 (by decide +kernel) (by decide +kernel)⟩, ⟨by decide, by decide, by decide +kernel⟩⟩
theorem cw_RX5_359 : cl_wV RX5 RX10 yX10_add cX10_add 8 (some (.object "PartHouse$Term")) 359 5 := ⟨⟨rf_at 1278 (by decide +kernel) (by decide +kernel), rf_at 291 (by decide +kernel) (by decide +kernel), rf_at 292 (by decide +kernel) (by decide +kernel), cc_X10_add, rf_at 9 (by decide +kernel) (by decide +kernel)⟩, ⟨by decide, by decide, by decide +kernel⟩⟩
noncomputable def bc_X5_quote_82 (a : Nat) (x1 : (Option Nat)) (x3 : (Option Nat)) (σ : cl_S) : Option (Int32 × cl_S) := nn x1 (fun a_31 => vl (σ.2.2.1 31 6) (fun r_37 => vl (σ.2.2.1 31 4) (fun r_42 => bd2 (fc_X8_comeInMade (a_31 + 9) (7:Int32) (0:Int32) r_37 x3 r_42 σ) (fun r_46 σ_45 => some (r_46, σ_45)))))
set_option maxHeartbeats 4000000 in
theorem wc_X5_quote_82 (C : cl_C D p s m args meth c cX5_quote 4 (some .int) RX5) {r : Int32} {a : Nat} {x1 : (Option Nat)} {x3 : (Option Nat)} {σ0 σ σ' : cl_S} {T : Nat → Nat × Nat} {H : Heap} {locs : List Loc} {ls : Array Slot} {cells slots : Nat} (h : bc_X5_quote_82 a x1 x3 σ = some (r, σ')) (G : cl_G true D c0 ({ frames := 4, cells := σ0.2.2.2.2.2.1, slots := σ0.2.2.2.2.2.2, locals := 97 }) s σ0.2.2.2.1 T σ H locs cells slots) (ha : (T a).1 = 21) (f1 : cl_RT T x1 22) (f3 : cl_RT T x3 25) (hl : lv_has ls 4 [(0, .ref (c0 + a)), (1, cl_rf c0 x1), (3, cl_rf c0 x3)]) : W p l e ({ frames := 4, cells := σ0.2.2.2.2.2.1, slots := σ0.2.2.2.2.2.2, locals := 97 }) s m args below meth c H locs cells slots (MQ below (cl_Q true D c0 (some (.int r)) cl_no σ0 σ') args s (σ0.2.2.2.2.2.1 - σ'.2.2.2.2.2.1) (σ0.2.2.2.2.2.2 - σ'.2.2.2.2.2.2) (cl_A c0 σ0.2.2.2.1 s.heap.size)) (F0 m 82 ls []) := by
  unfold bc_X5_quote_82 at h
  refine cl_aload_n C.1 C.2.1 dX5_quote_82 rfl (lv_at hl 1 rfl) ?_
  obtain ⟨a_31, rfl, h_33⟩ := nn_some h
  have t_32 := f1 _ rfl
  refine cg_5_199 C G t_32 dX5_quote_83 (fun t_34 => ?_)
  have t_34 : (T (a_31 + 9)).1 = 24 := by rw [t_34]
  refine lv_bipush (v := (7:Int32)) C.1 C.2.1 dX5_quote_86 (by decide) ?_
  refine lv_iconst (v := (0:Int32)) C.1 C.2.1 dX5_quote_88 (by decide) ?_
  refine lv_aload_n C.1 C.2.1 dX5_quote_89 rfl (lv_at hl 0 rfl) ?_
  refine cg_5_51 C G ha dX5_quote_90 (fun t_35 => ?_)
  have t_35 : (T 31).1 = 26 := by rw [t_35]
  refine cg_5_362 C G t_35 dX5_quote_93 (fun t_36 => ?_)
  refine vt_r (K := 25) t_36 h_33 (fun r_37 t_38 h_39 => ?_)
  refine cl_aload_n C.1 C.2.1 dX5_quote_96 rfl (lv_at hl 2 rfl) ?_
  refine lv_aload_n C.1 C.2.1 dX5_quote_97 rfl (lv_at hl 0 rfl) ?_
  refine cg_5_51 C G ha dX5_quote_98 (fun t_40 => ?_)
  have t_40 : (T 31).1 = 26 := by rw [t_40]
  refine cg_5_83 C G t_40 dX5_quote_101 (fun t_41 => ?_)
  refine vt_r (K := 25) t_41 h_39 (fun r_42 t_43 h_44 => ?_)
  obtain ⟨r_46, σ_45, hq, h_47⟩ := bd2_some h_44
  refine cl_callV (ci := 8) (rest := []) C G rfl t_34 cw_RX5_247 [.int (7:Int32), .int (0:Int32), cl_rf c0 r_37, cl_rf c0 x3, cl_rf c0 r_42] _ (kc_X8_comeInMade l D c0 (by rw [G.1]; exact t_34) hq (by rw [G.1]; exact t_38) (by rw [G.1]; exact f3) (by rw [G.1]; exact t_43)) (Nat.le_of_ble_eq_true rfl) (Nat.le_of_ble_eq_true rfl) rfl rfl hl.1 (Nat.le_of_ble_eq_true rfl) dX5_quote_104 (fun T_48 H locs cells slots t_49 hu G_50 => ?_)
  have ha := hu.kind ha (by decide)
  have t_32 := hu.kind t_32 (by decide)
  have f3 := f3.up hu (by decide)
  refine W.eq (g2 := F0 m 107 ls [.int r_46]) rfl ?_
  exact cl_iret ⟨rfl, rfl⟩ rfl C G_50 h_47 dX5_quote_107
noncomputable def bc_X5_quote_0 (a : Nat) (x1 : (Option Nat)) (x2 : (Option Nat)) (σ : cl_S) : Option (Int32 × cl_S) := vl (σ.2.2.1 31 4) (fun r_3 => (if x2 = r_3 then some ((-2:Int32), σ) else nn x1 (fun a_7 => vl (σ.2.2.1 a_7 16) (fun r_11 => vl (σ.2.2.1 31 4) (fun r_16 => bd2 (fc_X10_find 31 (3:Int32) (0:Int32) r_11 x2 r_16 σ) (fun r_20 σ_19 => vl (σ_19.2.2.1 31 4) (fun r_28 => (if r_20 = r_28 then bd2 (fc_X8_isFull (a_7 + 9) σ_19) (fun r_53 σ_52 => (if r_53 = 0 then vl (σ_52.2.2.1 a_7 16) (fun r_60 => vl (σ_52.2.2.1 31 4) (fun r_65 => bd2 (fc_X10_add 31 (3:Int32) (0:Int32) r_60 x2 r_65 σ_52) (fun r_69 σ_68 => bc_X5_quote_82 a (some a_7) r_69 σ_68))) else some ((-4:Int32), σ_52))) else bc_X5_quote_82 a (some a_7) r_20 σ_19))))))))
set_option maxHeartbeats 4000000 in
theorem wc_X5_quote_0 (C : cl_C D p s m args meth c cX5_quote 4 (some .int) RX5) {r : Int32} {a : Nat} {x1 : (Option Nat)} {x2 : (Option Nat)} {σ0 σ σ' : cl_S} {T : Nat → Nat × Nat} {H : Heap} {locs : List Loc} {ls : Array Slot} {cells slots : Nat} (h : bc_X5_quote_0 a x1 x2 σ = some (r, σ')) (G : cl_G true D c0 ({ frames := 4, cells := σ0.2.2.2.2.2.1, slots := σ0.2.2.2.2.2.2, locals := 97 }) s σ0.2.2.2.1 T σ H locs cells slots) (ha : (T a).1 = 21) (f1 : cl_RT T x1 22) (f2 : cl_RT T x2 25) (hl : lv_has ls 4 [(0, .ref (c0 + a)), (1, cl_rf c0 x1), (2, cl_rf c0 x2)]) : W p l e ({ frames := 4, cells := σ0.2.2.2.2.2.1, slots := σ0.2.2.2.2.2.2, locals := 97 }) s m args below meth c H locs cells slots (MQ below (cl_Q true D c0 (some (.int r)) cl_no σ0 σ') args s (σ0.2.2.2.2.2.1 - σ'.2.2.2.2.2.1) (σ0.2.2.2.2.2.2 - σ'.2.2.2.2.2.2) (cl_A c0 σ0.2.2.2.1 s.heap.size)) (F0 m 0 ls []) := by
  unfold bc_X5_quote_0 at h
  refine cl_aload_n C.1 C.2.1 dX5_quote_0 rfl (lv_at hl 2 rfl) ?_
  refine lv_aload_n C.1 C.2.1 dX5_quote_1 rfl (lv_at hl 0 rfl) ?_
  refine cg_5_51 C G ha dX5_quote_2 (fun t_1 => ?_)
  have t_1 : (T 31).1 = 26 := by rw [t_1]
  refine cg_5_83 C G t_1 dX5_quote_5 (fun t_2 => ?_)
  refine vt_r (K := 25) t_2 h (fun r_3 t_4 h_5 => ?_)
  refine cl_acmp_ne (rx := x2) (ry := r_3) (tgt := 14) C.1 C.2.1 dX5_quote_8 (by decide) (fun hc => ?_) (fun hc => ?_)
  · rw [if_neg hc] at h_5
    refine lv_aload_n C.1 C.2.1 dX5_quote_14 rfl (lv_at hl 0 rfl) ?_
    refine cg_5_51 C G ha dX5_quote_15 (fun t_6 => ?_)
    have t_6 : (T 31).1 = 26 := by rw [t_6]
    refine lv_iconst (v := (3:Int32)) C.1 C.2.1 dX5_quote_18 (by decide) ?_
    refine lv_iconst (v := (0:Int32)) C.1 C.2.1 dX5_quote_19 (by decide) ?_
    refine cl_aload_n C.1 C.2.1 dX5_quote_20 rfl (lv_at hl 1 rfl) ?_
    obtain ⟨a_7, rfl, h_9⟩ := nn_some h_5
    have t_8 := f1 _ rfl
    refine cg_5_279 C G t_8 dX5_quote_21 (fun t_10 => ?_)
    refine vt_r (K := 25) t_10 h_9 (fun r_11 t_12 h_13 => ?_)
    refine cl_aload_n C.1 C.2.1 dX5_quote_24 rfl (lv_at hl 2 rfl) ?_
    refine lv_aload_n C.1 C.2.1 dX5_quote_25 rfl (lv_at hl 0 rfl) ?_
    refine cg_5_51 C G ha dX5_quote_26 (fun t_14 => ?_)
    have t_14 : (T 31).1 = 26 := by rw [t_14]
    refine cg_5_83 C G t_14 dX5_quote_29 (fun t_15 => ?_)
    refine vt_r (K := 25) t_15 h_13 (fun r_16 t_17 h_18 => ?_)
    obtain ⟨r_20, σ_19, hq, h_21⟩ := bd2_some h_18
    refine cl_callV (ci := 10) (rest := []) C G rfl t_6 cw_RX5_351 [.int (3:Int32), .int (0:Int32), cl_rf c0 r_11, cl_rf c0 x2, cl_rf c0 r_16] _ (kc_X10_find l D c0 (by rw [G.1]; exact t_6) hq (by rw [G.1]; exact t_12) (by rw [G.1]; exact f2) (by rw [G.1]; exact t_17)) (Nat.le_of_ble_eq_true rfl) (Nat.le_of_ble_eq_true rfl) rfl rfl hl.1 (Nat.le_of_ble_eq_true rfl) dX5_quote_32 (fun T_22 H locs cells slots t_23 hu G_24 => ?_)
    have ha := hu.kind ha (by decide)
    have t_8 := hu.kind t_8 (by decide)
    have f2 := f2.up hu (by decide)
    refine W.eq (g2 := F0 m 35 ls [cl_rf c0 r_20]) rfl ?_
    refine cl_astore_n (lv' := [(3, cl_rf c0 r_20), (0, .ref (c0 + a)), (1, .ref (c0 + a_7)), (2, cl_rf c0 x2)]) C.1 C.2.1 dX5_quote_35 rfl hl (by decide) (by first | rfl | (cases x2 <;> rfl)) (fun ls hl_25 => ?_)
    refine cl_aload_n C.1 C.2.1 dX5_quote_36 rfl (lv_at hl_25 0 rfl) ?_
    refine lv_aload_n C.1 C.2.1 dX5_quote_37 rfl (lv_at hl_25 1 rfl) ?_
    refine cg_5_51 C G_24 ha dX5_quote_38 (fun t_26 => ?_)
    have t_26 : (T_22 31).1 = 26 := by rw [t_26]
    refine cg_5_83 C G_24 t_26 dX5_quote_41 (fun t_27 => ?_)
    refine vt_r (K := 25) t_27 h_21 (fun r_28 t_29 h_30 => ?_)
    refine cl_acmp_ne (rx := r_20) (ry := r_28) (tgt := 82) C.1 C.2.1 dX5_quote_44 (by decide) (fun hc => ?_) (fun hc => ?_)
    · rw [if_neg hc] at h_30
      exact wc_X5_quote_82 C h_30 G_24 ha (cl_RTs t_8) t_23 (lv_sub hl_25 [1, 2, 0] rfl)
    · rw [if_pos hc] at h_30
      refine lv_aload_n C.1 C.2.1 dX5_quote_47 rfl (lv_at hl_25 2 rfl) ?_
      refine cg_5_199 C G_24 t_8 dX5_quote_48 (fun t_51 => ?_)
      have t_51 : (T_22 (a_7 + 9)).1 = 24 := by rw [t_51]
      obtain ⟨r_53, σ_52, hq, h_54⟩ := bd2_some h_30
      refine cl_callV (ci := 8) (rest := []) C G_24 rfl t_51 cw_RX5_355 [] _ (kc_X8_isFull l D c0 (by rw [G_24.1]; exact t_51) hq) (Nat.le_of_ble_eq_true rfl) (Nat.le_of_ble_eq_true rfl) rfl rfl hl_25.1 (Nat.le_of_ble_eq_true rfl) dX5_quote_51 (fun T_55 H locs cells slots t_56 hu G_57 => ?_)
      have t_23 := t_23.up hu (by decide)
      have ha := hu.kind ha (by decide)
      have t_8 := hu.kind t_8 (by decide)
      have f2 := f2.up hu (by decide)
      refine W.eq (g2 := F0 m 54 ls [.int r_53]) rfl ?_
      refine lv_if_eq (tgt := 60) C.1 C.2.1 dX5_quote_54 (by decide) (fun hc => ?_) (fun hc => ?_)
      · rw [if_pos hc] at h_54
        refine lv_aload_n C.1 C.2.1 dX5_quote_60 rfl (lv_at hl_25 1 rfl) ?_
        refine cg_5_51 C G_57 ha dX5_quote_61 (fun t_58 => ?_)
        have t_58 : (T_55 31).1 = 26 := by rw [t_58]
        refine lv_iconst (v := (3:Int32)) C.1 C.2.1 dX5_quote_64 (by decide) ?_
        refine lv_iconst (v := (0:Int32)) C.1 C.2.1 dX5_quote_65 (by decide) ?_
        refine lv_aload_n C.1 C.2.1 dX5_quote_66 rfl (lv_at hl_25 2 rfl) ?_
        refine cg_5_279 C G_57 t_8 dX5_quote_67 (fun t_59 => ?_)
        refine vt_r (K := 25) t_59 h_54 (fun r_60 t_61 h_62 => ?_)
        refine cl_aload_n C.1 C.2.1 dX5_quote_70 rfl (lv_at hl_25 3 rfl) ?_
        refine lv_aload_n C.1 C.2.1 dX5_quote_71 rfl (lv_at hl_25 1 rfl) ?_
        refine cg_5_51 C G_57 ha dX5_quote_72 (fun t_63 => ?_)
        have t_63 : (T_55 31).1 = 26 := by rw [t_63]
        refine cg_5_83 C G_57 t_63 dX5_quote_75 (fun t_64 => ?_)
        refine vt_r (K := 25) t_64 h_62 (fun r_65 t_66 h_67 => ?_)
        obtain ⟨r_69, σ_68, hq, h_70⟩ := bd2_some h_67
        refine cl_callV (ci := 10) (rest := []) C G_57 rfl t_58 cw_RX5_359 [.int (3:Int32), .int (0:Int32), cl_rf c0 r_60, cl_rf c0 x2, cl_rf c0 r_65] _ (kc_X10_add l D c0 (by rw [G_57.1]; exact t_58) hq (by rw [G_57.1]; exact t_61) (by rw [G_57.1]; exact f2) (by rw [G_57.1]; exact t_66)) (Nat.le_of_ble_eq_true rfl) (Nat.le_of_ble_eq_true rfl) rfl rfl hl_25.1 (Nat.le_of_ble_eq_true rfl) dX5_quote_78 (fun T_71 H locs cells slots t_72 hu G_73 => ?_)
        have t_23 := t_23.up hu (by decide)
        have ha := hu.kind ha (by decide)
        have t_8 := hu.kind t_8 (by decide)
        have f2 := f2.up hu (by decide)
        refine W.eq (g2 := F0 m 81 ls [cl_rf c0 r_69]) rfl ?_
        refine cl_astore_n (lv' := [(3, cl_rf c0 r_69), (0, .ref (c0 + a)), (1, .ref (c0 + a_7)), (2, cl_rf c0 x2)]) C.1 C.2.1 dX5_quote_81 rfl hl_25 (by decide) (by first | rfl | (cases r_20 <;> cases x2 <;> rfl)) (fun ls hl_74 => ?_)
        exact wc_X5_quote_82 C h_70 G_73 ha (cl_RTs t_8) t_72 (lv_sub hl_74 [1, 2, 0] rfl)
      · rw [if_neg hc] at h_54
        refine lv_bipush (v := (-4:Int32)) C.1 C.2.1 dX5_quote_57 (by decide) ?_
        exact cl_iret ⟨rfl, rfl⟩ rfl C G_57 h_54 dX5_quote_59
  · rw [if_pos hc] at h_5
    refine lv_bipush (v := (-2:Int32)) C.1 C.2.1 dX5_quote_11 (by decide) ?_
    exact cl_iret ⟨rfl, rfl⟩ rfl C G h_5 dX5_quote_13
noncomputable def fc_X5_quote (a : Nat) (x1 : (Option Nat)) (x2 : (Option Nat)) (σ : cl_S) : Option (Int32 × cl_S) := bc_X5_quote_0 a x1 x2 σ
theorem kc_X5_quote (l : Launch) (D : cl_D) (c0 : Nat) {r : Int32} {a : Nat} {x1 : (Option Nat)} {x2 : (Option Nat)} {σ σ' : cl_S} (ha : (σ.2.2.2.1 a).1 = 21) (h : fc_X5_quote a x1 x2 σ = some (r, σ')) (f1 : cl_RT σ.2.2.2.1 x1 22) (f2 : cl_RT σ.2.2.2.1 x2 25) : cl_Met true l D c0 yX5_quote cX5_quote 4 (some .int) 4 97 [.ref (c0 + a), cl_rf c0 x1, cl_rf c0 x2] σ (some (.int r)) cl_no σ' :=
  by cases x1 <;> cases x2 <;> exact cl_of (by decide) (Nat.le_of_ble_eq_true rfl) (fun p e s m args below meth c ls C hn G hl => wc_X5_quote_0 C h G ha f1 f2 hl)
abbrev cX5_hasBlob : ByteArray := prog_7_method_26_code
def yX5_hasBlob : MethodName := ⟨RX5, "hasBlob", "(LPartHouse$Partition;I)Z"⟩
theorem dX5_hasBlob_0 : decode cX5_hasBlob 0 = .ok (.iload_n 2, 1) := by decide +kernel
theorem dX5_hasBlob_1 : decode cX5_hasBlob 1 = .ok (.ifCond .lt 23, 3) := by decide +kernel
theorem dX5_hasBlob_4 : decode cX5_hasBlob 4 = .ok (.iload_n 2, 1) := by decide +kernel
theorem dX5_hasBlob_5 : decode cX5_hasBlob 5 = .ok (.aload_n 0, 1) := by decide +kernel
theorem dX5_hasBlob_6 : decode cX5_hasBlob 6 = .ok (.getfield 12, 3) := by decide +kernel
theorem dX5_hasBlob_9 : decode cX5_hasBlob 9 = .ok (.getfield 151, 3) := by decide +kernel
theorem dX5_hasBlob_12 : decode cX5_hasBlob 12 = .ok (.aload_n 1, 1) := by decide +kernel
theorem dX5_hasBlob_13 : decode cX5_hasBlob 13 = .ok (.getfield 306, 3) := by decide +kernel
theorem dX5_hasBlob_16 : decode cX5_hasBlob 16 = .ok (.iaload, 1) := by decide +kernel
theorem dX5_hasBlob_17 : decode cX5_hasBlob 17 = .ok (.if_icmp .ge 7, 3) := by decide +kernel
theorem dX5_hasBlob_20 : decode cX5_hasBlob 20 = .ok (.iconst 1, 1) := by decide +kernel
theorem dX5_hasBlob_21 : decode cX5_hasBlob 21 = .ok (.goto 4, 3) := by decide +kernel
theorem dX5_hasBlob_24 : decode cX5_hasBlob 24 = .ok (.iconst 0, 1) := by decide +kernel
theorem dX5_hasBlob_25 : decode cX5_hasBlob 25 = .ok (.ireturn, 1) := by decide +kernel
theorem cc_X5_hasBlob : Cond.code yX5_hasBlob cX5_hasBlob 3 (some .boolean) ∈ rf_tb := rf_at 1286 (by decide +kernel) (by decide +kernel)
noncomputable def bc_X5_hasBlob_0 (a : Nat) (x1 : (Option Nat)) (x2 : Int32) (σ : cl_S) : Option (Int32 × cl_S) := (if x2 < 0 then some ((0:Int32), σ) else vl (σ.2.2.1 a 3) (fun r_2 => nn r_2 (fun a_5 => nn x1 (fun a_9 => ix (σ.1 a_9 3) 8 ((if (σ.1 (a_5 + 3) (σ.1 a_9 3).toNatClampNeg) ≤ x2 then some ((0:Int32), σ) else some ((1:Int32), σ)))))))
set_option maxHeartbeats 4000000 in
theorem wc_X5_hasBlob_0 (C : cl_C D p s m args meth c cX5_hasBlob 3 (some .boolean) RX5) {r : Int32} {a : Nat} {x1 : (Option Nat)} {x2 : Int32} {σ0 σ σ' : cl_S} {T : Nat → Nat × Nat} {H : Heap} {locs : List Loc} {ls : Array Slot} {cells slots : Nat} (h : bc_X5_hasBlob_0 a x1 x2 σ = some (r, σ')) (G : cl_G true D c0 ({ frames := 0, cells := σ0.2.2.2.2.2.1, slots := σ0.2.2.2.2.2.2, locals := 0 }) s σ0.2.2.2.1 T σ H locs cells slots) (ha : (T a).1 = 21) (f1 : cl_RT T x1 22) (hl : lv_has ls 3 [(0, .ref (c0 + a)), (1, cl_rf c0 x1), (2, .int x2)]) : W p l e ({ frames := 0, cells := σ0.2.2.2.2.2.1, slots := σ0.2.2.2.2.2.2, locals := 0 }) s m args below meth c H locs cells slots (MQ below (cl_Q true D c0 (some (.int r)) cl_no σ0 σ') args s (σ0.2.2.2.2.2.1 - σ'.2.2.2.2.2.1) (σ0.2.2.2.2.2.2 - σ'.2.2.2.2.2.2) (cl_A c0 σ0.2.2.2.1 s.heap.size)) (F0 m 0 ls []) := by
  unfold bc_X5_hasBlob_0 at h
  refine lv_iload_n C.1 C.2.1 dX5_hasBlob_0 rfl (lv_at hl 2 rfl) ?_
  refine lv_if_lt (tgt := 24) C.1 C.2.1 dX5_hasBlob_1 (by decide) (fun hc => ?_) (fun hc => ?_)
  · rw [if_pos hc] at h
    refine lv_iconst (v := (0:Int32)) C.1 C.2.1 dX5_hasBlob_24 (by decide) ?_
    exact cl_zret ⟨rfl, rfl⟩ rfl C G h rfl dX5_hasBlob_25
  · rw [if_neg hc] at h
    refine lv_iload_n C.1 C.2.1 dX5_hasBlob_4 rfl (lv_at hl 2 rfl) ?_
    refine lv_aload_n C.1 C.2.1 dX5_hasBlob_5 rfl (lv_at hl 0 rfl) ?_
    refine cg_5_12 C G ha dX5_hasBlob_6 (fun t_1 => ?_)
    refine vt_r (K := 17) t_1 h (fun r_2 t_3 h_4 => ?_)
    obtain ⟨a_5, rfl, h_7⟩ := nn_some h_4
    have t_6 := t_3 _ rfl
    refine cg_5_151 C G t_6 dX5_hasBlob_9 (fun t_8 => ?_)
    refine cl_aload_n C.1 C.2.1 dX5_hasBlob_12 rfl (lv_at hl 1 rfl) ?_
    obtain ⟨a_9, rfl, h_11⟩ := nn_some h_7
    have t_10 := f1 _ rfl
    refine cg_5_306 C G t_10 dX5_hasBlob_13 ?_
    obtain ⟨hi, h_12⟩ := ix_some h_11
    refine cl_iald C G t_8 hi dX5_hasBlob_16 ?_
    refine lv_icmp_ge (tgt := 24) C.1 C.2.1 dX5_hasBlob_17 (by decide) (fun hc => ?_) (fun hc => ?_)
    · rw [if_pos hc] at h_12
      refine lv_iconst (v := (0:Int32)) C.1 C.2.1 dX5_hasBlob_24 (by decide) ?_
      exact cl_zret ⟨rfl, rfl⟩ rfl C G h_12 rfl dX5_hasBlob_25
    · rw [if_neg hc] at h_12
      refine lv_iconst (v := (1:Int32)) C.1 C.2.1 dX5_hasBlob_20 (by decide) ?_
      refine lv_goto (tgt := 25) C.1 C.2.1 dX5_hasBlob_21 (by decide) ?_
      exact cl_zret ⟨rfl, rfl⟩ rfl C G h_12 rfl dX5_hasBlob_25
noncomputable def fc_X5_hasBlob (a : Nat) (x1 : (Option Nat)) (x2 : Int32) (σ : cl_S) : Option (Int32 × cl_S) := bc_X5_hasBlob_0 a x1 x2 σ
theorem kc_X5_hasBlob (l : Launch) (D : cl_D) (c0 : Nat) {r : Int32} {a : Nat} {x1 : (Option Nat)} {x2 : Int32} {σ σ' : cl_S} (ha : (σ.2.2.2.1 a).1 = 21) (h : fc_X5_hasBlob a x1 x2 σ = some (r, σ')) (f1 : cl_RT σ.2.2.2.1 x1 22) : cl_Met true l D c0 yX5_hasBlob cX5_hasBlob 3 (some .boolean) 0 0 [.ref (c0 + a), cl_rf c0 x1, .int x2] σ (some (.int r)) cl_no σ' :=
  by cases x1 <;> exact cl_of (by decide) (Nat.le_of_ble_eq_true rfl) (fun p e s m args below meth c ls C hn G hl => wc_X5_hasBlob_0 C h G ha f1 hl)
abbrev cX5_countingBlock : ByteArray := prog_7_method_27_code
def yX5_countingBlock : MethodName := ⟨RX5, "countingBlock", "(LPartHouse$Partition;I)I"⟩
theorem dX5_countingBlock_0 : decode cX5_countingBlock 0 = .ok (.aload_n 0, 1) := by decide +kernel
theorem dX5_countingBlock_1 : decode cX5_countingBlock 1 = .ok (.getfield 55, 3) := by decide +kernel
theorem dX5_countingBlock_4 : decode cX5_countingBlock 4 = .ok (.aload_n 0, 1) := by decide +kernel
theorem dX5_countingBlock_5 : decode cX5_countingBlock 5 = .ok (.aload_n 1, 1) := by decide +kernel
theorem dX5_countingBlock_6 : decode cX5_countingBlock 6 = .ok (.getfield 306, 3) := by decide +kernel
theorem dX5_countingBlock_9 : decode cX5_countingBlock 9 = .ok (.iload_n 2, 1) := by decide +kernel
theorem dX5_countingBlock_10 : decode cX5_countingBlock 10 = .ok (.invokevirtual 154, 3) := by decide +kernel
theorem dX5_countingBlock_13 : decode cX5_countingBlock 13 = .ok (.iload_n 2, 1) := by decide +kernel
theorem dX5_countingBlock_14 : decode cX5_countingBlock 14 = .ok (.aload_n 1, 1) := by decide +kernel
theorem dX5_countingBlock_15 : decode cX5_countingBlock 15 = .ok (.getfield 365, 3) := by decide +kernel
theorem dX5_countingBlock_18 : decode cX5_countingBlock 18 = .ok (.invokevirtual 368, 3) := by decide +kernel
theorem dX5_countingBlock_21 : decode cX5_countingBlock 21 = .ok (.ireturn, 1) := by decide +kernel
theorem cc_X5_countingBlock : Cond.code yX5_countingBlock cX5_countingBlock 3 (some .int) ∈ rf_tb := rf_at 1290 (by decide +kernel) (by decide +kernel)
theorem cw_RX5_368 : cl_wV RX5 RX3 yX3_counting cX3_counting 6 (some .int) 368 3 := ⟨⟨rf_at 1295 (by decide +kernel) (by decide +kernel), rf_at 1296 (by decide +kernel) (by decide +kernel), rf_at 1297 (by decide +kernel) (by decide +kernel), cc_X3_counting, rf_at 12 (by decide +kernel) (by decide +kernel)⟩, ⟨by decide, by decide, by decide +kernel⟩⟩
noncomputable def bc_X5_countingBlock_0 (a : Nat) (x1 : (Option Nat)) (x2 : Int32) (σ : cl_S) : Option (Int32 × cl_S) := vl (σ.2.2.1 a 1) (fun r_2 => nn x1 (fun a_5 => bd2 (fc_X5_firstCopy a (σ.1 a_5 3) x2 σ) (fun r_9 σ_8 => vl (σ_8.2.2.1 a_5 17) (fun r_15 => nn r_2 (fun a_18 => bd2 (fc_X3_counting a_18 r_9 x2 r_15 σ_8) (fun r_22 σ_21 => some (r_22, σ_21)))))))
set_option maxHeartbeats 4000000 in
theorem wc_X5_countingBlock_0 (C : cl_C D p s m args meth c cX5_countingBlock 3 (some .int) RX5) {r : Int32} {a : Nat} {x1 : (Option Nat)} {x2 : Int32} {σ0 σ σ' : cl_S} {T : Nat → Nat × Nat} {H : Heap} {locs : List Loc} {ls : Array Slot} {cells slots : Nat} (h : bc_X5_countingBlock_0 a x1 x2 σ = some (r, σ')) (G : cl_G true D c0 ({ frames := 2, cells := σ0.2.2.2.2.2.1, slots := σ0.2.2.2.2.2.2, locals := 51 }) s σ0.2.2.2.1 T σ H locs cells slots) (ha : (T a).1 = 21) (f1 : cl_RT T x1 22) (hl : lv_has ls 3 [(0, .ref (c0 + a)), (1, cl_rf c0 x1), (2, .int x2)]) : W p l e ({ frames := 2, cells := σ0.2.2.2.2.2.1, slots := σ0.2.2.2.2.2.2, locals := 51 }) s m args below meth c H locs cells slots (MQ below (cl_Q true D c0 (some (.int r)) cl_no σ0 σ') args s (σ0.2.2.2.2.2.1 - σ'.2.2.2.2.2.1) (σ0.2.2.2.2.2.2 - σ'.2.2.2.2.2.2) (cl_A c0 σ0.2.2.2.1 s.heap.size)) (F0 m 0 ls []) := by
  unfold bc_X5_countingBlock_0 at h
  refine lv_aload_n C.1 C.2.1 dX5_countingBlock_0 rfl (lv_at hl 0 rfl) ?_
  refine cg_5_55 C G ha dX5_countingBlock_1 (fun t_1 => ?_)
  refine vt_r (K := 19) t_1 h (fun r_2 t_3 h_4 => ?_)
  refine lv_aload_n C.1 C.2.1 dX5_countingBlock_4 rfl (lv_at hl 0 rfl) ?_
  refine cl_aload_n C.1 C.2.1 dX5_countingBlock_5 rfl (lv_at hl 1 rfl) ?_
  obtain ⟨a_5, rfl, h_7⟩ := nn_some h_4
  have t_6 := f1 _ rfl
  refine cg_5_306 C G t_6 dX5_countingBlock_6 ?_
  refine lv_iload_n C.1 C.2.1 dX5_countingBlock_9 rfl (lv_at hl 2 rfl) ?_
  obtain ⟨r_9, σ_8, hq, h_10⟩ := bd2_some h_7
  refine cl_callV (ci := 5) (rest := [cl_rf c0 r_2]) C G rfl ha cw_RX5_154 [.int (σ.1 a_5 3), .int x2] _ (kc_X5_firstCopy l D c0 (by rw [G.1]; exact ha) hq) (Nat.le_of_ble_eq_true rfl) (Nat.le_of_ble_eq_true rfl) rfl rfl hl.1 (by cases r_2 <;> exact Nat.le_of_ble_eq_true rfl) dX5_countingBlock_10 (fun T_11 H locs cells slots t_12 hu G_13 => ?_)
  have ha := hu.kind ha (by decide)
  have t_6 := hu.kind t_6 (by decide)
  have t_3 := t_3.up hu (by decide)
  refine W.eq (g2 := F0 m 13 ls [.int r_9, cl_rf c0 r_2]) rfl ?_
  refine lv_iload_n C.1 C.2.1 dX5_countingBlock_13 rfl (lv_at hl 2 rfl) ?_
  refine lv_aload_n C.1 C.2.1 dX5_countingBlock_14 rfl (lv_at hl 1 rfl) ?_
  refine cg_5_365 C G_13 t_6 dX5_countingBlock_15 (fun t_14 => ?_)
  refine vt_r (K := 25) t_14 h_10 (fun r_15 t_16 h_17 => ?_)
  obtain ⟨a_18, rfl, h_20⟩ := nn_some h_17
  have t_19 := t_3 _ rfl
  obtain ⟨r_22, σ_21, hq, h_23⟩ := bd2_some h_20
  refine cl_callV (ci := 3) (rest := []) C G_13 rfl t_19 cw_RX5_368 [.int r_9, .int x2, cl_rf c0 r_15] _ (kc_X3_counting l D c0 (by rw [G_13.1]; exact t_19) hq (by rw [G_13.1]; exact t_16)) (Nat.le_of_ble_eq_true rfl) (Nat.le_of_ble_eq_true rfl) rfl rfl hl.1 (Nat.le_of_ble_eq_true rfl) dX5_countingBlock_18 (fun T_24 H locs cells slots t_25 hu G_26 => ?_)
  have ha := hu.kind ha (by decide)
  have t_6 := hu.kind t_6 (by decide)
  refine W.eq (g2 := F0 m 21 ls [.int r_22]) rfl ?_
  exact cl_iret ⟨rfl, rfl⟩ rfl C G_26 h_23 dX5_countingBlock_21
noncomputable def fc_X5_countingBlock (a : Nat) (x1 : (Option Nat)) (x2 : Int32) (σ : cl_S) : Option (Int32 × cl_S) := bc_X5_countingBlock_0 a x1 x2 σ
theorem kc_X5_countingBlock (l : Launch) (D : cl_D) (c0 : Nat) {r : Int32} {a : Nat} {x1 : (Option Nat)} {x2 : Int32} {σ σ' : cl_S} (ha : (σ.2.2.2.1 a).1 = 21) (h : fc_X5_countingBlock a x1 x2 σ = some (r, σ')) (f1 : cl_RT σ.2.2.2.1 x1 22) : cl_Met true l D c0 yX5_countingBlock cX5_countingBlock 3 (some .int) 2 51 [.ref (c0 + a), cl_rf c0 x1, .int x2] σ (some (.int r)) cl_no σ' :=
  by cases x1 <;> exact cl_of (by decide) (Nat.le_of_ble_eq_true rfl) (fun p e s m args below meth c ls C hn G hl => wc_X5_countingBlock_0 C h G ha f1 hl)
abbrev cX5_powerGoes : ByteArray := prog_7_method_31_code
def yX5_powerGoes : MethodName := ⟨RX5, "powerGoes", "()Z"⟩
theorem dX5_powerGoes_0 : decode cX5_powerGoes 0 = .ok (.aload_n 0, 1) := by decide +kernel
theorem dX5_powerGoes_1 : decode cX5_powerGoes 1 = .ok (.getfield 101, 3) := by decide +kernel
theorem dX5_powerGoes_4 : decode cX5_powerGoes 4 = .ok (.ifCond .ne 5, 3) := by decide +kernel
theorem dX5_powerGoes_7 : decode cX5_powerGoes 7 = .ok (.iconst 0, 1) := by decide +kernel
theorem dX5_powerGoes_8 : decode cX5_powerGoes 8 = .ok (.ireturn, 1) := by decide +kernel
theorem dX5_powerGoes_9 : decode cX5_powerGoes 9 = .ok (.aload_n 0, 1) := by decide +kernel
theorem dX5_powerGoes_10 : decode cX5_powerGoes 10 = .ok (.dup, 1) := by decide +kernel
theorem dX5_powerGoes_11 : decode cX5_powerGoes 11 = .ok (.getfield 101, 3) := by decide +kernel
theorem dX5_powerGoes_14 : decode cX5_powerGoes 14 = .ok (.iconst 1, 1) := by decide +kernel
theorem dX5_powerGoes_15 : decode cX5_powerGoes 15 = .ok (.isub, 1) := by decide +kernel
theorem dX5_powerGoes_16 : decode cX5_powerGoes 16 = .ok (.putfield 101, 3) := by decide +kernel
theorem dX5_powerGoes_19 : decode cX5_powerGoes 19 = .ok (.aload_n 0, 1) := by decide +kernel
theorem dX5_powerGoes_20 : decode cX5_powerGoes 20 = .ok (.getfield 101, 3) := by decide +kernel
theorem dX5_powerGoes_23 : decode cX5_powerGoes 23 = .ok (.ifCond .ne 7, 3) := by decide +kernel
theorem dX5_powerGoes_26 : decode cX5_powerGoes 26 = .ok (.iconst 1, 1) := by decide +kernel
theorem dX5_powerGoes_27 : decode cX5_powerGoes 27 = .ok (.goto 4, 3) := by decide +kernel
theorem dX5_powerGoes_30 : decode cX5_powerGoes 30 = .ok (.iconst 0, 1) := by decide +kernel
theorem dX5_powerGoes_31 : decode cX5_powerGoes 31 = .ok (.ireturn, 1) := by decide +kernel
theorem cc_X5_powerGoes : Cond.code yX5_powerGoes cX5_powerGoes 1 (some .boolean) ∈ rf_tb := rf_at 1306 (by decide +kernel) (by decide +kernel)
noncomputable def bc_X5_powerGoes_0 (a : Nat) (σ : cl_S) : Option (Int32 × cl_S) := (if (σ.1 a 13) = 0 then some ((0:Int32), σ) else vl (cl_w σ a 13 ((σ.1 a 13) - (1:Int32))) (fun σ_1 => (if (σ_1.1 a 13) = 0 then some ((1:Int32), σ_1) else some ((0:Int32), σ_1))))
set_option maxHeartbeats 4000000 in
theorem wc_X5_powerGoes_0 (C : cl_C D p s m args meth c cX5_powerGoes 1 (some .boolean) RX5) {r : Int32} {a : Nat} {σ0 σ σ' : cl_S} {T : Nat → Nat × Nat} {H : Heap} {locs : List Loc} {ls : Array Slot} {cells slots : Nat} (h : bc_X5_powerGoes_0 a σ = some (r, σ')) (G : cl_G true D c0 ({ frames := 0, cells := σ0.2.2.2.2.2.1, slots := σ0.2.2.2.2.2.2, locals := 0 }) s σ0.2.2.2.1 T σ H locs cells slots) (ha : (T a).1 = 21) (hl : lv_has ls 1 [(0, .ref (c0 + a))]) : W p l e ({ frames := 0, cells := σ0.2.2.2.2.2.1, slots := σ0.2.2.2.2.2.2, locals := 0 }) s m args below meth c H locs cells slots (MQ below (cl_Q true D c0 (some (.int r)) cl_no σ0 σ') args s (σ0.2.2.2.2.2.1 - σ'.2.2.2.2.2.1) (σ0.2.2.2.2.2.2 - σ'.2.2.2.2.2.2) (cl_A c0 σ0.2.2.2.1 s.heap.size)) (F0 m 0 ls []) := by
  unfold bc_X5_powerGoes_0 at h
  refine lv_aload_n C.1 C.2.1 dX5_powerGoes_0 rfl (lv_at hl 0 rfl) ?_
  refine cg_5_101 C G ha dX5_powerGoes_1 ?_
  refine lv_if_ne (tgt := 9) C.1 C.2.1 dX5_powerGoes_4 (by decide) (fun hc => ?_) (fun hc => ?_)
  · rw [if_neg hc] at h
    refine lv_aload_n C.1 C.2.1 dX5_powerGoes_9 rfl (lv_at hl 0 rfl) ?_
    refine lv_dup C.1 C.2.1 dX5_powerGoes_10 rfl ?_
    refine cg_5_101 C G ha dX5_powerGoes_11 ?_
    refine lv_iconst (v := (1:Int32)) C.1 C.2.1 dX5_powerGoes_14 (by decide) ?_
    refine lv_isub C.1 C.2.1 dX5_powerGoes_15 ?_
    refine cp_5_101 C G ha dX5_powerGoes_16 (fun H locs G_2 => ?_)
    refine cl_nm G_2 h (fun σ_1 G_3 h_4 => ?_)
    refine lv_aload_n C.1 C.2.1 dX5_powerGoes_19 rfl (lv_at hl 0 rfl) ?_
    refine cg_5_101 C G_3 ha dX5_powerGoes_20 ?_
    refine lv_if_ne (tgt := 30) C.1 C.2.1 dX5_powerGoes_23 (by decide) (fun hc => ?_) (fun hc => ?_)
    · rw [if_neg hc] at h_4
      refine lv_iconst (v := (0:Int32)) C.1 C.2.1 dX5_powerGoes_30 (by decide) ?_
      exact cl_zret ⟨rfl, rfl⟩ rfl C G_3 h_4 rfl dX5_powerGoes_31
    · rw [if_pos hc] at h_4
      refine lv_iconst (v := (1:Int32)) C.1 C.2.1 dX5_powerGoes_26 (by decide) ?_
      refine lv_goto (tgt := 31) C.1 C.2.1 dX5_powerGoes_27 (by decide) ?_
      exact cl_zret ⟨rfl, rfl⟩ rfl C G_3 h_4 rfl dX5_powerGoes_31
  · rw [if_pos hc] at h
    refine lv_iconst (v := (0:Int32)) C.1 C.2.1 dX5_powerGoes_7 (by decide) ?_
    exact cl_zret ⟨rfl, rfl⟩ rfl C G h rfl dX5_powerGoes_8
noncomputable def fc_X5_powerGoes (a : Nat) (σ : cl_S) : Option (Int32 × cl_S) := bc_X5_powerGoes_0 a σ
theorem kc_X5_powerGoes (l : Launch) (D : cl_D) (c0 : Nat) {r : Int32} {a : Nat} {σ σ' : cl_S} (ha : (σ.2.2.2.1 a).1 = 21) (h : fc_X5_powerGoes a σ = some (r, σ')) : cl_Met true l D c0 yX5_powerGoes cX5_powerGoes 1 (some .boolean) 0 0 [.ref (c0 + a)] σ (some (.int r)) cl_no σ' :=
  cl_of (by decide) (Nat.le_of_ble_eq_true rfl) (fun p e s m args below meth c ls C hn G hl => wc_X5_powerGoes_0 C h G ha hl)
end CQ9
