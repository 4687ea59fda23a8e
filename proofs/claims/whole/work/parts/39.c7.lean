section CQ6
variable {p : Program} {l : Launch} {e : Env} {s : State} {m : MethodId} {args : Array Value} {below : List Frame} {meth : Method} {c : Code} {D : cl_D} {c0 : Nat}
abbrev cX3_isRight : ByteArray := prog_5_method_6_code
def yX3_isRight : MethodName := ⟨RX3, "isRight", "(IILPartHouse$Term;)Z"⟩
theorem dX3_isRight_0 : decode cX3_isRight 0 = .ok (.iload_n 1, 1) := by decide +kernel
theorem dX3_isRight_1 : decode cX3_isRight 1 = .ok (.ifCond .lt 9, 3) := by decide +kernel
theorem dX3_isRight_4 : decode cX3_isRight 4 = .ok (.iload_n 1, 1) := by decide +kernel
theorem dX3_isRight_5 : decode cX3_isRight 5 = .ok (.bipush 64, 2) := by decide +kernel
theorem dX3_isRight_7 : decode cX3_isRight 7 = .ok (.if_icmp .lt 5, 3) := by decide +kernel
theorem dX3_isRight_10 : decode cX3_isRight 10 = .ok (.iconst 0, 1) := by decide +kernel
theorem dX3_isRight_11 : decode cX3_isRight 11 = .ok (.ireturn, 1) := by decide +kernel
theorem dX3_isRight_12 : decode cX3_isRight 12 = .ok (.aload_n 0, 1) := by decide +kernel
theorem dX3_isRight_13 : decode cX3_isRight 13 = .ok (.getfield 17, 3) := by decide +kernel
theorem dX3_isRight_16 : decode cX3_isRight 16 = .ok (.iload_n 1, 1) := by decide +kernel
theorem dX3_isRight_17 : decode cX3_isRight 17 = .ok (.aaload, 1) := by decide +kernel
theorem dX3_isRight_18 : decode cX3_isRight 18 = .ok (.astore 4, 2) := by decide +kernel
theorem dX3_isRight_20 : decode cX3_isRight 20 = .ok (.aload 4, 2) := by decide +kernel
theorem dX3_isRight_22 : decode cX3_isRight 22 = .ok (.getfield 33, 3) := by decide +kernel
theorem dX3_isRight_25 : decode cX3_isRight 25 = .ok (.bipush 8, 2) := by decide +kernel
theorem dX3_isRight_27 : decode cX3_isRight 27 = .ok (.if_icmp .ne 24, 3) := by decide +kernel
theorem dX3_isRight_30 : decode cX3_isRight 30 = .ok (.aload 4, 2) := by decide +kernel
theorem dX3_isRight_32 : decode cX3_isRight 32 = .ok (.getfield 37, 3) := by decide +kernel
theorem dX3_isRight_35 : decode cX3_isRight 35 = .ok (.aload_n 3, 1) := by decide +kernel
theorem dX3_isRight_36 : decode cX3_isRight 36 = .ok (.if_acmp .ne 15, 3) := by decide +kernel
theorem dX3_isRight_39 : decode cX3_isRight 39 = .ok (.aload 4, 2) := by decide +kernel
theorem dX3_isRight_41 : decode cX3_isRight 41 = .ok (.getfield 40, 3) := by decide +kernel
theorem dX3_isRight_44 : decode cX3_isRight 44 = .ok (.getfield 33, 3) := by decide +kernel
theorem dX3_isRight_47 : decode cX3_isRight 47 = .ok (.iconst 3, 1) := by decide +kernel
theorem dX3_isRight_48 : decode cX3_isRight 48 = .ok (.if_icmp .eq 5, 3) := by decide +kernel
theorem dX3_isRight_51 : decode cX3_isRight 51 = .ok (.iconst 0, 1) := by decide +kernel
theorem dX3_isRight_52 : decode cX3_isRight 52 = .ok (.ireturn, 1) := by decide +kernel
theorem dX3_isRight_53 : decode cX3_isRight 53 = .ok (.aload 4, 2) := by decide +kernel
theorem dX3_isRight_55 : decode cX3_isRight 55 = .ok (.getfield 40, 3) := by decide +kernel
theorem dX3_isRight_58 : decode cX3_isRight 58 = .ok (.getfield 37, 3) := by decide +kernel
theorem dX3_isRight_61 : decode cX3_isRight 61 = .ok (.astore 5, 2) := by decide +kernel
theorem dX3_isRight_63 : decode cX3_isRight 63 = .ok (.aload 4, 2) := by decide +kernel
theorem dX3_isRight_65 : decode cX3_isRight 65 = .ok (.getfield 40, 3) := by decide +kernel
theorem dX3_isRight_68 : decode cX3_isRight 68 = .ok (.getfield 40, 3) := by decide +kernel
theorem dX3_isRight_71 : decode cX3_isRight 71 = .ok (.astore 6, 2) := by decide +kernel
theorem dX3_isRight_73 : decode cX3_isRight 73 = .ok (.aload 5, 2) := by decide +kernel
theorem dX3_isRight_75 : decode cX3_isRight 75 = .ok (.getfield 33, 3) := by decide +kernel
theorem dX3_isRight_78 : decode cX3_isRight 78 = .ok (.ifCond .ne 38, 3) := by decide +kernel
theorem dX3_isRight_81 : decode cX3_isRight 81 = .ok (.aload 5, 2) := by decide +kernel
theorem dX3_isRight_83 : decode cX3_isRight 83 = .ok (.getfield 43, 3) := by decide +kernel
theorem dX3_isRight_86 : decode cX3_isRight 86 = .ok (.iload_n 2, 1) := by decide +kernel
theorem dX3_isRight_87 : decode cX3_isRight 87 = .ok (.if_icmp .ne 29, 3) := by decide +kernel
theorem dX3_isRight_90 : decode cX3_isRight 90 = .ok (.aload 6, 2) := by decide +kernel
theorem dX3_isRight_92 : decode cX3_isRight 92 = .ok (.getfield 33, 3) := by decide +kernel
theorem dX3_isRight_95 : decode cX3_isRight 95 = .ok (.ifCond .ne 21, 3) := by decide +kernel
theorem dX3_isRight_98 : decode cX3_isRight 98 = .ok (.aload 6, 2) := by decide +kernel
theorem dX3_isRight_100 : decode cX3_isRight 100 = .ok (.getfield 43, 3) := by decide +kernel
theorem dX3_isRight_103 : decode cX3_isRight 103 = .ok (.aload_n 0, 1) := by decide +kernel
theorem dX3_isRight_104 : decode cX3_isRight 104 = .ok (.getfield 11, 3) := by decide +kernel
theorem dX3_isRight_107 : decode cX3_isRight 107 = .ok (.iload_n 1, 1) := by decide +kernel
theorem dX3_isRight_108 : decode cX3_isRight 108 = .ok (.iaload, 1) := by decide +kernel
theorem dX3_isRight_109 : decode cX3_isRight 109 = .ok (.if_icmp .ne 7, 3) := by decide +kernel
theorem dX3_isRight_112 : decode cX3_isRight 112 = .ok (.iconst 1, 1) := by decide +kernel
theorem dX3_isRight_113 : decode cX3_isRight 113 = .ok (.goto 4, 3) := by decide +kernel
theorem dX3_isRight_116 : decode cX3_isRight 116 = .ok (.iconst 0, 1) := by decide +kernel
theorem dX3_isRight_117 : decode cX3_isRight 117 = .ok (.ireturn, 1) := by decide +kernel
theorem cc_X3_isRight : Cond.code yX3_isRight cX3_isRight 7 (some .boolean) ∈ rf_tb := rf_at 1302 (by decide +kernel) (by decide +kernel)
noncomputable def bc_X3_isRight_0 (a : Nat) (x1 : Int32) (x2 : Int32) (x3 : (Option Nat)) (σ : cl_S) : Option (Int32 × cl_S) := (if x1 < 0 then some ((0:Int32), σ) else (if x1 < (64:Int32) then ix x1 64 (vl (σ.2.2.1 (a + 2) x1.toNatClampNeg) (fun r_4 => nn r_4 (fun a_8 => (if (σ.1 a_8 0) = (8:Int32) then vl (σ.2.2.1 a_8 3) (fun r_12 => (if r_12 = x3 then vl (σ.2.2.1 a_8 4) (fun r_16 => nn r_16 (fun a_19 => (if (σ.1 a_19 0) = (3:Int32) then vl (σ.2.2.1 a_8 4) (fun r_23 => nn r_23 (fun a_26 => vl (σ.2.2.1 a_26 3) (fun r_30 => vl (σ.2.2.1 a_8 4) (fun r_35 => nn r_35 (fun a_38 => vl (σ.2.2.1 a_38 4) (fun r_42 => nn r_30 (fun a_46 => (if (σ.1 a_46 0) = 0 then (if (σ.1 a_46 1) = x2 then nn r_42 (fun a_49 => (if (σ.1 a_49 0) = 0 then ix x1 64 ((if (σ.1 a_49 1) = (σ.1 (a + 1) x1.toNatClampNeg) then some ((1:Int32), σ) else some ((0:Int32), σ))) else some ((0:Int32), σ))) else some ((0:Int32), σ)) else some ((0:Int32), σ))))))))) else some ((0:Int32), σ)))) else some ((0:Int32), σ))) else some ((0:Int32), σ))))) else some ((0:Int32), σ)))
set_option maxHeartbeats 4000000 in
theorem wc_X3_isRight_0 (C : cl_C D p s m args meth c cX3_isRight 7 (some .boolean) RX3) {r : Int32} {a : Nat} {x1 : Int32} {x2 : Int32} {x3 : (Option Nat)} {σ0 σ σ' : cl_S} {T : Nat → Nat × Nat} {H : Heap} {locs : List Loc} {ls : Array Slot} {cells slots : Nat} (h : bc_X3_isRight_0 a x1 x2 x3 σ = some (r, σ')) (G : cl_G true D c0 ({ frames := 0, cells := σ0.2.2.2.2.2.1, slots := σ0.2.2.2.2.2.2, locals := 0 }) s σ0.2.2.2.1 T σ H locs cells slots) (ha : (T a).1 = 19) (f3 : cl_RT T x3 25) (hl : lv_has ls 7 [(0, .ref (c0 + a)), (1, .int x1), (2, .int x2), (3, cl_rf c0 x3)]) : W p l e ({ frames := 0, cells := σ0.2.2.2.2.2.1, slots := σ0.2.2.2.2.2.2, locals := 0 }) s m args below meth c H locs cells slots (MQ below (cl_Q true D c0 (some (.int r)) cl_no σ0 σ') args s (σ0.2.2.2.2.2.1 - σ'.2.2.2.2.2.1) (σ0.2.2.2.2.2.2 - σ'.2.2.2.2.2.2) (cl_A c0 σ0.2.2.2.1 s.heap.size)) (F0 m 0 ls []) := by
  unfold bc_X3_isRight_0 at h
  refine lv_iload_n C.1 C.2.1 dX3_isRight_0 rfl (lv_at hl 1 rfl) ?_
  refine lv_if_lt (tgt := 10) C.1 C.2.1 dX3_isRight_1 (by decide) (fun hc => ?_) (fun hc => ?_)
  · rw [if_pos hc] at h
    refine lv_iconst (v := (0:Int32)) C.1 C.2.1 dX3_isRight_10 (by decide) ?_
    exact cl_zret ⟨rfl, rfl⟩ rfl C G h rfl dX3_isRight_11
  · rw [if_neg hc] at h
    refine lv_iload_n C.1 C.2.1 dX3_isRight_4 rfl (lv_at hl 1 rfl) ?_
    refine lv_bipush (v := (64:Int32)) C.1 C.2.1 dX3_isRight_5 (by decide) ?_
    refine lv_icmp_lt (tgt := 12) C.1 C.2.1 dX3_isRight_7 (by decide) (fun hc => ?_) (fun hc => ?_)
    · rw [if_pos hc] at h
      refine lv_aload_n C.1 C.2.1 dX3_isRight_12 rfl (lv_at hl 0 rfl) ?_
      refine cg_3_17 C G ha dX3_isRight_13 (fun t_1 => ?_)
      refine lv_iload_n C.1 C.2.1 dX3_isRight_16 rfl (lv_at hl 1 rfl) ?_
      obtain ⟨hi, h_2⟩ := ix_some h
      refine cl_aald C G t_1 (by decide) (by decide) rfl hi dX3_isRight_17 (fun t_3 => ?_)
      refine vt_r (K := 25) t_3 h_2 (fun r_4 t_5 h_6 => ?_)
      refine cl_astore (lv' := [(4, cl_rf c0 r_4), (0, .ref (c0 + a)), (1, .int x1), (2, .int x2), (3, cl_rf c0 x3)]) C.1 C.2.1 dX3_isRight_18 hl (by decide) (by first | rfl | (cases x3 <;> rfl)) (fun ls hl_7 => ?_)
      refine cl_aload C.1 C.2.1 dX3_isRight_20 (lv_at hl_7 0 rfl) ?_
      obtain ⟨a_8, rfl, h_10⟩ := nn_some h_6
      have t_9 := t_5 _ rfl
      refine cg_3_33 C G t_9 dX3_isRight_22 ?_
      refine lv_bipush (v := (8:Int32)) C.1 C.2.1 dX3_isRight_25 (by decide) ?_
      refine lv_icmp_ne (tgt := 51) C.1 C.2.1 dX3_isRight_27 (by decide) (fun hc => ?_) (fun hc => ?_)
      · rw [if_neg hc] at h_10
        refine lv_iconst (v := (0:Int32)) C.1 C.2.1 dX3_isRight_51 (by decide) ?_
        exact cl_zret ⟨rfl, rfl⟩ rfl C G h_10 rfl dX3_isRight_52
      · rw [if_pos hc] at h_10
        refine lv_aload C.1 C.2.1 dX3_isRight_30 (lv_at hl_7 0 rfl) ?_
        refine cg_3_37 C G t_9 dX3_isRight_32 (fun t_11 => ?_)
        refine vt_r (K := 25) t_11 h_10 (fun r_12 t_13 h_14 => ?_)
        refine cl_aload_n C.1 C.2.1 dX3_isRight_35 rfl (lv_at hl_7 4 rfl) ?_
        refine cl_acmp_ne (rx := r_12) (ry := x3) (tgt := 51) C.1 C.2.1 dX3_isRight_36 (by decide) (fun hc => ?_) (fun hc => ?_)
        · rw [if_neg hc] at h_14
          refine lv_iconst (v := (0:Int32)) C.1 C.2.1 dX3_isRight_51 (by decide) ?_
          exact cl_zret ⟨rfl, rfl⟩ rfl C G h_14 rfl dX3_isRight_52
        · rw [if_pos hc] at h_14
          refine lv_aload C.1 C.2.1 dX3_isRight_39 (lv_at hl_7 0 rfl) ?_
          refine cg_3_40 C G t_9 dX3_isRight_41 (fun t_15 => ?_)
          refine vt_r (K := 25) t_15 h_14 (fun r_16 t_17 h_18 => ?_)
          obtain ⟨a_19, rfl, h_21⟩ := nn_some h_18
          have t_20 := t_17 _ rfl
          refine cg_3_33 C G t_20 dX3_isRight_44 ?_
          refine lv_iconst (v := (3:Int32)) C.1 C.2.1 dX3_isRight_47 (by decide) ?_
          refine lv_icmp_eq (tgt := 53) C.1 C.2.1 dX3_isRight_48 (by decide) (fun hc => ?_) (fun hc => ?_)
          · rw [if_pos hc] at h_21
            refine lv_aload C.1 C.2.1 dX3_isRight_53 (lv_at hl_7 0 rfl) ?_
            refine cg_3_40 C G t_9 dX3_isRight_55 (fun t_22 => ?_)
            refine vt_r (K := 25) t_22 h_21 (fun r_23 t_24 h_25 => ?_)
            obtain ⟨a_26, rfl, h_28⟩ := nn_some h_25
            have t_27 := t_24 _ rfl
            refine cg_3_37 C G t_27 dX3_isRight_58 (fun t_29 => ?_)
            refine vt_r (K := 25) t_29 h_28 (fun r_30 t_31 h_32 => ?_)
            refine cl_astore (lv' := [(5, cl_rf c0 r_30), (4, .ref (c0 + a_8)), (0, .ref (c0 + a)), (1, .int x1), (2, .int x2), (3, cl_rf c0 x3)]) C.1 C.2.1 dX3_isRight_61 hl_7 (by decide) (by first | rfl | (cases x3 <;> rfl)) (fun ls hl_33 => ?_)
            refine lv_aload C.1 C.2.1 dX3_isRight_63 (lv_at hl_33 1 rfl) ?_
            refine cg_3_40 C G t_9 dX3_isRight_65 (fun t_34 => ?_)
            refine vt_r (K := 25) t_34 h_32 (fun r_35 t_36 h_37 => ?_)
            obtain ⟨a_38, rfl, h_40⟩ := nn_some h_37
            have t_39 := t_36 _ rfl
            refine cg_3_40 C G t_39 dX3_isRight_68 (fun t_41 => ?_)
            refine vt_r (K := 25) t_41 h_40 (fun r_42 t_43 h_44 => ?_)
            refine cl_astore (lv' := [(6, cl_rf c0 r_42), (5, cl_rf c0 r_30), (4, .ref (c0 + a_8)), (0, .ref (c0 + a)), (1, .int x1), (2, .int x2), (3, cl_rf c0 x3)]) C.1 C.2.1 dX3_isRight_71 hl_33 (by decide) (by first | rfl | (cases r_30 <;> cases x3 <;> rfl)) (fun ls hl_45 => ?_)
            refine cl_aload C.1 C.2.1 dX3_isRight_73 (lv_at hl_45 1 rfl) ?_
            obtain ⟨a_46, rfl, h_48⟩ := nn_some h_44
            have t_47 := t_31 _ rfl
            refine cg_3_33 C G t_47 dX3_isRight_75 ?_
            refine lv_if_ne (tgt := 116) C.1 C.2.1 dX3_isRight_78 (by decide) (fun hc => ?_) (fun hc => ?_)
            · rw [if_neg hc] at h_48
              refine lv_iconst (v := (0:Int32)) C.1 C.2.1 dX3_isRight_116 (by decide) ?_
              exact cl_zret ⟨rfl, rfl⟩ rfl C G h_48 rfl dX3_isRight_117
            · rw [if_pos hc] at h_48
              refine lv_aload C.1 C.2.1 dX3_isRight_81 (lv_at hl_45 1 rfl) ?_
              refine cg_3_43 C G t_47 dX3_isRight_83 ?_
              refine lv_iload_n C.1 C.2.1 dX3_isRight_86 rfl (lv_at hl_45 5 rfl) ?_
              refine lv_icmp_ne (tgt := 116) C.1 C.2.1 dX3_isRight_87 (by decide) (fun hc => ?_) (fun hc => ?_)
              · rw [if_neg hc] at h_48
                refine lv_iconst (v := (0:Int32)) C.1 C.2.1 dX3_isRight_116 (by decide) ?_
                exact cl_zret ⟨rfl, rfl⟩ rfl C G h_48 rfl dX3_isRight_117
              · rw [if_pos hc] at h_48
                refine cl_aload C.1 C.2.1 dX3_isRight_90 (lv_at hl_45 0 rfl) ?_
                obtain ⟨a_49, rfl, h_51⟩ := nn_some h_48
                have t_50 := t_43 _ rfl
                refine cg_3_33 C G t_50 dX3_isRight_92 ?_
                refine lv_if_ne (tgt := 116) C.1 C.2.1 dX3_isRight_95 (by decide) (fun hc => ?_) (fun hc => ?_)
                · rw [if_neg hc] at h_51
                  refine lv_iconst (v := (0:Int32)) C.1 C.2.1 dX3_isRight_116 (by decide) ?_
                  exact cl_zret ⟨rfl, rfl⟩ rfl C G h_51 rfl dX3_isRight_117
                · rw [if_pos hc] at h_51
                  refine lv_aload C.1 C.2.1 dX3_isRight_98 (lv_at hl_45 0 rfl) ?_
                  refine cg_3_43 C G t_50 dX3_isRight_100 ?_
                  refine lv_aload_n C.1 C.2.1 dX3_isRight_103 rfl (lv_at hl_45 3 rfl) ?_
                  refine cg_3_11 C G ha dX3_isRight_104 (fun t_52 => ?_)
                  refine lv_iload_n C.1 C.2.1 dX3_isRight_107 rfl (lv_at hl_45 4 rfl) ?_
                  obtain ⟨hi, h_53⟩ := ix_some h_51
                  refine cl_iald C G t_52 hi dX3_isRight_108 ?_
                  refine lv_icmp_ne (tgt := 116) C.1 C.2.1 dX3_isRight_109 (by decide) (fun hc => ?_) (fun hc => ?_)
                  · rw [if_neg hc] at h_53
                    refine lv_iconst (v := (0:Int32)) C.1 C.2.1 dX3_isRight_116 (by decide) ?_
                    exact cl_zret ⟨rfl, rfl⟩ rfl C G h_53 rfl dX3_isRight_117
                  · rw [if_pos hc] at h_53
                    refine lv_iconst (v := (1:Int32)) C.1 C.2.1 dX3_isRight_112 (by decide) ?_
                    refine lv_goto (tgt := 117) C.1 C.2.1 dX3_isRight_113 (by decide) ?_
                    exact cl_zret ⟨rfl, rfl⟩ rfl C G h_53 rfl dX3_isRight_117
          · rw [if_neg hc] at h_21
            refine lv_iconst (v := (0:Int32)) C.1 C.2.1 dX3_isRight_51 (by decide) ?_
            exact cl_zret ⟨rfl, rfl⟩ rfl C G h_21 rfl dX3_isRight_52
    · rw [if_neg hc] at h
      refine lv_iconst (v := (0:Int32)) C.1 C.2.1 dX3_isRight_10 (by decide) ?_
      exact cl_zret ⟨rfl, rfl⟩ rfl C G h rfl dX3_isRight_11
noncomputable def fc_X3_isRight (a : Nat) (x1 : Int32) (x2 : Int32) (x3 : (Option Nat)) (σ : cl_S) : Option (Int32 × cl_S) := bc_X3_isRight_0 a x1 x2 x3 σ
theorem kc_X3_isRight (l : Launch) (D : cl_D) (c0 : Nat) {r : Int32} {a : Nat} {x1 : Int32} {x2 : Int32} {x3 : (Option Nat)} {σ σ' : cl_S} (ha : (σ.2.2.2.1 a).1 = 19) (h : fc_X3_isRight a x1 x2 x3 σ = some (r, σ')) (f3 : cl_RT σ.2.2.2.1 x3 25) : cl_Met true l D c0 yX3_isRight cX3_isRight 7 (some .boolean) 0 0 [.ref (c0 + a), .int x1, .int x2, cl_rf c0 x3] σ (some (.int r)) cl_no σ' :=
  by cases x3 <;> exact cl_of (by decide) (Nat.le_of_ble_eq_true rfl) (fun p e s m args below meth c ls C hn G hl => wc_X3_isRight_0 C h G ha f3 hl)
abbrev cX3_counting : ByteArray := prog_5_method_5_code
def yX3_counting : MethodName := ⟨RX3, "counting", "(IILPartHouse$Term;)I"⟩
theorem dX3_counting_0 : decode cX3_counting 0 = .ok (.aload_n 0, 1) := by decide +kernel
theorem dX3_counting_1 : decode cX3_counting 1 = .ok (.iload_n 1, 1) := by decide +kernel
theorem dX3_counting_2 : decode cX3_counting 2 = .ok (.iload_n 2, 1) := by decide +kernel
theorem dX3_counting_3 : decode cX3_counting 3 = .ok (.aload_n 3, 1) := by decide +kernel
theorem dX3_counting_4 : decode cX3_counting 4 = .ok (.invokevirtual 29, 3) := by decide +kernel
theorem dX3_counting_7 : decode cX3_counting 7 = .ok (.istore 4, 2) := by decide +kernel
theorem dX3_counting_9 : decode cX3_counting 9 = .ok (.aload_n 0, 1) := by decide +kernel
theorem dX3_counting_10 : decode cX3_counting 10 = .ok (.iload_n 1, 1) := by decide +kernel
theorem dX3_counting_11 : decode cX3_counting 11 = .ok (.iconst 1, 1) := by decide +kernel
theorem dX3_counting_12 : decode cX3_counting 12 = .ok (.iadd, 1) := by decide +kernel
theorem dX3_counting_13 : decode cX3_counting 13 = .ok (.iload_n 2, 1) := by decide +kernel
theorem dX3_counting_14 : decode cX3_counting 14 = .ok (.aload_n 3, 1) := by decide +kernel
theorem dX3_counting_15 : decode cX3_counting 15 = .ok (.invokevirtual 29, 3) := by decide +kernel
theorem dX3_counting_18 : decode cX3_counting 18 = .ok (.istore 5, 2) := by decide +kernel
theorem dX3_counting_20 : decode cX3_counting 20 = .ok (.iload 4, 2) := by decide +kernel
theorem dX3_counting_22 : decode cX3_counting 22 = .ok (.ifCond .eq 33, 3) := by decide +kernel
theorem dX3_counting_25 : decode cX3_counting 25 = .ok (.iload 5, 2) := by decide +kernel
theorem dX3_counting_27 : decode cX3_counting 27 = .ok (.ifCond .eq 28, 3) := by decide +kernel
theorem dX3_counting_30 : decode cX3_counting 30 = .ok (.aload_n 0, 1) := by decide +kernel
theorem dX3_counting_31 : decode cX3_counting 31 = .ok (.getfield 11, 3) := by decide +kernel
theorem dX3_counting_34 : decode cX3_counting 34 = .ok (.iload_n 1, 1) := by decide +kernel
theorem dX3_counting_35 : decode cX3_counting 35 = .ok (.iconst 1, 1) := by decide +kernel
theorem dX3_counting_36 : decode cX3_counting 36 = .ok (.iadd, 1) := by decide +kernel
theorem dX3_counting_37 : decode cX3_counting 37 = .ok (.iaload, 1) := by decide +kernel
theorem dX3_counting_38 : decode cX3_counting 38 = .ok (.aload_n 0, 1) := by decide +kernel
theorem dX3_counting_39 : decode cX3_counting 39 = .ok (.getfield 11, 3) := by decide +kernel
theorem dX3_counting_42 : decode cX3_counting 42 = .ok (.iload_n 1, 1) := by decide +kernel
theorem dX3_counting_43 : decode cX3_counting 43 = .ok (.iaload, 1) := by decide +kernel
theorem dX3_counting_44 : decode cX3_counting 44 = .ok (.if_icmp .le 9, 3) := by decide +kernel
theorem dX3_counting_47 : decode cX3_counting 47 = .ok (.iload_n 1, 1) := by decide +kernel
theorem dX3_counting_48 : decode cX3_counting 48 = .ok (.iconst 1, 1) := by decide +kernel
theorem dX3_counting_49 : decode cX3_counting 49 = .ok (.iadd, 1) := by decide +kernel
theorem dX3_counting_50 : decode cX3_counting 50 = .ok (.goto 4, 3) := by decide +kernel
theorem dX3_counting_53 : decode cX3_counting 53 = .ok (.iload_n 1, 1) := by decide +kernel
theorem dX3_counting_54 : decode cX3_counting 54 = .ok (.ireturn, 1) := by decide +kernel
theorem dX3_counting_55 : decode cX3_counting 55 = .ok (.iload 4, 2) := by decide +kernel
theorem dX3_counting_57 : decode cX3_counting 57 = .ok (.ifCond .eq 5, 3) := by decide +kernel
theorem dX3_counting_60 : decode cX3_counting 60 = .ok (.iload_n 1, 1) := by decide +kernel
theorem dX3_counting_61 : decode cX3_counting 61 = .ok (.ireturn, 1) := by decide +kernel
theorem dX3_counting_62 : decode cX3_counting 62 = .ok (.iload 5, 2) := by decide +kernel
theorem dX3_counting_64 : decode cX3_counting 64 = .ok (.ifCond .eq 9, 3) := by decide +kernel
theorem dX3_counting_67 : decode cX3_counting 67 = .ok (.iload_n 1, 1) := by decide +kernel
theorem dX3_counting_68 : decode cX3_counting 68 = .ok (.iconst 1, 1) := by decide +kernel
theorem dX3_counting_69 : decode cX3_counting 69 = .ok (.iadd, 1) := by decide +kernel
theorem dX3_counting_70 : decode cX3_counting 70 = .ok (.goto 4, 3) := by decide +kernel
theorem dX3_counting_73 : decode cX3_counting 73 = .ok (.iconst (-1), 1) := by decide +kernel
theorem dX3_counting_74 : decode cX3_counting 74 = .ok (.ireturn, 1) := by decide +kernel
theorem cc_X3_counting : Cond.code yX3_counting cX3_counting 6 (some .int) ∈ rf_tb := rf_at 1298 (by decide +kernel) (by decide +kernel)
theorem cw_RX3_29 : cl_wV RX3 RX3 yX3_isRight cX3_isRight 7 (some .boolean) 29 3 := ⟨⟨rf_at 1299 (by decide +kernel) (by decide +kernel), rf_at 1301 (by decide +kernel) (by decide +kernel), rf_sel (q := (yX3_isRight, 3)) 61 (by decide +kernel) (by decide +kernel), cc_X3_isRight, rf_at 12 (by decide +kernel) (by decide +kernel)⟩, ⟨by decide, by decide, by decide +kernel⟩⟩
noncomputable def bc_X3_counting_55 (x1 : Int32) (x4 : Int32) (x5 : Int32) (σ : cl_S) : Option (Int32 × cl_S) := (if x4 = 0 then (if x5 = 0 then some ((-1:Int32), σ) else some ((x1 + (1:Int32)), σ)) else some (x1, σ))
set_option maxHeartbeats 4000000 in
theorem wc_X3_counting_55 (C : cl_C D p s m args meth c cX3_counting 6 (some .int) RX3) {r : Int32} {x1 : Int32} {x4 : Int32} {x5 : Int32} {σ0 σ σ' : cl_S} {T : Nat → Nat × Nat} {H : Heap} {locs : List Loc} {ls : Array Slot} {cells slots : Nat} (h : bc_X3_counting_55 x1 x4 x5 σ = some (r, σ')) (G : cl_G true D c0 ({ frames := 1, cells := σ0.2.2.2.2.2.1, slots := σ0.2.2.2.2.2.2, locals := 26 }) s σ0.2.2.2.1 T σ H locs cells slots) (hl : lv_has ls 6 [(1, .int x1), (4, .int x4), (5, .int x5)]) : W p l e ({ frames := 1, cells := σ0.2.2.2.2.2.1, slots := σ0.2.2.2.2.2.2, locals := 26 }) s m args below meth c H locs cells slots (MQ below (cl_Q true D c0 (some (.int r)) cl_no σ0 σ') args s (σ0.2.2.2.2.2.1 - σ'.2.2.2.2.2.1) (σ0.2.2.2.2.2.2 - σ'.2.2.2.2.2.2) (cl_A c0 σ0.2.2.2.1 s.heap.size)) (F0 m 55 ls []) := by
  unfold bc_X3_counting_55 at h
  refine lv_iload C.1 C.2.1 dX3_counting_55 (lv_at hl 1 rfl) ?_
  refine lv_if_eq (tgt := 62) C.1 C.2.1 dX3_counting_57 (by decide) (fun hc => ?_) (fun hc => ?_)
  · rw [if_pos hc] at h
    refine lv_iload C.1 C.2.1 dX3_counting_62 (lv_at hl 2 rfl) ?_
    refine lv_if_eq (tgt := 73) C.1 C.2.1 dX3_counting_64 (by decide) (fun hc => ?_) (fun hc => ?_)
    · rw [if_pos hc] at h
      refine lv_iconst (v := (-1:Int32)) C.1 C.2.1 dX3_counting_73 (by decide) ?_
      exact cl_iret ⟨rfl, rfl⟩ rfl C G h dX3_counting_74
    · rw [if_neg hc] at h
      refine lv_iload_n C.1 C.2.1 dX3_counting_67 rfl (lv_at hl 0 rfl) ?_
      refine lv_iconst (v := (1:Int32)) C.1 C.2.1 dX3_counting_68 (by decide) ?_
      refine lv_iadd C.1 C.2.1 dX3_counting_69 ?_
      refine lv_goto (tgt := 74) C.1 C.2.1 dX3_counting_70 (by decide) ?_
      exact cl_iret ⟨rfl, rfl⟩ rfl C G h dX3_counting_74
  · rw [if_neg hc] at h
    refine lv_iload_n C.1 C.2.1 dX3_counting_60 rfl (lv_at hl 0 rfl) ?_
    exact cl_iret ⟨rfl, rfl⟩ rfl C G h dX3_counting_61
noncomputable def bc_X3_counting_0 (a : Nat) (x1 : Int32) (x2 : Int32) (x3 : (Option Nat)) (σ : cl_S) : Option (Int32 × cl_S) := bd2 (fc_X3_isRight a x1 x2 x3 σ) (fun r_2 σ_1 => bd2 (fc_X3_isRight a (x1 + (1:Int32)) x2 x3 σ_1) (fun r_9 σ_8 => (if r_2 = 0 then bc_X3_counting_55 x1 r_2 r_9 σ_8 else (if r_9 = 0 then bc_X3_counting_55 x1 r_2 r_9 σ_8 else ix (x1 + (1:Int32)) 64 (ix x1 64 ((if (σ_8.1 (a + 1) (x1 + (1:Int32)).toNatClampNeg) ≤ (σ_8.1 (a + 1) x1.toNatClampNeg) then some (x1, σ_8) else some ((x1 + (1:Int32)), σ_8))))))))
set_option maxHeartbeats 4000000 in
theorem wc_X3_counting_0 (C : cl_C D p s m args meth c cX3_counting 6 (some .int) RX3) {r : Int32} {a : Nat} {x1 : Int32} {x2 : Int32} {x3 : (Option Nat)} {σ0 σ σ' : cl_S} {T : Nat → Nat × Nat} {H : Heap} {locs : List Loc} {ls : Array Slot} {cells slots : Nat} (h : bc_X3_counting_0 a x1 x2 x3 σ = some (r, σ')) (G : cl_G true D c0 ({ frames := 1, cells := σ0.2.2.2.2.2.1, slots := σ0.2.2.2.2.2.2, locals := 26 }) s σ0.2.2.2.1 T σ H locs cells slots) (ha : (T a).1 = 19) (f3 : cl_RT T x3 25) (hl : lv_has ls 6 [(0, .ref (c0 + a)), (1, .int x1), (2, .int x2), (3, cl_rf c0 x3)]) : W p l e ({ frames := 1, cells := σ0.2.2.2.2.2.1, slots := σ0.2.2.2.2.2.2, locals := 26 }) s m args below meth c H locs cells slots (MQ below (cl_Q true D c0 (some (.int r)) cl_no σ0 σ') args s (σ0.2.2.2.2.2.1 - σ'.2.2.2.2.2.1) (σ0.2.2.2.2.2.2 - σ'.2.2.2.2.2.2) (cl_A c0 σ0.2.2.2.1 s.heap.size)) (F0 m 0 ls []) := by
  unfold bc_X3_counting_0 at h
  refine lv_aload_n C.1 C.2.1 dX3_counting_0 rfl (lv_at hl 0 rfl) ?_
  refine lv_iload_n C.1 C.2.1 dX3_counting_1 rfl (lv_at hl 1 rfl) ?_
  refine lv_iload_n C.1 C.2.1 dX3_counting_2 rfl (lv_at hl 2 rfl) ?_
  refine cl_aload_n C.1 C.2.1 dX3_counting_3 rfl (lv_at hl 3 rfl) ?_
  obtain ⟨r_2, σ_1, hq, h_3⟩ := bd2_some h
  refine cl_callV (ci := 3) (rest := []) C G rfl ha cw_RX3_29 [.int x1, .int x2, cl_rf c0 x3] _ (kc_X3_isRight l D c0 (by rw [G.1]; exact ha) hq (by rw [G.1]; exact f3)) (Nat.le_of_ble_eq_true rfl) (Nat.le_of_ble_eq_true rfl) rfl rfl hl.1 (Nat.le_of_ble_eq_true rfl) dX3_counting_4 (fun T_4 H locs cells slots t_5 hu G_6 => ?_)
  have ha := hu.kind ha (by decide)
  have f3 := f3.up hu (by decide)
  refine W.eq (g2 := F0 m 7 ls [.int r_2]) rfl ?_
  refine lv_istore (lv' := [(4, .int r_2), (0, .ref (c0 + a)), (1, .int x1), (2, .int x2), (3, cl_rf c0 x3)]) C.1 C.2.1 dX3_counting_7 hl (by decide) (by first | rfl | (cases x3 <;> rfl)) (fun ls hl_7 => ?_)
  refine lv_aload_n C.1 C.2.1 dX3_counting_9 rfl (lv_at hl_7 1 rfl) ?_
  refine lv_iload_n C.1 C.2.1 dX3_counting_10 rfl (lv_at hl_7 2 rfl) ?_
  refine lv_iconst (v := (1:Int32)) C.1 C.2.1 dX3_counting_11 (by decide) ?_
  refine lv_iadd C.1 C.2.1 dX3_counting_12 ?_
  refine lv_iload_n C.1 C.2.1 dX3_counting_13 rfl (lv_at hl_7 3 rfl) ?_
  refine cl_aload_n C.1 C.2.1 dX3_counting_14 rfl (lv_at hl_7 4 rfl) ?_
  obtain ⟨r_9, σ_8, hq, h_10⟩ := bd2_some h_3
  refine cl_callV (ci := 3) (rest := []) C G_6 rfl ha cw_RX3_29 [.int (x1 + (1:Int32)), .int x2, cl_rf c0 x3] _ (kc_X3_isRight l D c0 (by rw [G_6.1]; exact ha) hq (by rw [G_6.1]; exact f3)) (Nat.le_of_ble_eq_true rfl) (Nat.le_of_ble_eq_true rfl) rfl rfl hl_7.1 (Nat.le_of_ble_eq_true rfl) dX3_counting_15 (fun T_11 H locs cells slots t_12 hu G_13 => ?_)
  have ha := hu.kind ha (by decide)
  have f3 := f3.up hu (by decide)
  refine W.eq (g2 := F0 m 18 ls [.int r_9]) rfl ?_
  refine lv_istore (lv' := [(5, .int r_9), (4, .int r_2), (0, .ref (c0 + a)), (1, .int x1), (2, .int x2), (3, cl_rf c0 x3)]) C.1 C.2.1 dX3_counting_18 hl_7 (by decide) (by first | rfl | (cases x3 <;> rfl)) (fun ls hl_14 => ?_)
  refine lv_iload C.1 C.2.1 dX3_counting_20 (lv_at hl_14 1 rfl) ?_
  refine lv_if_eq (tgt := 55) C.1 C.2.1 dX3_counting_22 (by decide) (fun hc => ?_) (fun hc => ?_)
  · rw [if_pos hc] at h_10
    exact wc_X3_counting_55 C h_10 G_13 (lv_sub hl_14 [3, 1, 0] rfl)
  · rw [if_neg hc] at h_10
    refine lv_iload C.1 C.2.1 dX3_counting_25 (lv_at hl_14 0 rfl) ?_
    refine lv_if_eq (tgt := 55) C.1 C.2.1 dX3_counting_27 (by decide) (fun hc => ?_) (fun hc => ?_)
    · rw [if_pos hc] at h_10
      exact wc_X3_counting_55 C h_10 G_13 (lv_sub hl_14 [3, 1, 0] rfl)
    · rw [if_neg hc] at h_10
      refine lv_aload_n C.1 C.2.1 dX3_counting_30 rfl (lv_at hl_14 2 rfl) ?_
      refine cg_3_11 C G_13 ha dX3_counting_31 (fun t_15 => ?_)
      refine lv_iload_n C.1 C.2.1 dX3_counting_34 rfl (lv_at hl_14 3 rfl) ?_
      refine lv_iconst (v := (1:Int32)) C.1 C.2.1 dX3_counting_35 (by decide) ?_
      refine lv_iadd C.1 C.2.1 dX3_counting_36 ?_
      obtain ⟨hi, h_16⟩ := ix_some h_10
      refine cl_iald C G_13 t_15 hi dX3_counting_37 ?_
      refine lv_aload_n C.1 C.2.1 dX3_counting_38 rfl (lv_at hl_14 2 rfl) ?_
      refine cg_3_11 C G_13 ha dX3_counting_39 (fun t_17 => ?_)
      refine lv_iload_n C.1 C.2.1 dX3_counting_42 rfl (lv_at hl_14 3 rfl) ?_
      obtain ⟨hi, h_18⟩ := ix_some h_16
      refine cl_iald C G_13 t_17 hi dX3_counting_43 ?_
      refine lv_icmp_le (tgt := 53) C.1 C.2.1 dX3_counting_44 (by decide) (fun hc => ?_) (fun hc => ?_)
      · rw [if_pos hc] at h_18
        refine lv_iload_n C.1 C.2.1 dX3_counting_53 rfl (lv_at hl_14 3 rfl) ?_
        exact cl_iret ⟨rfl, rfl⟩ rfl C G_13 h_18 dX3_counting_54
      · rw [if_neg hc] at h_18
        refine lv_iload_n C.1 C.2.1 dX3_counting_47 rfl (lv_at hl_14 3 rfl) ?_
        refine lv_iconst (v := (1:Int32)) C.1 C.2.1 dX3_counting_48 (by decide) ?_
        refine lv_iadd C.1 C.2.1 dX3_counting_49 ?_
        refine lv_goto (tgt := 54) C.1 C.2.1 dX3_counting_50 (by decide) ?_
        exact cl_iret ⟨rfl, rfl⟩ rfl C G_13 h_18 dX3_counting_54
noncomputable def fc_X3_counting (a : Nat) (x1 : Int32) (x2 : Int32) (x3 : (Option Nat)) (σ : cl_S) : Option (Int32 × cl_S) := bc_X3_counting_0 a x1 x2 x3 σ
theorem kc_X3_counting (l : Launch) (D : cl_D) (c0 : Nat) {r : Int32} {a : Nat} {x1 : Int32} {x2 : Int32} {x3 : (Option Nat)} {σ σ' : cl_S} (ha : (σ.2.2.2.1 a).1 = 19) (h : fc_X3_counting a x1 x2 x3 σ = some (r, σ')) (f3 : cl_RT σ.2.2.2.1 x3 25) : cl_Met true l D c0 yX3_counting cX3_counting 6 (some .int) 1 26 [.ref (c0 + a), .int x1, .int x2, cl_rf c0 x3] σ (some (.int r)) cl_no σ' :=
  by cases x3 <;> exact cl_of (by decide) (Nat.le_of_ble_eq_true rfl) (fun p e s m args below meth c ls C hn G hl => wc_X3_counting_0 C h G ha f3 hl)
abbrev cX4_addOctets : ByteArray := prog_6_method_2_code
def yX4_addOctets : MethodName := ⟨RX4, "addOctets", "(JI)I"⟩
theorem dX4_addOctets_0 : decode cX4_addOctets 0 = .ok (.iload_n 3, 1) := by decide +kernel
theorem dX4_addOctets_1 : decode cX4_addOctets 1 = .ok (.ifCond .ne 8, 3) := by decide +kernel
theorem dX4_addOctets_4 : decode cX4_addOctets 4 = .ok (.aload_n 0, 1) := by decide +kernel
theorem dX4_addOctets_5 : decode cX4_addOctets 5 = .ok (.iconst 0, 1) := by decide +kernel
theorem dX4_addOctets_6 : decode cX4_addOctets 6 = .ok (.putfield 26, 3) := by decide +kernel
theorem dX4_addOctets_9 : decode cX4_addOctets 9 = .ok (.aload_n 0, 1) := by decide +kernel
theorem dX4_addOctets_10 : decode cX4_addOctets 10 = .ok (.getfield 26, 3) := by decide +kernel
theorem dX4_addOctets_13 : decode cX4_addOctets 13 = .ok (.iload_n 3, 1) := by decide +kernel
theorem dX4_addOctets_14 : decode cX4_addOctets 14 = .ok (.iadd, 1) := by decide +kernel
theorem dX4_addOctets_15 : decode cX4_addOctets 15 = .ok (.sipush 6000, 3) := by decide +kernel
theorem dX4_addOctets_18 : decode cX4_addOctets 18 = .ok (.if_icmp .le 6, 3) := by decide +kernel
theorem dX4_addOctets_21 : decode cX4_addOctets 21 = .ok (.bipush (-4), 2) := by decide +kernel
theorem dX4_addOctets_23 : decode cX4_addOctets 23 = .ok (.ireturn, 1) := by decide +kernel
theorem dX4_addOctets_24 : decode cX4_addOctets 24 = .ok (.iload_n 3, 1) := by decide +kernel
theorem dX4_addOctets_25 : decode cX4_addOctets 25 = .ok (.iconst 1, 1) := by decide +kernel
theorem dX4_addOctets_26 : decode cX4_addOctets 26 = .ok (.isub, 1) := by decide +kernel
theorem dX4_addOctets_27 : decode cX4_addOctets 27 = .ok (.istore 4, 2) := by decide +kernel
theorem dX4_addOctets_29 : decode cX4_addOctets 29 = .ok (.iload 4, 2) := by decide +kernel
theorem dX4_addOctets_31 : decode cX4_addOctets 31 = .ok (.ifCond .lt 41, 3) := by decide +kernel
theorem dX4_addOctets_34 : decode cX4_addOctets 34 = .ok (.aload_n 0, 1) := by decide +kernel
theorem dX4_addOctets_35 : decode cX4_addOctets 35 = .ok (.getfield 11, 3) := by decide +kernel
theorem dX4_addOctets_38 : decode cX4_addOctets 38 = .ok (.aload_n 0, 1) := by decide +kernel
theorem dX4_addOctets_39 : decode cX4_addOctets 39 = .ok (.getfield 26, 3) := by decide +kernel
theorem dX4_addOctets_42 : decode cX4_addOctets 42 = .ok (.lload_n 1, 1) := by decide +kernel
theorem dX4_addOctets_43 : decode cX4_addOctets 43 = .ok (.bipush 8, 2) := by decide +kernel
theorem dX4_addOctets_45 : decode cX4_addOctets 45 = .ok (.iload 4, 2) := by decide +kernel
theorem dX4_addOctets_47 : decode cX4_addOctets 47 = .ok (.imul, 1) := by decide +kernel
theorem dX4_addOctets_48 : decode cX4_addOctets 48 = .ok (.lushr, 1) := by decide +kernel
theorem dX4_addOctets_49 : decode cX4_addOctets 49 = .ok (.ldc2_w 30, 3) := by decide +kernel
theorem dX4_addOctets_52 : decode cX4_addOctets 52 = .ok (.land, 1) := by decide +kernel
theorem dX4_addOctets_53 : decode cX4_addOctets 53 = .ok (.l2i, 1) := by decide +kernel
theorem dX4_addOctets_54 : decode cX4_addOctets 54 = .ok (.i2c, 1) := by decide +kernel
theorem dX4_addOctets_55 : decode cX4_addOctets 55 = .ok (.castore, 1) := by decide +kernel
theorem dX4_addOctets_56 : decode cX4_addOctets 56 = .ok (.aload_n 0, 1) := by decide +kernel
theorem dX4_addOctets_57 : decode cX4_addOctets 57 = .ok (.dup, 1) := by decide +kernel
theorem dX4_addOctets_58 : decode cX4_addOctets 58 = .ok (.getfield 26, 3) := by decide +kernel
theorem dX4_addOctets_61 : decode cX4_addOctets 61 = .ok (.iconst 1, 1) := by decide +kernel
theorem dX4_addOctets_62 : decode cX4_addOctets 62 = .ok (.iadd, 1) := by decide +kernel
theorem dX4_addOctets_63 : decode cX4_addOctets 63 = .ok (.putfield 26, 3) := by decide +kernel
theorem dX4_addOctets_66 : decode cX4_addOctets 66 = .ok (.iinc 4 (-1), 3) := by decide +kernel
theorem dX4_addOctets_69 : decode cX4_addOctets 69 = .ok (.goto (-40), 3) := by decide +kernel
theorem dX4_addOctets_72 : decode cX4_addOctets 72 = .ok (.aload_n 0, 1) := by decide +kernel
theorem dX4_addOctets_73 : decode cX4_addOctets 73 = .ok (.getfield 26, 3) := by decide +kernel
theorem dX4_addOctets_76 : decode cX4_addOctets 76 = .ok (.ireturn, 1) := by decide +kernel
theorem cc_X4_addOctets : Cond.code yX4_addOctets cX4_addOctets 5 (some .int) ∈ rf_tb := rf_at 746 (by decide +kernel) (by decide +kernel)
theorem kc_RX4_30 : Cond.constantLong RX4 30 (255 : Int64) ∈ rf_tb := rf_at 747 (by decide +kernel) (by decide +kernel)
noncomputable def lc_X4_addOctets_29 (a : Nat) (x1 : Int64) (x4 : Int32) (σ : cl_S) : Option ((Int32 × cl_S) ⊕ (Int32 × cl_S)) := (if x4 < 0 then some (.inr (x4, σ)) else ix (σ.1 a 1) 6000 (vl (cl_w σ (a + 1) (σ.1 a 1).toNatClampNeg (vp_nar .char ((((((x1.toUInt64 >>> (((8:Int32) * x4).toInt64.toUInt64 &&& Int64.toUInt64 63)).toInt64) &&& (255:Int64)).toInt32).toUInt32 % 65536).toInt32))) (fun σ_5 => vl (cl_w σ_5 a 1 ((σ_5.1 a 1) + (1:Int32))) (fun σ_10 => vl (x4 + (-1:Int32)) (fun x4_14 => some (.inl (x4_14, σ_10)))))))
noncomputable def ec_X4_addOctets_29 (a : Nat) (x1 : Int64) (x4 : Int32) (σ : cl_S) : Option (Int32 × cl_S) := some ((σ.1 a 1), σ)
noncomputable def bc_X4_addOctets_29 (a : Nat) (x1 : Int64) (x4 : Int32) (σ : cl_S) : Option (Int32 × cl_S) := (lp (fun z : (Int32 × cl_S) => lc_X4_addOctets_29 a x1 z.1 z.2) (x4, σ)).bind (fun z => ec_X4_addOctets_29 a x1 z.1 z.2)
set_option maxHeartbeats 4000000 in
theorem wc_X4_addOctets_29 (C : cl_C D p s m args meth c cX4_addOctets 5 (some .int) RX4) {r : Int32} {a : Nat} {x1 : Int64} {x4 : Int32} {σ0 σ σ' : cl_S} {T : Nat → Nat × Nat} {H : Heap} {locs : List Loc} {ls : Array Slot} {cells slots : Nat} (h : bc_X4_addOctets_29 a x1 x4 σ = some (r, σ')) (G : cl_G true D c0 ({ frames := 0, cells := σ0.2.2.2.2.2.1, slots := σ0.2.2.2.2.2.2, locals := 0 }) s σ0.2.2.2.1 T σ H locs cells slots) (ha : (T a).1 = 20) (hl : lv_has ls 5 [(0, .ref (c0 + a)), (1, .long x1), (4, .int x4)]) : W p l e ({ frames := 0, cells := σ0.2.2.2.2.2.1, slots := σ0.2.2.2.2.2.2, locals := 0 }) s m args below meth c H locs cells slots (MQ below (cl_Q true D c0 (some (.int r)) cl_no σ0 σ') args s (σ0.2.2.2.2.2.1 - σ'.2.2.2.2.2.1) (σ0.2.2.2.2.2.2 - σ'.2.2.2.2.2.2) (cl_A c0 σ0.2.2.2.1 s.heap.size)) (F0 m 29 ls []) := by
  unfold bc_X4_addOctets_29 at h
  obtain ⟨y, hy, h⟩ := bd_some h
  have hE : (fun z : (Int32 × cl_S) => ∀ (T : Nat → Nat × Nat) (H : Heap) (locs : List Loc) (ls : Array Slot) (cells slots : Nat), cl_G true D c0 ({ frames := 0, cells := σ0.2.2.2.2.2.1, slots := σ0.2.2.2.2.2.2, locals := 0 }) s σ0.2.2.2.1 T z.2 H locs cells slots → (T a).1 = 20 → lv_has ls 5 [(0, .ref (c0 + a)), (1, .long x1), (4, .int (z.1))] → W p l e ({ frames := 0, cells := σ0.2.2.2.2.2.1, slots := σ0.2.2.2.2.2.2, locals := 0 }) s m args below meth c H locs cells slots (MQ below (cl_Q true D c0 (some (.int r)) cl_no σ0 σ') args s (σ0.2.2.2.2.2.1 - σ'.2.2.2.2.2.1) (σ0.2.2.2.2.2.2 - σ'.2.2.2.2.2.2) (cl_A c0 σ0.2.2.2.1 s.heap.size)) (F0 m 72 ls [])) y := by
    clear hy G ha hl
    intro T H locs ls cells slots G ha hl
    obtain ⟨x4, σ⟩ := y
    dsimp only at h G ha hl
    unfold ec_X4_addOctets_29 at h
    refine lv_aload_n C.1 C.2.1 dX4_addOctets_72 rfl (lv_at hl 0 rfl) ?_
    refine cg_4_26 C G ha dX4_addOctets_73 ?_
    exact cl_iret ⟨rfl, rfl⟩ rfl C G h dX4_addOctets_76
  refine lp_recE (fun z : (Int32 × cl_S) => ∀ (T : Nat → Nat × Nat) (H : Heap) (locs : List Loc) (ls : Array Slot) (cells slots : Nat), cl_G true D c0 ({ frames := 0, cells := σ0.2.2.2.2.2.1, slots := σ0.2.2.2.2.2.2, locals := 0 }) s σ0.2.2.2.1 T z.2 H locs cells slots → (T a).1 = 20 → lv_has ls 5 [(0, .ref (c0 + a)), (1, .long x1), (4, .int (z.1))] → W p l e ({ frames := 0, cells := σ0.2.2.2.2.2.1, slots := σ0.2.2.2.2.2.2, locals := 0 }) s m args below meth c H locs cells slots (MQ below (cl_Q true D c0 (some (.int r)) cl_no σ0 σ') args s (σ0.2.2.2.2.2.1 - σ'.2.2.2.2.2.1) (σ0.2.2.2.2.2.2 - σ'.2.2.2.2.2.2) (cl_A c0 σ0.2.2.2.1 s.heap.size)) (F0 m 29 ls [])) (fun z : (Int32 × cl_S) => ∀ (T : Nat → Nat × Nat) (H : Heap) (locs : List Loc) (ls : Array Slot) (cells slots : Nat), cl_G true D c0 ({ frames := 0, cells := σ0.2.2.2.2.2.1, slots := σ0.2.2.2.2.2.2, locals := 0 }) s σ0.2.2.2.1 T z.2 H locs cells slots → (T a).1 = 20 → lv_has ls 5 [(0, .ref (c0 + a)), (1, .long x1), (4, .int (z.1))] → W p l e ({ frames := 0, cells := σ0.2.2.2.2.2.1, slots := σ0.2.2.2.2.2.2, locals := 0 }) s m args below meth c H locs cells slots (MQ below (cl_Q true D c0 (some (.int r)) cl_no σ0 σ') args s (σ0.2.2.2.2.2.1 - σ'.2.2.2.2.2.1) (σ0.2.2.2.2.2.2 - σ'.2.2.2.2.2.2) (cl_A c0 σ0.2.2.2.1 s.heap.size)) (F0 m 72 ls [])) ?_ _ _ hy hE _ _ _ _ _ _ G ha hl
  clear hE hy G ha hl h
  intro z o h hP T H locs ls cells slots G ha hl
  obtain ⟨x4, σ⟩ := z
  dsimp only at h G ha hl
  unfold lc_X4_addOctets_29 at h
  refine lv_iload C.1 C.2.1 dX4_addOctets_29 (lv_at hl 2 rfl) ?_
  refine lv_if_lt (tgt := 72) C.1 C.2.1 dX4_addOctets_31 (by decide) (fun hc => ?_) (fun hc => ?_)
  · rw [if_pos hc] at h
    cases h
    exact hP _ _ _ _ _ _ G ha (lv_sub hl [0, 1, 2] rfl)
  · rw [if_neg hc] at h
    refine lv_aload_n C.1 C.2.1 dX4_addOctets_34 rfl (lv_at hl 0 rfl) ?_
    refine cg_4_11 C G ha dX4_addOctets_35 (fun t_4 => ?_)
    refine lv_aload_n C.1 C.2.1 dX4_addOctets_38 rfl (lv_at hl 0 rfl) ?_
    refine cg_4_26 C G ha dX4_addOctets_39 ?_
    refine lv_lload_n C.1 C.2.1 dX4_addOctets_42 rfl (lv_at hl 1 rfl) ?_
    refine lv_bipush (v := (8:Int32)) C.1 C.2.1 dX4_addOctets_43 (by decide) ?_
    refine lv_iload C.1 C.2.1 dX4_addOctets_45 (lv_at hl 2 rfl) ?_
    refine lv_imul C.1 C.2.1 dX4_addOctets_47 ?_
    refine lv_lushr C.1 C.2.1 dX4_addOctets_48 rfl ?_
    refine lv_ldc2 (v := (255:Int64)) C.1 C.2.1 C.2.2.2.1 (C.2.2.2.2.1 _ kc_RX4_30) dX4_addOctets_49 ?_
    refine lv_land C.1 C.2.1 dX4_addOctets_52 ?_
    refine lv_l2i C.1 C.2.1 dX4_addOctets_53 rfl ?_
    refine lv_i2c C.1 C.2.1 dX4_addOctets_54 rfl ?_
    obtain ⟨hi, h_6⟩ := ix_some h
    refine cl_cast C G t_4 hi dX4_addOctets_55 (fun H locs G_7 => ?_)
    refine cl_nm G_7 h_6 (fun σ_5 G_8 h_9 => ?_)
    refine lv_aload_n C.1 C.2.1 dX4_addOctets_56 rfl (lv_at hl 0 rfl) ?_
    refine lv_dup C.1 C.2.1 dX4_addOctets_57 rfl ?_
    refine cg_4_26 C G_8 ha dX4_addOctets_58 ?_
    refine lv_iconst (v := (1:Int32)) C.1 C.2.1 dX4_addOctets_61 (by decide) ?_
    refine lv_iadd C.1 C.2.1 dX4_addOctets_62 ?_
    refine cp_4_26 C G_8 ha dX4_addOctets_63 (fun H locs G_11 => ?_)
    refine cl_nm G_11 h_9 (fun σ_10 G_12 h_13 => ?_)
    refine vl_ex h_13 (fun x4_14 ey h_15 => ?_)
    refine lv_iinc (v := x4_14) (lv' := [(4, .int x4_14), (0, .ref (c0 + a)), (1, .long x1)]) C.1 C.2.1 dX4_addOctets_66 hl (k := 2) rfl (by rw [ey]; rfl) (by decide) rfl (fun ls hl_16 => ?_)
    refine lv_goto (tgt := 29) C.1 C.2.1 dX4_addOctets_69 (by decide) ?_
    cases h_15
    exact hP _ _ _ _ _ _ G_12 ha (lv_sub hl_16 [1, 2, 0] rfl)
noncomputable def bc_X4_addOctets_9 (a : Nat) (x1 : Int64) (x3 : Int32) (σ : cl_S) : Option (Int32 × cl_S) := (if ((σ.1 a 1) + x3) ≤ (6000:Int32) then vl (x3 - (1:Int32)) (fun x4_1 => bc_X4_addOctets_29 a x1 x4_1 σ) else some ((-4:Int32), σ))
set_option maxHeartbeats 4000000 in
theorem wc_X4_addOctets_9 (C : cl_C D p s m args meth c cX4_addOctets 5 (some .int) RX4) {r : Int32} {a : Nat} {x1 : Int64} {x3 : Int32} {σ0 σ σ' : cl_S} {T : Nat → Nat × Nat} {H : Heap} {locs : List Loc} {ls : Array Slot} {cells slots : Nat} (h : bc_X4_addOctets_9 a x1 x3 σ = some (r, σ')) (G : cl_G true D c0 ({ frames := 0, cells := σ0.2.2.2.2.2.1, slots := σ0.2.2.2.2.2.2, locals := 0 }) s σ0.2.2.2.1 T σ H locs cells slots) (ha : (T a).1 = 20) (hl : lv_has ls 5 [(0, .ref (c0 + a)), (1, .long x1), (3, .int x3)]) : W p l e ({ frames := 0, cells := σ0.2.2.2.2.2.1, slots := σ0.2.2.2.2.2.2, locals := 0 }) s m args below meth c H locs cells slots (MQ below (cl_Q true D c0 (some (.int r)) cl_no σ0 σ') args s (σ0.2.2.2.2.2.1 - σ'.2.2.2.2.2.1) (σ0.2.2.2.2.2.2 - σ'.2.2.2.2.2.2) (cl_A c0 σ0.2.2.2.1 s.heap.size)) (F0 m 9 ls []) := by
  unfold bc_X4_addOctets_9 at h
  refine lv_aload_n C.1 C.2.1 dX4_addOctets_9 rfl (lv_at hl 0 rfl) ?_
  refine cg_4_26 C G ha dX4_addOctets_10 ?_
  refine lv_iload_n C.1 C.2.1 dX4_addOctets_13 rfl (lv_at hl 2 rfl) ?_
  refine lv_iadd C.1 C.2.1 dX4_addOctets_14 ?_
  refine lv_sipush (v := (6000:Int32)) C.1 C.2.1 dX4_addOctets_15 (by decide) ?_
  refine lv_icmp_le (tgt := 24) C.1 C.2.1 dX4_addOctets_18 (by decide) (fun hc => ?_) (fun hc => ?_)
  · rw [if_pos hc] at h
    refine lv_iload_n C.1 C.2.1 dX4_addOctets_24 rfl (lv_at hl 2 rfl) ?_
    refine lv_iconst (v := (1:Int32)) C.1 C.2.1 dX4_addOctets_25 (by decide) ?_
    refine lv_isub C.1 C.2.1 dX4_addOctets_26 ?_
    refine vt_i h (fun x4_1 h_2 => ?_)
    refine lv_istore (lv' := [(4, .int x4_1), (0, .ref (c0 + a)), (1, .long x1), (3, .int x3)]) C.1 C.2.1 dX4_addOctets_27 hl (by decide) rfl (fun ls hl_3 => ?_)
    exact wc_X4_addOctets_29 C h_2 G ha (lv_sub hl_3 [1, 2, 0] rfl)
  · rw [if_neg hc] at h
    refine lv_bipush (v := (-4:Int32)) C.1 C.2.1 dX4_addOctets_21 (by decide) ?_
    exact cl_iret ⟨rfl, rfl⟩ rfl C G h dX4_addOctets_23
noncomputable def bc_X4_addOctets_0 (a : Nat) (x1 : Int64) (x3 : Int32) (σ : cl_S) : Option (Int32 × cl_S) := (if x3 = 0 then vl (cl_w σ a 1 (0:Int32)) (fun σ_17 => bc_X4_addOctets_9 a x1 x3 σ_17) else bc_X4_addOctets_9 a x1 x3 σ)
set_option maxHeartbeats 4000000 in
theorem wc_X4_addOctets_0 (C : cl_C D p s m args meth c cX4_addOctets 5 (some .int) RX4) {r : Int32} {a : Nat} {x1 : Int64} {x3 : Int32} {σ0 σ σ' : cl_S} {T : Nat → Nat × Nat} {H : Heap} {locs : List Loc} {ls : Array Slot} {cells slots : Nat} (h : bc_X4_addOctets_0 a x1 x3 σ = some (r, σ')) (G : cl_G true D c0 ({ frames := 0, cells := σ0.2.2.2.2.2.1, slots := σ0.2.2.2.2.2.2, locals := 0 }) s σ0.2.2.2.1 T σ H locs cells slots) (ha : (T a).1 = 20) (hl : lv_has ls 5 [(0, .ref (c0 + a)), (1, .long x1), (3, .int x3)]) : W p l e ({ frames := 0, cells := σ0.2.2.2.2.2.1, slots := σ0.2.2.2.2.2.2, locals := 0 }) s m args below meth c H locs cells slots (MQ below (cl_Q true D c0 (some (.int r)) cl_no σ0 σ') args s (σ0.2.2.2.2.2.1 - σ'.2.2.2.2.2.1) (σ0.2.2.2.2.2.2 - σ'.2.2.2.2.2.2) (cl_A c0 σ0.2.2.2.1 s.heap.size)) (F0 m 0 ls []) := by
  unfold bc_X4_addOctets_0 at h
  refine lv_iload_n C.1 C.2.1 dX4_addOctets_0 rfl (lv_at hl 2 rfl) ?_
  refine lv_if_ne (tgt := 9) C.1 C.2.1 dX4_addOctets_1 (by decide) (fun hc => ?_) (fun hc => ?_)
  · rw [if_neg hc] at h
    exact wc_X4_addOctets_9 C h G ha (lv_sub hl [0, 1, 2] rfl)
  · rw [if_pos hc] at h
    refine lv_aload_n C.1 C.2.1 dX4_addOctets_4 rfl (lv_at hl 0 rfl) ?_
    refine lv_iconst (v := (0:Int32)) C.1 C.2.1 dX4_addOctets_5 (by decide) ?_
    refine cp_4_26 C G ha dX4_addOctets_6 (fun H locs G_18 => ?_)
    refine cl_nm G_18 h (fun σ_17 G_19 h_20 => ?_)
    exact wc_X4_addOctets_9 C h_20 G_19 ha (lv_sub hl [0, 1, 2] rfl)
noncomputable def fc_X4_addOctets (a : Nat) (x1 : Int64) (x3 : Int32) (σ : cl_S) : Option (Int32 × cl_S) := bc_X4_addOctets_0 a x1 x3 σ
theorem kc_X4_addOctets (l : Launch) (D : cl_D) (c0 : Nat) {r : Int32} {a : Nat} {x1 : Int64} {x3 : Int32} {σ σ' : cl_S} (ha : (σ.2.2.2.1 a).1 = 20) (h : fc_X4_addOctets a x1 x3 σ = some (r, σ')) : cl_Met true l D c0 yX4_addOctets cX4_addOctets 5 (some .int) 0 0 [.ref (c0 + a), .long x1, .int x3] σ (some (.int r)) cl_no σ' :=
  cl_of (by decide) (Nat.le_of_ble_eq_true rfl) (fun p e s m args below meth c ls C hn G hl => wc_X4_addOctets_0 C h G ha hl)
abbrev cX8_clear : ByteArray := prog_10_method_2_code
def yX8_clear : MethodName := ⟨RX8, "clear", "()V"⟩
theorem dX8_clear_0 : decode cX8_clear 0 = .ok (.aload_n 0, 1) := by decide +kernel
theorem dX8_clear_1 : decode cX8_clear 1 = .ok (.iconst 0, 1) := by decide +kernel
theorem dX8_clear_2 : decode cX8_clear 2 = .ok (.putfield 33, 3) := by decide +kernel
theorem dX8_clear_5 : decode cX8_clear 5 = .ok (.aload_n 0, 1) := by decide +kernel
theorem dX8_clear_6 : decode cX8_clear 6 = .ok (.getfield 29, 3) := by decide +kernel
theorem dX8_clear_9 : decode cX8_clear 9 = .ok (.iconst 0, 1) := by decide +kernel
theorem dX8_clear_10 : decode cX8_clear 10 = .ok (.invokestatic 36, 3) := by decide +kernel
theorem dX8_clear_13 : decode cX8_clear 13 = .ok (.return_, 1) := by decide +kernel
theorem cc_X8_clear : Cond.code yX8_clear cX8_clear 1 none ∈ rf_tb := rf_at 1058 (by decide +kernel) (by decide +kernel)
theorem cw_RX8_36 : cl_wS RX8 yJ7_fill_53178 cJ7_fill_53178 4 none 36 2 := ⟨⟨rf_at 1059 (by decide +kernel) (by decide +kernel), rf_at 976 (by decide +kernel) (by decide +kernel), cc_J7_fill_53178, rf_at 18 (by decide +kernel) (by decide +kernel)⟩, ⟨by decide, by decide, by decide +kernel⟩⟩
noncomputable def bc_X8_clear_0 (a : Nat) (σ : cl_S) : Option (cl_S) := vl (cl_w σ a 5 (0:Int32)) (fun σ_1 => bd1 (fc_J7_fill_53178 (some (a + 2)) (0:Int32) σ_1) (fun σ_6 => some σ_6))
set_option maxHeartbeats 4000000 in
theorem wc_X8_clear_0 (C : cl_C D p s m args meth c cX8_clear 1 none RX8) {a : Nat} {σ0 σ σ' : cl_S} {T : Nat → Nat × Nat} {H : Heap} {locs : List Loc} {ls : Array Slot} {cells slots : Nat} (h : bc_X8_clear_0 a σ = some σ') (G : cl_G true D c0 ({ frames := 1, cells := σ0.2.2.2.2.2.1, slots := σ0.2.2.2.2.2.2, locals := 23 }) s σ0.2.2.2.1 T σ H locs cells slots) (ha : (T a).1 = 24) (hl : lv_has ls 1 [(0, .ref (c0 + a))]) : W p l e ({ frames := 1, cells := σ0.2.2.2.2.2.1, slots := σ0.2.2.2.2.2.2, locals := 23 }) s m args below meth c H locs cells slots (MQ below (cl_Q true D c0 none cl_no σ0 σ') args s (σ0.2.2.2.2.2.1 - σ'.2.2.2.2.2.1) (σ0.2.2.2.2.2.2 - σ'.2.2.2.2.2.2) (cl_A c0 σ0.2.2.2.1 s.heap.size)) (F0 m 0 ls []) := by
  unfold bc_X8_clear_0 at h
  refine lv_aload_n C.1 C.2.1 dX8_clear_0 rfl (lv_at hl 0 rfl) ?_
  refine lv_iconst (v := (0:Int32)) C.1 C.2.1 dX8_clear_1 (by decide) ?_
  refine cp_8_33 C G ha dX8_clear_2 (fun H locs G_2 => ?_)
  refine cl_nm G_2 h (fun σ_1 G_3 h_4 => ?_)
  refine lv_aload_n C.1 C.2.1 dX8_clear_5 rfl (lv_at hl 0 rfl) ?_
  refine cg_8_29 C G_3 ha dX8_clear_6 (fun t_5 => ?_)
  refine lv_iconst (v := (0:Int32)) C.1 C.2.1 dX8_clear_9 (by decide) ?_
  obtain ⟨σ_6, hq, h_7⟩ := bd1_some h_4
  refine cl_callS (rest := []) C G_3 cw_RX8_36 [.ref (c0 + (a + 2)), .int (0:Int32)] _ (kc_J7_fill_53178 l D c0 hq (by rw [G_3.1]; exact (cl_RTs (by rw [t_5])))) (Nat.le_of_ble_eq_true rfl) (Nat.le_of_ble_eq_true rfl) rfl rfl hl.1 (Nat.le_of_ble_eq_true rfl) dX8_clear_10 (fun T_8 H locs cells slots t_9 hu G_10 => ?_)
  have ha := hu.kind ha (by decide)
  refine W.eq (g2 := F0 m 13 ls []) rfl ?_
  exact cl_vret ⟨rfl, rfl⟩ rfl C G_10 h_7 dX8_clear_13
noncomputable def fc_X8_clear (a : Nat) (σ : cl_S) : Option (cl_S) := bc_X8_clear_0 a σ
theorem kc_X8_clear (l : Launch) (D : cl_D) (c0 : Nat) {a : Nat} {σ σ' : cl_S} (ha : (σ.2.2.2.1 a).1 = 24) (h : fc_X8_clear a σ = some σ') : cl_Met true l D c0 yX8_clear cX8_clear 1 none 1 23 [.ref (c0 + a)] σ none cl_no σ' :=
  cl_of (by decide) (Nat.le_of_ble_eq_true rfl) (fun p e s m args below meth c ls C hn G hl => wc_X8_clear_0 C h G ha hl)
abbrev cX6_reset : ByteArray := prog_8_method_2_code
def yX6_reset : MethodName := ⟨RX6, "reset", "(I)V"⟩
theorem dX6_reset_0 : decode cX6_reset 0 = .ok (.aload_n 0, 1) := by decide +kernel
theorem dX6_reset_1 : decode cX6_reset 1 = .ok (.getfield 12, 3) := by decide +kernel
theorem dX6_reset_4 : decode cX6_reset 4 = .ok (.iload_n 1, 1) := by decide +kernel
theorem dX6_reset_5 : decode cX6_reset 5 = .ok (.invokevirtual 69, 3) := by decide +kernel
theorem dX6_reset_8 : decode cX6_reset 8 = .ok (.aload_n 0, 1) := by decide +kernel
theorem dX6_reset_9 : decode cX6_reset 9 = .ok (.getfield 50, 3) := by decide +kernel
theorem dX6_reset_12 : decode cX6_reset 12 = .ok (.invokevirtual 73, 3) := by decide +kernel
theorem dX6_reset_15 : decode cX6_reset 15 = .ok (.aload_n 0, 1) := by decide +kernel
theorem dX6_reset_16 : decode cX6_reset 16 = .ok (.iconst 0, 1) := by decide +kernel
theorem dX6_reset_17 : decode cX6_reset 17 = .ok (.putfield 76, 3) := by decide +kernel
theorem dX6_reset_20 : decode cX6_reset 20 = .ok (.aload_n 0, 1) := by decide +kernel
theorem dX6_reset_21 : decode cX6_reset 21 = .ok (.iconst 0, 1) := by decide +kernel
theorem dX6_reset_22 : decode cX6_reset 22 = .ok (.putfield 79, 3) := by decide +kernel
theorem dX6_reset_25 : decode cX6_reset 25 = .ok (.aload_n 0, 1) := by decide +kernel
theorem dX6_reset_26 : decode cX6_reset 26 = .ok (.iconst 0, 1) := by decide +kernel
theorem dX6_reset_27 : decode cX6_reset 27 = .ok (.putfield 82, 3) := by decide +kernel
theorem dX6_reset_30 : decode cX6_reset 30 = .ok (.aload_n 0, 1) := by decide +kernel
theorem dX6_reset_31 : decode cX6_reset 31 = .ok (.iconst 0, 1) := by decide +kernel
theorem dX6_reset_32 : decode cX6_reset 32 = .ok (.putfield 85, 3) := by decide +kernel
theorem dX6_reset_35 : decode cX6_reset 35 = .ok (.aload_n 0, 1) := by decide +kernel
theorem dX6_reset_36 : decode cX6_reset 36 = .ok (.iconst 0, 1) := by decide +kernel
theorem dX6_reset_37 : decode cX6_reset 37 = .ok (.putfield 88, 3) := by decide +kernel
theorem dX6_reset_40 : decode cX6_reset 40 = .ok (.aload_n 0, 1) := by decide +kernel
theorem dX6_reset_41 : decode cX6_reset 41 = .ok (.iconst 0, 1) := by decide +kernel
theorem dX6_reset_42 : decode cX6_reset 42 = .ok (.putfield 91, 3) := by decide +kernel
theorem dX6_reset_45 : decode cX6_reset 45 = .ok (.return_, 1) := by decide +kernel
theorem cc_X6_reset : Cond.code yX6_reset cX6_reset 2 none ∈ rf_tb := rf_at 1049 (by decide +kernel) (by decide +kernel)
theorem cw_RX6_69 : cl_wV RX6 RX2 yX2_reset cX2_reset 2 none 69 1 := ⟨⟨rf_at 1050 (by decide +kernel) (by decide +kernel), rf_at 1051 (by decide +kernel) (by decide +kernel), rf_at 1052 (by decide +kernel) (by decide +kernel), cc_X2_reset, rf_at 16 (by decide +kernel) (by decide +kernel)⟩, ⟨by decide, by decide, by decide +kernel⟩⟩
theorem cw_RX6_73 : cl_wV RX6 RX8 yX8_clear cX8_clear 1 none 73 0 := ⟨⟨rf_at 1055 (by decide +kernel) (by decide +kernel), rf_at 1056 (by decide +kernel) (by decide +kernel), rf_at 1057 (by decide +kernel) (by decide +kernel), cc_X8_clear, rf_at 11 (by decide +kernel) (by decide +kernel)⟩, ⟨by decide, by decide, by decide +kernel⟩⟩
noncomputable def bc_X6_reset_0 (a : Nat) (x1 : Int32) (σ : cl_S) : Option (cl_S) := bd1 (fc_X2_reset (a + 1) x1 σ) (fun σ_2 => bd1 (fc_X8_clear (a + 9) σ_2) (fun σ_8 => vl (cl_w σ_8 a 6 (0:Int32)) (fun σ_13 => vl (cl_w σ_13 a 8 (0:Int32)) (fun σ_17 => vl (cl_w σ_17 a 10 (0:Int32)) (fun σ_21 => vl (cl_w σ_21 a 12 (0:Int32)) (fun σ_25 => vl (cl_w σ_25 a 13 (0:Int32)) (fun σ_29 => vl (cl_w σ_29 a 14 (0:Int32)) (fun σ_33 => some σ_33))))))))
set_option maxHeartbeats 4000000 in
theorem wc_X6_reset_0 (C : cl_C D p s m args meth c cX6_reset 2 none RX6) {a : Nat} {x1 : Int32} {σ0 σ σ' : cl_S} {T : Nat → Nat × Nat} {H : Heap} {locs : List Loc} {ls : Array Slot} {cells slots : Nat} (h : bc_X6_reset_0 a x1 σ = some σ') (G : cl_G true D c0 ({ frames := 2, cells := σ0.2.2.2.2.2.1, slots := σ0.2.2.2.2.2.2, locals := 44 }) s σ0.2.2.2.1 T σ H locs cells slots) (ha : (T a).1 = 22) (hl : lv_has ls 2 [(0, .ref (c0 + a)), (1, .int x1)]) : W p l e ({ frames := 2, cells := σ0.2.2.2.2.2.1, slots := σ0.2.2.2.2.2.2, locals := 44 }) s m args below meth c H locs cells slots (MQ below (cl_Q true D c0 none cl_no σ0 σ') args s (σ0.2.2.2.2.2.1 - σ'.2.2.2.2.2.1) (σ0.2.2.2.2.2.2 - σ'.2.2.2.2.2.2) (cl_A c0 σ0.2.2.2.1 s.heap.size)) (F0 m 0 ls []) := by
  unfold bc_X6_reset_0 at h
  refine lv_aload_n C.1 C.2.1 dX6_reset_0 rfl (lv_at hl 0 rfl) ?_
  refine cg_6_12 C G ha dX6_reset_1 (fun t_1 => ?_)
  have t_1 : (T (a + 1)).1 = 18 := by rw [t_1]
  refine lv_iload_n C.1 C.2.1 dX6_reset_4 rfl (lv_at hl 1 rfl) ?_
  obtain ⟨σ_2, hq, h_3⟩ := bd1_some h
  refine cl_callV (ci := 2) (rest := []) C G rfl t_1 cw_RX6_69 [.int x1] _ (kc_X2_reset l D c0 (by rw [G.1]; exact t_1) hq) (Nat.le_of_ble_eq_true rfl) (Nat.le_of_ble_eq_true rfl) rfl rfl hl.1 (Nat.le_of_ble_eq_true rfl) dX6_reset_5 (fun T_4 H locs cells slots t_5 hu G_6 => ?_)
  have ha := hu.kind ha (by decide)
  refine W.eq (g2 := F0 m 8 ls []) rfl ?_
  refine lv_aload_n C.1 C.2.1 dX6_reset_8 rfl (lv_at hl 0 rfl) ?_
  refine cg_6_50 C G_6 ha dX6_reset_9 (fun t_7 => ?_)
  have t_7 : (T_4 (a + 9)).1 = 24 := by rw [t_7]
  obtain ⟨σ_8, hq, h_9⟩ := bd1_some h_3
  refine cl_callV (ci := 8) (rest := []) C G_6 rfl t_7 cw_RX6_73 [] _ (kc_X8_clear l D c0 (by rw [G_6.1]; exact t_7) hq) (Nat.le_of_ble_eq_true rfl) (Nat.le_of_ble_eq_true rfl) rfl rfl hl.1 (Nat.le_of_ble_eq_true rfl) dX6_reset_12 (fun T_10 H locs cells slots t_11 hu G_12 => ?_)
  have ha := hu.kind ha (by decide)
  refine W.eq (g2 := F0 m 15 ls []) rfl ?_
  refine lv_aload_n C.1 C.2.1 dX6_reset_15 rfl (lv_at hl 0 rfl) ?_
  refine lv_iconst (v := (0:Int32)) C.1 C.2.1 dX6_reset_16 (by decide) ?_
  refine cp_6_76 C G_12 ha dX6_reset_17 (fun H locs G_14 => ?_)
  refine cl_nm G_14 h_9 (fun σ_13 G_15 h_16 => ?_)
  refine lv_aload_n C.1 C.2.1 dX6_reset_20 rfl (lv_at hl 0 rfl) ?_
  refine lv_iconst (v := (0:Int32)) C.1 C.2.1 dX6_reset_21 (by decide) ?_
  refine cp_6_79 C G_15 ha dX6_reset_22 (fun H locs G_18 => ?_)
  refine cl_nm G_18 h_16 (fun σ_17 G_19 h_20 => ?_)
  refine lv_aload_n C.1 C.2.1 dX6_reset_25 rfl (lv_at hl 0 rfl) ?_
  refine lv_iconst (v := (0:Int32)) C.1 C.2.1 dX6_reset_26 (by decide) ?_
  refine cp_6_82 C G_19 ha dX6_reset_27 (fun H locs G_22 => ?_)
  refine cl_nm G_22 h_20 (fun σ_21 G_23 h_24 => ?_)
  refine lv_aload_n C.1 C.2.1 dX6_reset_30 rfl (lv_at hl 0 rfl) ?_
  refine lv_iconst (v := (0:Int32)) C.1 C.2.1 dX6_reset_31 (by decide) ?_
  refine cp_6_85 C G_23 ha dX6_reset_32 (fun H locs G_26 => ?_)
  refine cl_nm G_26 h_24 (fun σ_25 G_27 h_28 => ?_)
  refine lv_aload_n C.1 C.2.1 dX6_reset_35 rfl (lv_at hl 0 rfl) ?_
  refine lv_iconst (v := (0:Int32)) C.1 C.2.1 dX6_reset_36 (by decide) ?_
  refine cp_6_88 C G_27 ha dX6_reset_37 (fun H locs G_30 => ?_)
  refine cl_nm G_30 h_28 (fun σ_29 G_31 h_32 => ?_)
  refine lv_aload_n C.1 C.2.1 dX6_reset_40 rfl (lv_at hl 0 rfl) ?_
  refine lv_iconst (v := (0:Int32)) C.1 C.2.1 dX6_reset_41 (by decide) ?_
  refine cp_6_91 C G_31 ha dX6_reset_42 (fun H locs G_34 => ?_)
  refine cl_nm G_34 h_32 (fun σ_33 G_35 h_36 => ?_)
  exact cl_vret ⟨rfl, rfl⟩ rfl C G_35 h_36 dX6_reset_45
noncomputable def fc_X6_reset (a : Nat) (x1 : Int32) (σ : cl_S) : Option (cl_S) := bc_X6_reset_0 a x1 σ
theorem kc_X6_reset (l : Launch) (D : cl_D) (c0 : Nat) {a : Nat} {x1 : Int32} {σ σ' : cl_S} (ha : (σ.2.2.2.1 a).1 = 22) (h : fc_X6_reset a x1 σ = some σ') : cl_Met true l D c0 yX6_reset cX6_reset 2 none 2 44 [.ref (c0 + a), .int x1] σ none cl_no σ' :=
  cl_of (by decide) (Nat.le_of_ble_eq_true rfl) (fun p e s m args below meth c ls C hn G hl => wc_X6_reset_0 C h G ha hl)
abbrev cX5_begin : ByteArray := prog_7_method_2_code
def yX5_begin : MethodName := ⟨RX5, "begin", "(LPartHouse$Config;)V"⟩
theorem dX5_begin_0 : decode cX5_begin 0 = .ok (.aload_n 0, 1) := by decide +kernel
theorem dX5_begin_1 : decode cX5_begin 1 = .ok (.aload_n 1, 1) := by decide +kernel
theorem dX5_begin_2 : decode cX5_begin 2 = .ok (.putfield 12, 3) := by decide +kernel
theorem dX5_begin_5 : decode cX5_begin 5 = .ok (.iconst 0, 1) := by decide +kernel
theorem dX5_begin_6 : decode cX5_begin 6 = .ok (.istore_n 2, 1) := by decide +kernel
theorem dX5_begin_7 : decode cX5_begin 7 = .ok (.iload_n 2, 1) := by decide +kernel
theorem dX5_begin_8 : decode cX5_begin 8 = .ok (.aload_n 0, 1) := by decide +kernel
theorem dX5_begin_9 : decode cX5_begin 9 = .ok (.getfield 12, 3) := by decide +kernel
theorem dX5_begin_12 : decode cX5_begin 12 = .ok (.getfield 66, 3) := by decide +kernel
theorem dX5_begin_15 : decode cX5_begin 15 = .ok (.if_icmp .ge 27, 3) := by decide +kernel
theorem dX5_begin_18 : decode cX5_begin 18 = .ok (.aload_n 0, 1) := by decide +kernel
theorem dX5_begin_19 : decode cX5_begin 19 = .ok (.getfield 20, 3) := by decide +kernel
theorem dX5_begin_22 : decode cX5_begin 22 = .ok (.iload_n 2, 1) := by decide +kernel
theorem dX5_begin_23 : decode cX5_begin 23 = .ok (.aaload, 1) := by decide +kernel
theorem dX5_begin_24 : decode cX5_begin 24 = .ok (.aload_n 0, 1) := by decide +kernel
theorem dX5_begin_25 : decode cX5_begin 25 = .ok (.getfield 12, 3) := by decide +kernel
theorem dX5_begin_28 : decode cX5_begin 28 = .ok (.getfield 70, 3) := by decide +kernel
theorem dX5_begin_31 : decode cX5_begin 31 = .ok (.iload_n 2, 1) := by decide +kernel
theorem dX5_begin_32 : decode cX5_begin 32 = .ok (.iaload, 1) := by decide +kernel
theorem dX5_begin_33 : decode cX5_begin 33 = .ok (.invokevirtual 73, 3) := by decide +kernel
theorem dX5_begin_36 : decode cX5_begin 36 = .ok (.iinc 2 1, 3) := by decide +kernel
theorem dX5_begin_39 : decode cX5_begin 39 = .ok (.goto (-32), 3) := by decide +kernel
theorem dX5_begin_42 : decode cX5_begin 42 = .ok (.iconst 0, 1) := by decide +kernel
theorem dX5_begin_43 : decode cX5_begin 43 = .ok (.istore_n 2, 1) := by decide +kernel
theorem dX5_begin_44 : decode cX5_begin 44 = .ok (.iload_n 2, 1) := by decide +kernel
theorem dX5_begin_45 : decode cX5_begin 45 = .ok (.bipush 16, 2) := by decide +kernel
theorem dX5_begin_47 : decode cX5_begin 47 = .ok (.if_icmp .ge 39, 3) := by decide +kernel
theorem dX5_begin_50 : decode cX5_begin 50 = .ok (.aload_n 0, 1) := by decide +kernel
theorem dX5_begin_51 : decode cX5_begin 51 = .ok (.getfield 26, 3) := by decide +kernel
theorem dX5_begin_54 : decode cX5_begin 54 = .ok (.iload_n 2, 1) := by decide +kernel
theorem dX5_begin_55 : decode cX5_begin 55 = .ok (.aaload, 1) := by decide +kernel
theorem dX5_begin_56 : decode cX5_begin 56 = .ok (.iconst 0, 1) := by decide +kernel
theorem dX5_begin_57 : decode cX5_begin 57 = .ok (.invokestatic 77, 3) := by decide +kernel
theorem dX5_begin_60 : decode cX5_begin 60 = .ok (.aload_n 0, 1) := by decide +kernel
theorem dX5_begin_61 : decode cX5_begin 61 = .ok (.getfield 29, 3) := by decide +kernel
theorem dX5_begin_64 : decode cX5_begin 64 = .ok (.iload_n 2, 1) := by decide +kernel
theorem dX5_begin_65 : decode cX5_begin 65 = .ok (.iconst 0, 1) := by decide +kernel
theorem dX5_begin_66 : decode cX5_begin 66 = .ok (.iastore, 1) := by decide +kernel
theorem dX5_begin_67 : decode cX5_begin 67 = .ok (.aload_n 0, 1) := by decide +kernel
theorem dX5_begin_68 : decode cX5_begin 68 = .ok (.getfield 35, 3) := by decide +kernel
theorem dX5_begin_71 : decode cX5_begin 71 = .ok (.iload_n 2, 1) := by decide +kernel
theorem dX5_begin_72 : decode cX5_begin 72 = .ok (.aload_n 0, 1) := by decide +kernel
theorem dX5_begin_73 : decode cX5_begin 73 = .ok (.getfield 51, 3) := by decide +kernel
theorem dX5_begin_76 : decode cX5_begin 76 = .ok (.getfield 83, 3) := by decide +kernel
theorem dX5_begin_79 : decode cX5_begin 79 = .ok (.aastore, 1) := by decide +kernel
theorem dX5_begin_80 : decode cX5_begin 80 = .ok (.iinc 2 1, 3) := by decide +kernel
theorem dX5_begin_83 : decode cX5_begin 83 = .ok (.goto (-39), 3) := by decide +kernel
theorem dX5_begin_86 : decode cX5_begin 86 = .ok (.aload_n 0, 1) := by decide +kernel
theorem dX5_begin_87 : decode cX5_begin 87 = .ok (.iconst 0, 1) := by decide +kernel
theorem dX5_begin_88 : decode cX5_begin 88 = .ok (.putfield 89, 3) := by decide +kernel
theorem dX5_begin_91 : decode cX5_begin 91 = .ok (.aload_n 0, 1) := by decide +kernel
theorem dX5_begin_92 : decode cX5_begin 92 = .ok (.iconst 0, 1) := by decide +kernel
theorem dX5_begin_93 : decode cX5_begin 93 = .ok (.putfield 92, 3) := by decide +kernel
theorem dX5_begin_96 : decode cX5_begin 96 = .ok (.aload_n 0, 1) := by decide +kernel
theorem dX5_begin_97 : decode cX5_begin 97 = .ok (.iconst 0, 1) := by decide +kernel
theorem dX5_begin_98 : decode cX5_begin 98 = .ok (.putfield 95, 3) := by decide +kernel
theorem dX5_begin_101 : decode cX5_begin 101 = .ok (.aload_n 0, 1) := by decide +kernel
theorem dX5_begin_102 : decode cX5_begin 102 = .ok (.iconst 0, 1) := by decide +kernel
theorem dX5_begin_103 : decode cX5_begin 103 = .ok (.putfield 98, 3) := by decide +kernel
theorem dX5_begin_106 : decode cX5_begin 106 = .ok (.aload_n 0, 1) := by decide +kernel
theorem dX5_begin_107 : decode cX5_begin 107 = .ok (.iconst 0, 1) := by decide +kernel
theorem dX5_begin_108 : decode cX5_begin 108 = .ok (.putfield 101, 3) := by decide +kernel
theorem dX5_begin_111 : decode cX5_begin 111 = .ok (.aload_n 0, 1) := by decide +kernel
theorem dX5_begin_112 : decode cX5_begin 112 = .ok (.iconst 0, 1) := by decide +kernel
theorem dX5_begin_113 : decode cX5_begin 113 = .ok (.putfield 104, 3) := by decide +kernel
theorem dX5_begin_116 : decode cX5_begin 116 = .ok (.return_, 1) := by decide +kernel
theorem cc_X5_begin : Cond.code yX5_begin cX5_begin 3 none ∈ rf_tb := rf_at 1045 (by decide +kernel) (by decide +kernel)
theorem cw_RX5_73 : cl_wV RX5 RX6 yX6_reset cX6_reset 2 none 73 1 := ⟨⟨rf_at 1046 (by decide +kernel) (by decide +kernel), rf_at 1047 (by decide +kernel) (by decide +kernel), rf_at 1048 (by decide +kernel) (by decide +kernel), cc_X6_reset, rf_at 15 (by decide +kernel) (by decide +kernel)⟩, ⟨by decide, by decide, by decide +kernel⟩⟩
theorem cw_RX5_77 : cl_wS RX5 yJ7_fill_53178 cJ7_fill_53178 4 none 77 2 := ⟨⟨rf_at 1060 (by decide +kernel) (by decide +kernel), rf_at 976 (by decide +kernel) (by decide +kernel), cc_J7_fill_53178, rf_at 18 (by decide +kernel) (by decide +kernel)⟩, ⟨by decide, by decide, by decide +kernel⟩⟩
noncomputable def lc_X5_begin_7 (a : Nat) (x2 : Int32) (σ : cl_S) : Option ((Int32 × cl_S) ⊕ (Int32 × cl_S)) := vl (σ.2.2.1 a 3) (fun r_7 => nn r_7 (fun a_10 => (if (σ.1 a_10 0) ≤ x2 then some (.inr (x2, σ)) else ix x2 8 (vl (σ.2.2.1 (a + 12 + cl_md a) x2.toNatClampNeg) (fun r_16 => vl (σ.2.2.1 a 3) (fun r_20 => nn r_20 (fun a_23 => ix x2 8 (nn r_16 (fun a_28 => bd1 (fc_X6_reset a_28 (σ.1 (a_23 + 2) x2.toNatClampNeg) σ) (fun σ_31 => vl (x2 + (1:Int32)) (fun x2_36 => some (.inl (x2_36, σ_31)))))))))))))
noncomputable def lc_X5_begin_44 (a : Nat) (x2 : Int32) (σ : cl_S) : Option ((Int32 × cl_S) ⊕ (Int32 × cl_S)) := (if (16:Int32) ≤ x2 then some (.inr (x2, σ)) else ix x2 16 (vl (σ.2.2.1 (a + 13 + cl_md a) x2.toNatClampNeg) (fun r_43 => bd1 (fc_J7_fill_53178 r_43 (0:Int32) σ) (fun σ_46 => ix x2 16 (vl (cl_w σ_46 (a + 30 + cl_md a) x2.toNatClampNeg (0:Int32)) (fun σ_52 => ix x2 16 (vl (cl_wr σ_52 (a + 31 + cl_md a) x2.toNatClampNeg (some 33)) (fun σ_60 => vl (x2 + (1:Int32)) (fun x2_65 => some (.inl (x2_65, σ_60)))))))))))
noncomputable def ec_X5_begin_44 (a : Nat) (x2 : Int32) (σ : cl_S) : Option (cl_S) := vl (cl_w σ a 9 (0:Int32)) (fun σ_68 => vl (cl_w σ_68 a 10 (0:Int32)) (fun σ_72 => vl (cl_w σ_72 a 11 (0:Int32)) (fun σ_76 => vl (cl_w σ_76 a 12 (0:Int32)) (fun σ_80 => vl (cl_w σ_80 a 13 (0:Int32)) (fun σ_84 => vl (cl_w σ_84 a 15 (0:Int32)) (fun σ_88 => some σ_88))))))
noncomputable def bc_X5_begin_44 (a : Nat) (x2 : Int32) (σ : cl_S) : Option (cl_S) := (lp (fun z : (Int32 × cl_S) => lc_X5_begin_44 a z.1 z.2) (x2, σ)).bind (fun z => ec_X5_begin_44 a z.1 z.2)
set_option maxHeartbeats 4000000 in
theorem wc_X5_begin_44 (C : cl_C D p s m args meth c cX5_begin 3 none RX5) {a : Nat} {x2 : Int32} {σ0 σ σ' : cl_S} {T : Nat → Nat × Nat} {H : Heap} {locs : List Loc} {ls : Array Slot} {cells slots : Nat} (h : bc_X5_begin_44 a x2 σ = some σ') (G : cl_G true D c0 ({ frames := 3, cells := σ0.2.2.2.2.2.1, slots := σ0.2.2.2.2.2.2, locals := 65 }) s σ0.2.2.2.1 T σ H locs cells slots) (ha : (T a).1 = 21) (hl : lv_has ls 3 [(0, .ref (c0 + a)), (2, .int x2)]) : W p l e ({ frames := 3, cells := σ0.2.2.2.2.2.1, slots := σ0.2.2.2.2.2.2, locals := 65 }) s m args below meth c H locs cells slots (MQ below (cl_Q true D c0 none cl_no σ0 σ') args s (σ0.2.2.2.2.2.1 - σ'.2.2.2.2.2.1) (σ0.2.2.2.2.2.2 - σ'.2.2.2.2.2.2) (cl_A c0 σ0.2.2.2.1 s.heap.size)) (F0 m 44 ls []) := by
  unfold bc_X5_begin_44 at h
  obtain ⟨y, hy, h⟩ := bd_some h
  have hE : (fun z : (Int32 × cl_S) => ∀ (T : Nat → Nat × Nat) (H : Heap) (locs : List Loc) (ls : Array Slot) (cells slots : Nat), cl_G true D c0 ({ frames := 3, cells := σ0.2.2.2.2.2.1, slots := σ0.2.2.2.2.2.2, locals := 65 }) s σ0.2.2.2.1 T z.2 H locs cells slots → (T a).1 = 21 → lv_has ls 3 [(0, .ref (c0 + a)), (2, .int (z.1))] → W p l e ({ frames := 3, cells := σ0.2.2.2.2.2.1, slots := σ0.2.2.2.2.2.2, locals := 65 }) s m args below meth c H locs cells slots (MQ below (cl_Q true D c0 none cl_no σ0 σ') args s (σ0.2.2.2.2.2.1 - σ'.2.2.2.2.2.1) (σ0.2.2.2.2.2.2 - σ'.2.2.2.2.2.2) (cl_A c0 σ0.2.2.2.1 s.heap.size)) (F0 m 86 ls [])) y := by
    clear hy G ha hl
    intro T H locs ls cells slots G ha hl
    obtain ⟨x2, σ⟩ := y
    dsimp only at h G ha hl
    unfold ec_X5_begin_44 at h
    refine lv_aload_n C.1 C.2.1 dX5_begin_86 rfl (lv_at hl 0 rfl) ?_
    refine lv_iconst (v := (0:Int32)) C.1 C.2.1 dX5_begin_87 (by decide) ?_
    refine cp_5_89 C G ha dX5_begin_88 (fun H locs G_69 => ?_)
    refine cl_nm G_69 h (fun σ_68 G_70 h_71 => ?_)
    refine lv_aload_n C.1 C.2.1 dX5_begin_91 rfl (lv_at hl 0 rfl) ?_
    refine lv_iconst (v := (0:Int32)) C.1 C.2.1 dX5_begin_92 (by decide) ?_
    refine cp_5_92 C G_70 ha dX5_begin_93 (fun H locs G_73 => ?_)
    refine cl_nm G_73 h_71 (fun σ_72 G_74 h_75 => ?_)
    refine lv_aload_n C.1 C.2.1 dX5_begin_96 rfl (lv_at hl 0 rfl) ?_
    refine lv_iconst (v := (0:Int32)) C.1 C.2.1 dX5_begin_97 (by decide) ?_
    refine cp_5_95 C G_74 ha dX5_begin_98 (fun H locs G_77 => ?_)
    refine cl_nm G_77 h_75 (fun σ_76 G_78 h_79 => ?_)
    refine lv_aload_n C.1 C.2.1 dX5_begin_101 rfl (lv_at hl 0 rfl) ?_
    refine lv_iconst (v := (0:Int32)) C.1 C.2.1 dX5_begin_102 (by decide) ?_
    refine cp_5_98 C G_78 ha rfl rfl dX5_begin_103 (fun H locs G_81 => ?_)
    refine cl_nm G_81 h_79 (fun σ_80 G_82 h_83 => ?_)
    refine lv_aload_n C.1 C.2.1 dX5_begin_106 rfl (lv_at hl 0 rfl) ?_
    refine lv_iconst (v := (0:Int32)) C.1 C.2.1 dX5_begin_107 (by decide) ?_
    refine cp_5_101 C G_82 ha dX5_begin_108 (fun H locs G_85 => ?_)
    refine cl_nm G_85 h_83 (fun σ_84 G_86 h_87 => ?_)
    refine lv_aload_n C.1 C.2.1 dX5_begin_111 rfl (lv_at hl 0 rfl) ?_
    refine lv_iconst (v := (0:Int32)) C.1 C.2.1 dX5_begin_112 (by decide) ?_
    refine cp_5_104 C G_86 ha dX5_begin_113 (fun H locs G_89 => ?_)
    refine cl_nm G_89 h_87 (fun σ_88 G_90 h_91 => ?_)
    exact cl_vret ⟨rfl, rfl⟩ rfl C G_90 h_91 dX5_begin_116
  refine lp_recE (fun z : (Int32 × cl_S) => ∀ (T : Nat → Nat × Nat) (H : Heap) (locs : List Loc) (ls : Array Slot) (cells slots : Nat), cl_G true D c0 ({ frames := 3, cells := σ0.2.2.2.2.2.1, slots := σ0.2.2.2.2.2.2, locals := 65 }) s σ0.2.2.2.1 T z.2 H locs cells slots → (T a).1 = 21 → lv_has ls 3 [(0, .ref (c0 + a)), (2, .int (z.1))] → W p l e ({ frames := 3, cells := σ0.2.2.2.2.2.1, slots := σ0.2.2.2.2.2.2, locals := 65 }) s m args below meth c H locs cells slots (MQ below (cl_Q true D c0 none cl_no σ0 σ') args s (σ0.2.2.2.2.2.1 - σ'.2.2.2.2.2.1) (σ0.2.2.2.2.2.2 - σ'.2.2.2.2.2.2) (cl_A c0 σ0.2.2.2.1 s.heap.size)) (F0 m 44 ls [])) (fun z : (Int32 × cl_S) => ∀ (T : Nat → Nat × Nat) (H : Heap) (locs : List Loc) (ls : Array Slot) (cells slots : Nat), cl_G true D c0 ({ frames := 3, cells := σ0.2.2.2.2.2.1, slots := σ0.2.2.2.2.2.2, locals := 65 }) s σ0.2.2.2.1 T z.2 H locs cells slots → (T a).1 = 21 → lv_has ls 3 [(0, .ref (c0 + a)), (2, .int (z.1))] → W p l e ({ frames := 3, cells := σ0.2.2.2.2.2.1, slots := σ0.2.2.2.2.2.2, locals := 65 }) s m args below meth c H locs cells slots (MQ below (cl_Q true D c0 none cl_no σ0 σ') args s (σ0.2.2.2.2.2.1 - σ'.2.2.2.2.2.1) (σ0.2.2.2.2.2.2 - σ'.2.2.2.2.2.2) (cl_A c0 σ0.2.2.2.1 s.heap.size)) (F0 m 86 ls [])) ?_ _ _ hy hE _ _ _ _ _ _ G ha hl
  clear hE hy G ha hl h
  intro z o h hP T H locs ls cells slots G ha hl
  obtain ⟨x2, σ⟩ := z
  dsimp only at h G ha hl
  unfold lc_X5_begin_44 at h
  refine lv_iload_n C.1 C.2.1 dX5_begin_44 rfl (lv_at hl 1 rfl) ?_
  refine lv_bipush (v := (16:Int32)) C.1 C.2.1 dX5_begin_45 (by decide) ?_
  refine lv_icmp_ge (tgt := 86) C.1 C.2.1 dX5_begin_47 (by decide) (fun hc => ?_) (fun hc => ?_)
  · rw [if_pos hc] at h
    cases h
    exact hP _ _ _ _ _ _ G ha (lv_sub hl [0, 1] rfl)
  · rw [if_neg hc] at h
    refine lv_aload_n C.1 C.2.1 dX5_begin_50 rfl (lv_at hl 0 rfl) ?_
    refine cg_5_26 C G ha dX5_begin_51 (fun t_40 => ?_)
    refine lv_iload_n C.1 C.2.1 dX5_begin_54 rfl (lv_at hl 1 rfl) ?_
    obtain ⟨hi, h_41⟩ := ix_some h
    refine cl_aald C G t_40 (by decide) (by decide) rfl hi dX5_begin_55 (fun t_42 => ?_)
    refine vt_r (K := 1) t_42 h_41 (fun r_43 t_44 h_45 => ?_)
    refine lv_iconst (v := (0:Int32)) C.1 C.2.1 dX5_begin_56 (by decide) ?_
    obtain ⟨σ_46, hq, h_47⟩ := bd1_some h_45
    refine cl_callS (rest := []) C G cw_RX5_77 [cl_rf c0 r_43, .int (0:Int32)] _ (kc_J7_fill_53178 l D c0 hq (by rw [G.1]; exact t_44)) (Nat.le_of_ble_eq_true rfl) (Nat.le_of_ble_eq_true rfl) rfl rfl hl.1 (Nat.le_of_ble_eq_true rfl) dX5_begin_57 (fun T_48 H locs cells slots t_49 hu G_50 => ?_)
    have ha := hu.kind ha (by decide)
    refine W.eq (g2 := F0 m 60 ls []) rfl ?_
    refine lv_aload_n C.1 C.2.1 dX5_begin_60 rfl (lv_at hl 0 rfl) ?_
    refine cg_5_29 C G_50 ha dX5_begin_61 (fun t_51 => ?_)
    refine lv_iload_n C.1 C.2.1 dX5_begin_64 rfl (lv_at hl 1 rfl) ?_
    refine lv_iconst (v := (0:Int32)) C.1 C.2.1 dX5_begin_65 (by decide) ?_
    obtain ⟨hi, h_53⟩ := ix_some h_47
    refine cl_iast C G_50 t_51 hi dX5_begin_66 (fun H locs G_54 => ?_)
    refine cl_nm G_54 h_53 (fun σ_52 G_55 h_56 => ?_)
    refine lv_aload_n C.1 C.2.1 dX5_begin_67 rfl (lv_at hl 0 rfl) ?_
    refine cg_5_35 C G_55 ha dX5_begin_68 (fun t_57 => ?_)
    refine lv_iload_n C.1 C.2.1 dX5_begin_71 rfl (lv_at hl 1 rfl) ?_
    refine lv_aload_n C.1 C.2.1 dX5_begin_72 rfl (lv_at hl 0 rfl) ?_
    refine cg_5_51 C G_55 ha dX5_begin_73 (fun t_58 => ?_)
    have t_58 : (T_48 31).1 = 26 := by rw [t_58]
    refine cg_5_83 C G_55 t_58 dX5_begin_76 (fun t_59 => ?_)
    have t_59 : (T_48 33).1 = 25 := by rw [t_59]
    obtain ⟨hi, h_61⟩ := ix_some h_56
    refine cl_aast (ci := 9) (x := (some 33)) C G_55 rfl rfl rfl t_57 (by decide) (by decide) (cl_RTs t_59) hi dX5_begin_79 (fun H locs G_62 => ?_)
    refine cl_nm G_62 h_61 (fun σ_60 G_63 h_64 => ?_)
    refine vl_ex h_64 (fun x2_65 ey h_66 => ?_)
    refine lv_iinc (v := x2_65) (lv' := [(2, .int x2_65), (0, .ref (c0 + a))]) C.1 C.2.1 dX5_begin_80 hl (k := 1) rfl (by rw [ey]; rfl) (by decide) rfl (fun ls hl_67 => ?_)
    refine lv_goto (tgt := 44) C.1 C.2.1 dX5_begin_83 (by decide) ?_
    cases h_66
    exact hP _ _ _ _ _ _ G_63 ha (lv_sub hl_67 [1, 0] rfl)
noncomputable def ec_X5_begin_7 (a : Nat) (x2 : Int32) (σ : cl_S) : Option (cl_S) := bc_X5_begin_44 a (0:Int32) σ
noncomputable def bc_X5_begin_7 (a : Nat) (x2 : Int32) (σ : cl_S) : Option (cl_S) := (lp (fun z : (Int32 × cl_S) => lc_X5_begin_7 a z.1 z.2) (x2, σ)).bind (fun z => ec_X5_begin_7 a z.1 z.2)
set_option maxHeartbeats 4000000 in
theorem wc_X5_begin_7 (C : cl_C D p s m args meth c cX5_begin 3 none RX5) {a : Nat} {x2 : Int32} {σ0 σ σ' : cl_S} {T : Nat → Nat × Nat} {H : Heap} {locs : List Loc} {ls : Array Slot} {cells slots : Nat} (h : bc_X5_begin_7 a x2 σ = some σ') (G : cl_G true D c0 ({ frames := 3, cells := σ0.2.2.2.2.2.1, slots := σ0.2.2.2.2.2.2, locals := 65 }) s σ0.2.2.2.1 T σ H locs cells slots) (ha : (T a).1 = 21) (hl : lv_has ls 3 [(0, .ref (c0 + a)), (2, .int x2)]) : W p l e ({ frames := 3, cells := σ0.2.2.2.2.2.1, slots := σ0.2.2.2.2.2.2, locals := 65 }) s m args below meth c H locs cells slots (MQ below (cl_Q true D c0 none cl_no σ0 σ') args s (σ0.2.2.2.2.2.1 - σ'.2.2.2.2.2.1) (σ0.2.2.2.2.2.2 - σ'.2.2.2.2.2.2) (cl_A c0 σ0.2.2.2.1 s.heap.size)) (F0 m 7 ls []) := by
  unfold bc_X5_begin_7 at h
  obtain ⟨y, hy, h⟩ := bd_some h
  have hE : (fun z : (Int32 × cl_S) => ∀ (T : Nat → Nat × Nat) (H : Heap) (locs : List Loc) (ls : Array Slot) (cells slots : Nat), cl_G true D c0 ({ frames := 3, cells := σ0.2.2.2.2.2.1, slots := σ0.2.2.2.2.2.2, locals := 65 }) s σ0.2.2.2.1 T z.2 H locs cells slots → (T a).1 = 21 → lv_has ls 3 [(0, .ref (c0 + a)), (2, .int (z.1))] → W p l e ({ frames := 3, cells := σ0.2.2.2.2.2.1, slots := σ0.2.2.2.2.2.2, locals := 65 }) s m args below meth c H locs cells slots (MQ below (cl_Q true D c0 none cl_no σ0 σ') args s (σ0.2.2.2.2.2.1 - σ'.2.2.2.2.2.1) (σ0.2.2.2.2.2.2 - σ'.2.2.2.2.2.2) (cl_A c0 σ0.2.2.2.1 s.heap.size)) (F0 m 42 ls [])) y := by
    clear hy G ha hl
    intro T H locs ls cells slots G ha hl
    obtain ⟨x2, σ⟩ := y
    dsimp only at h G ha hl
    unfold ec_X5_begin_7 at h
    refine lv_iconst (v := (0:Int32)) C.1 C.2.1 dX5_begin_42 (by decide) ?_
    refine lv_istore_n (lv' := [(2, .int (0:Int32)), (0, .ref (c0 + a))]) C.1 C.2.1 dX5_begin_43 rfl hl (by decide) rfl (fun ls hl_39 => ?_)
    exact wc_X5_begin_44 C h G ha (lv_sub hl_39 [1, 0] rfl)
  refine lp_recE (fun z : (Int32 × cl_S) => ∀ (T : Nat → Nat × Nat) (H : Heap) (locs : List Loc) (ls : Array Slot) (cells slots : Nat), cl_G true D c0 ({ frames := 3, cells := σ0.2.2.2.2.2.1, slots := σ0.2.2.2.2.2.2, locals := 65 }) s σ0.2.2.2.1 T z.2 H locs cells slots → (T a).1 = 21 → lv_has ls 3 [(0, .ref (c0 + a)), (2, .int (z.1))] → W p l e ({ frames := 3, cells := σ0.2.2.2.2.2.1, slots := σ0.2.2.2.2.2.2, locals := 65 }) s m args below meth c H locs cells slots (MQ below (cl_Q true D c0 none cl_no σ0 σ') args s (σ0.2.2.2.2.2.1 - σ'.2.2.2.2.2.1) (σ0.2.2.2.2.2.2 - σ'.2.2.2.2.2.2) (cl_A c0 σ0.2.2.2.1 s.heap.size)) (F0 m 7 ls [])) (fun z : (Int32 × cl_S) => ∀ (T : Nat → Nat × Nat) (H : Heap) (locs : List Loc) (ls : Array Slot) (cells slots : Nat), cl_G true D c0 ({ frames := 3, cells := σ0.2.2.2.2.2.1, slots := σ0.2.2.2.2.2.2, locals := 65 }) s σ0.2.2.2.1 T z.2 H locs cells slots → (T a).1 = 21 → lv_has ls 3 [(0, .ref (c0 + a)), (2, .int (z.1))] → W p l e ({ frames := 3, cells := σ0.2.2.2.2.2.1, slots := σ0.2.2.2.2.2.2, locals := 65 }) s m args below meth c H locs cells slots (MQ below (cl_Q true D c0 none cl_no σ0 σ') args s (σ0.2.2.2.2.2.1 - σ'.2.2.2.2.2.1) (σ0.2.2.2.2.2.2 - σ'.2.2.2.2.2.2) (cl_A c0 σ0.2.2.2.1 s.heap.size)) (F0 m 42 ls [])) ?_ _ _ hy hE _ _ _ _ _ _ G ha hl
  clear hE hy G ha hl h
  intro z o h hP T H locs ls cells slots G ha hl
  obtain ⟨x2, σ⟩ := z
  dsimp only at h G ha hl
  unfold lc_X5_begin_7 at h
  refine lv_iload_n C.1 C.2.1 dX5_begin_7 rfl (lv_at hl 1 rfl) ?_
  refine lv_aload_n C.1 C.2.1 dX5_begin_8 rfl (lv_at hl 0 rfl) ?_
  refine cg_5_12 C G ha dX5_begin_9 (fun t_6 => ?_)
  refine vt_r (K := 17) t_6 h (fun r_7 t_8 h_9 => ?_)
  obtain ⟨a_10, rfl, h_12⟩ := nn_some h_9
  have t_11 := t_8 _ rfl
  refine cg_5_66 C G t_11 dX5_begin_12 ?_
  refine lv_icmp_ge (tgt := 42) C.1 C.2.1 dX5_begin_15 (by decide) (fun hc => ?_) (fun hc => ?_)
  · rw [if_pos hc] at h_12
    cases h_12
    exact hP _ _ _ _ _ _ G ha (lv_sub hl [0, 1] rfl)
  · rw [if_neg hc] at h_12
    refine lv_aload_n C.1 C.2.1 dX5_begin_18 rfl (lv_at hl 0 rfl) ?_
    refine cg_5_20 C G ha dX5_begin_19 (fun t_13 => ?_)
    refine lv_iload_n C.1 C.2.1 dX5_begin_22 rfl (lv_at hl 1 rfl) ?_
    obtain ⟨hi, h_14⟩ := ix_some h_12
    refine cl_aald C G t_13 (by decide) (by decide) rfl hi dX5_begin_23 (fun t_15 => ?_)
    refine vt_r (K := 22) t_15 h_14 (fun r_16 t_17 h_18 => ?_)
    refine lv_aload_n C.1 C.2.1 dX5_begin_24 rfl (lv_at hl 0 rfl) ?_
    refine cg_5_12 C G ha dX5_begin_25 (fun t_19 => ?_)
    refine vt_r (K := 17) t_19 h_18 (fun r_20 t_21 h_22 => ?_)
    obtain ⟨a_23, rfl, h_25⟩ := nn_some h_22
    have t_24 := t_21 _ rfl
    refine cg_5_70 C G t_24 dX5_begin_28 (fun t_26 => ?_)
    refine lv_iload_n C.1 C.2.1 dX5_begin_31 rfl (lv_at hl 1 rfl) ?_
    obtain ⟨hi, h_27⟩ := ix_some h_25
    refine cl_iald C G t_26 hi dX5_begin_32 ?_
    obtain ⟨a_28, rfl, h_30⟩ := nn_some h_27
    have t_29 := t_17 _ rfl
    obtain ⟨σ_31, hq, h_32⟩ := bd1_some h_30
    refine cl_callV (ci := 6) (rest := []) C G rfl t_29 cw_RX5_73 [.int (σ.1 (a_23 + 2) x2.toNatClampNeg)] _ (kc_X6_reset l D c0 (by rw [G.1]; exact t_29) hq) (Nat.le_of_ble_eq_true rfl) (Nat.le_of_ble_eq_true rfl) rfl rfl hl.1 (Nat.le_of_ble_eq_true rfl) dX5_begin_33 (fun T_33 H locs cells slots t_34 hu G_35 => ?_)
    have ha := hu.kind ha (by decide)
    refine W.eq (g2 := F0 m 36 ls []) rfl ?_
    refine vl_ex h_32 (fun x2_36 ey h_37 => ?_)
    refine lv_iinc (v := x2_36) (lv' := [(2, .int x2_36), (0, .ref (c0 + a))]) C.1 C.2.1 dX5_begin_36 hl (k := 1) rfl (by rw [ey]; rfl) (by decide) rfl (fun ls hl_38 => ?_)
    refine lv_goto (tgt := 7) C.1 C.2.1 dX5_begin_39 (by decide) ?_
    cases h_37
    exact hP _ _ _ _ _ _ G_35 ha (lv_sub hl_38 [1, 0] rfl)
noncomputable def bc_X5_begin_0 (a : Nat) (x1 : (Option Nat)) (σ : cl_S) : Option (cl_S) := vl (cl_wr σ a 3 x1) (fun σ_1 => bc_X5_begin_7 a (0:Int32) σ_1)
set_option maxHeartbeats 4000000 in
theorem wc_X5_begin_0 (C : cl_C D p s m args meth c cX5_begin 3 none RX5) {a : Nat} {x1 : (Option Nat)} {σ0 σ σ' : cl_S} {T : Nat → Nat × Nat} {H : Heap} {locs : List Loc} {ls : Array Slot} {cells slots : Nat} (h : bc_X5_begin_0 a x1 σ = some σ') (G : cl_G true D c0 ({ frames := 3, cells := σ0.2.2.2.2.2.1, slots := σ0.2.2.2.2.2.2, locals := 65 }) s σ0.2.2.2.1 T σ H locs cells slots) (ha : (T a).1 = 21) (f1 : cl_RT T x1 17) (hl : lv_has ls 3 [(0, .ref (c0 + a)), (1, cl_rf c0 x1)]) : W p l e ({ frames := 3, cells := σ0.2.2.2.2.2.1, slots := σ0.2.2.2.2.2.2, locals := 65 }) s m args below meth c H locs cells slots (MQ below (cl_Q true D c0 none cl_no σ0 σ') args s (σ0.2.2.2.2.2.1 - σ'.2.2.2.2.2.1) (σ0.2.2.2.2.2.2 - σ'.2.2.2.2.2.2) (cl_A c0 σ0.2.2.2.1 s.heap.size)) (F0 m 0 ls []) := by
  unfold bc_X5_begin_0 at h
  refine lv_aload_n C.1 C.2.1 dX5_begin_0 rfl (lv_at hl 0 rfl) ?_
  refine cl_aload_n C.1 C.2.1 dX5_begin_1 rfl (lv_at hl 1 rfl) ?_
  refine cp_5_12 (x := x1) C G ha f1 dX5_begin_2 (fun H locs G_2 => ?_)
  refine cl_nm G_2 h (fun σ_1 G_3 h_4 => ?_)
  refine lv_iconst (v := (0:Int32)) C.1 C.2.1 dX5_begin_5 (by decide) ?_
  refine lv_istore_n (lv' := [(2, .int (0:Int32)), (0, .ref (c0 + a)), (1, cl_rf c0 x1)]) C.1 C.2.1 dX5_begin_6 rfl hl (by decide) (by first | rfl | (cases x1 <;> rfl)) (fun ls hl_5 => ?_)
  exact wc_X5_begin_7 C h_4 G_3 ha (lv_sub hl_5 [1, 0] rfl)
noncomputable def fc_X5_begin (a : Nat) (x1 : (Option Nat)) (σ : cl_S) : Option (cl_S) := bc_X5_begin_0 a x1 σ
theorem kc_X5_begin (l : Launch) (D : cl_D) (c0 : Nat) {a : Nat} {x1 : (Option Nat)} {σ σ' : cl_S} (ha : (σ.2.2.2.1 a).1 = 21) (h : fc_X5_begin a x1 σ = some σ') (f1 : cl_RT σ.2.2.2.1 x1 17) : cl_Met true l D c0 yX5_begin cX5_begin 3 none 3 65 [.ref (c0 + a), cl_rf c0 x1] σ none cl_no σ' :=
  by cases x1 <;> exact cl_of (by decide) (Nat.le_of_ble_eq_true rfl) (fun p e s m args below meth c ls C hn G hl => wc_X5_begin_0 C h G ha f1 hl)
abbrev cX5_noteInput : ByteArray := prog_7_method_3_code
def yX5_noteInput : MethodName := ⟨RX5, "noteInput", "(IILPartHouse$Term;)V"⟩
theorem dX5_noteInput_0 : decode cX5_noteInput 0 = .ok (.aload_n 0, 1) := by decide +kernel
theorem dX5_noteInput_1 : decode cX5_noteInput 1 = .ok (.getfield 104, 3) := by decide +kernel
theorem dX5_noteInput_4 : decode cX5_noteInput 4 = .ok (.sipush 500, 3) := by decide +kernel
theorem dX5_noteInput_7 : decode cX5_noteInput 7 = .ok (.if_icmp .ge 46, 3) := by decide +kernel
theorem dX5_noteInput_10 : decode cX5_noteInput 10 = .ok (.aload_n 0, 1) := by decide +kernel
theorem dX5_noteInput_11 : decode cX5_noteInput 11 = .ok (.getfield 39, 3) := by decide +kernel
theorem dX5_noteInput_14 : decode cX5_noteInput 14 = .ok (.aload_n 0, 1) := by decide +kernel
theorem dX5_noteInput_15 : decode cX5_noteInput 15 = .ok (.getfield 104, 3) := by decide +kernel
theorem dX5_noteInput_18 : decode cX5_noteInput 18 = .ok (.aload_n 0, 1) := by decide +kernel
theorem dX5_noteInput_19 : decode cX5_noteInput 19 = .ok (.getfield 89, 3) := by decide +kernel
theorem dX5_noteInput_22 : decode cX5_noteInput 22 = .ok (.iastore, 1) := by decide +kernel
theorem dX5_noteInput_23 : decode cX5_noteInput 23 = .ok (.aload_n 0, 1) := by decide +kernel
theorem dX5_noteInput_24 : decode cX5_noteInput 24 = .ok (.getfield 42, 3) := by decide +kernel
theorem dX5_noteInput_27 : decode cX5_noteInput 27 = .ok (.aload_n 0, 1) := by decide +kernel
theorem dX5_noteInput_28 : decode cX5_noteInput 28 = .ok (.getfield 104, 3) := by decide +kernel
theorem dX5_noteInput_31 : decode cX5_noteInput 31 = .ok (.iload_n 1, 1) := by decide +kernel
theorem dX5_noteInput_32 : decode cX5_noteInput 32 = .ok (.iastore, 1) := by decide +kernel
theorem dX5_noteInput_33 : decode cX5_noteInput 33 = .ok (.aload_n 0, 1) := by decide +kernel
theorem dX5_noteInput_34 : decode cX5_noteInput 34 = .ok (.getfield 45, 3) := by decide +kernel
theorem dX5_noteInput_37 : decode cX5_noteInput 37 = .ok (.aload_n 0, 1) := by decide +kernel
theorem dX5_noteInput_38 : decode cX5_noteInput 38 = .ok (.getfield 104, 3) := by decide +kernel
theorem dX5_noteInput_41 : decode cX5_noteInput 41 = .ok (.iload_n 2, 1) := by decide +kernel
theorem dX5_noteInput_42 : decode cX5_noteInput 42 = .ok (.iastore, 1) := by decide +kernel
theorem dX5_noteInput_43 : decode cX5_noteInput 43 = .ok (.aload_n 0, 1) := by decide +kernel
theorem dX5_noteInput_44 : decode cX5_noteInput 44 = .ok (.getfield 48, 3) := by decide +kernel
theorem dX5_noteInput_47 : decode cX5_noteInput 47 = .ok (.aload_n 0, 1) := by decide +kernel
theorem dX5_noteInput_48 : decode cX5_noteInput 48 = .ok (.getfield 104, 3) := by decide +kernel
theorem dX5_noteInput_51 : decode cX5_noteInput 51 = .ok (.aload_n 3, 1) := by decide +kernel
theorem dX5_noteInput_52 : decode cX5_noteInput 52 = .ok (.aastore, 1) := by decide +kernel
theorem dX5_noteInput_53 : decode cX5_noteInput 53 = .ok (.aload_n 0, 1) := by decide +kernel
theorem dX5_noteInput_54 : decode cX5_noteInput 54 = .ok (.dup, 1) := by decide +kernel
theorem dX5_noteInput_55 : decode cX5_noteInput 55 = .ok (.getfield 104, 3) := by decide +kernel
theorem dX5_noteInput_58 : decode cX5_noteInput 58 = .ok (.iconst 1, 1) := by decide +kernel
theorem dX5_noteInput_59 : decode cX5_noteInput 59 = .ok (.iadd, 1) := by decide +kernel
theorem dX5_noteInput_60 : decode cX5_noteInput 60 = .ok (.putfield 104, 3) := by decide +kernel
theorem dX5_noteInput_63 : decode cX5_noteInput 63 = .ok (.return_, 1) := by decide +kernel
theorem cc_X5_noteInput : Cond.code yX5_noteInput cX5_noteInput 4 none ∈ rf_tb := rf_at 1345 (by decide +kernel) (by decide +kernel)
noncomputable def bc_X5_noteInput_53 (a : Nat) (σ : cl_S) : Option (cl_S) := vl (cl_w σ a 15 ((σ.1 a 15) + (1:Int32))) (fun σ_1 => some σ_1)
set_option maxHeartbeats 4000000 in
theorem wc_X5_noteInput_53 (C : cl_C D p s m args meth c cX5_noteInput 4 none RX5) {a : Nat} {σ0 σ σ' : cl_S} {T : Nat → Nat × Nat} {H : Heap} {locs : List Loc} {ls : Array Slot} {cells slots : Nat} (h : bc_X5_noteInput_53 a σ = some σ') (G : cl_G true D c0 ({ frames := 0, cells := σ0.2.2.2.2.2.1, slots := σ0.2.2.2.2.2.2, locals := 0 }) s σ0.2.2.2.1 T σ H locs cells slots) (ha : (T a).1 = 21) (hl : lv_has ls 4 [(0, .ref (c0 + a))]) : W p l e ({ frames := 0, cells := σ0.2.2.2.2.2.1, slots := σ0.2.2.2.2.2.2, locals := 0 }) s m args below meth c H locs cells slots (MQ below (cl_Q true D c0 none cl_no σ0 σ') args s (σ0.2.2.2.2.2.1 - σ'.2.2.2.2.2.1) (σ0.2.2.2.2.2.2 - σ'.2.2.2.2.2.2) (cl_A c0 σ0.2.2.2.1 s.heap.size)) (F0 m 53 ls []) := by
  unfold bc_X5_noteInput_53 at h
  refine lv_aload_n C.1 C.2.1 dX5_noteInput_53 rfl (lv_at hl 0 rfl) ?_
  refine lv_dup C.1 C.2.1 dX5_noteInput_54 rfl ?_
  refine cg_5_104 C G ha dX5_noteInput_55 ?_
  refine lv_iconst (v := (1:Int32)) C.1 C.2.1 dX5_noteInput_58 (by decide) ?_
  refine lv_iadd C.1 C.2.1 dX5_noteInput_59 ?_
  refine cp_5_104 C G ha dX5_noteInput_60 (fun H locs G_2 => ?_)
  refine cl_nm G_2 h (fun σ_1 G_3 h_4 => ?_)
  exact cl_vret ⟨rfl, rfl⟩ rfl C G_3 h_4 dX5_noteInput_63
noncomputable def bc_X5_noteInput_0 (a : Nat) (x1 : Int32) (x2 : Int32) (x3 : (Option Nat)) (σ : cl_S) : Option (cl_S) := (if (500:Int32) ≤ (σ.1 a 15) then bc_X5_noteInput_53 a σ else ix (σ.1 a 15) 500 (vl (cl_w σ (a + 32 + cl_md a) (σ.1 a 15).toNatClampNeg (σ.1 a 9)) (fun σ_6 => ix (σ_6.1 a 15) 500 (vl (cl_w σ_6 (a + 33 + cl_md a) (σ_6.1 a 15).toNatClampNeg x1) (fun σ_12 => ix (σ_12.1 a 15) 500 (vl (cl_w σ_12 (a + 34 + cl_md a) (σ_12.1 a 15).toNatClampNeg x2) (fun σ_18 => ix (σ_18.1 a 15) 500 (vl (cl_wr σ_18 (a + 35 + cl_md a) (σ_18.1 a 15).toNatClampNeg x3) (fun σ_24 => bc_X5_noteInput_53 a σ_24)))))))))
set_option maxHeartbeats 4000000 in
theorem wc_X5_noteInput_0 (C : cl_C D p s m args meth c cX5_noteInput 4 none RX5) {a : Nat} {x1 : Int32} {x2 : Int32} {x3 : (Option Nat)} {σ0 σ σ' : cl_S} {T : Nat → Nat × Nat} {H : Heap} {locs : List Loc} {ls : Array Slot} {cells slots : Nat} (h : bc_X5_noteInput_0 a x1 x2 x3 σ = some σ') (G : cl_G true D c0 ({ frames := 0, cells := σ0.2.2.2.2.2.1, slots := σ0.2.2.2.2.2.2, locals := 0 }) s σ0.2.2.2.1 T σ H locs cells slots) (ha : (T a).1 = 21) (f3 : cl_RT T x3 25) (hl : lv_has ls 4 [(0, .ref (c0 + a)), (1, .int x1), (2, .int x2), (3, cl_rf c0 x3)]) : W p l e ({ frames := 0, cells := σ0.2.2.2.2.2.1, slots := σ0.2.2.2.2.2.2, locals := 0 }) s m args below meth c H locs cells slots (MQ below (cl_Q true D c0 none cl_no σ0 σ') args s (σ0.2.2.2.2.2.1 - σ'.2.2.2.2.2.1) (σ0.2.2.2.2.2.2 - σ'.2.2.2.2.2.2) (cl_A c0 σ0.2.2.2.1 s.heap.size)) (F0 m 0 ls []) := by
  unfold bc_X5_noteInput_0 at h
  refine lv_aload_n C.1 C.2.1 dX5_noteInput_0 rfl (lv_at hl 0 rfl) ?_
  refine cg_5_104 C G ha dX5_noteInput_1 ?_
  refine lv_sipush (v := (500:Int32)) C.1 C.2.1 dX5_noteInput_4 (by decide) ?_
  refine lv_icmp_ge (tgt := 53) C.1 C.2.1 dX5_noteInput_7 (by decide) (fun hc => ?_) (fun hc => ?_)
  · rw [if_pos hc] at h
    exact wc_X5_noteInput_53 C h G ha (lv_sub hl [0] rfl)
  · rw [if_neg hc] at h
    refine lv_aload_n C.1 C.2.1 dX5_noteInput_10 rfl (lv_at hl 0 rfl) ?_
    refine cg_5_39 C G ha dX5_noteInput_11 (fun t_5 => ?_)
    refine lv_aload_n C.1 C.2.1 dX5_noteInput_14 rfl (lv_at hl 0 rfl) ?_
    refine cg_5_104 C G ha dX5_noteInput_15 ?_
    refine lv_aload_n C.1 C.2.1 dX5_noteInput_18 rfl (lv_at hl 0 rfl) ?_
    refine cg_5_89 C G ha dX5_noteInput_19 ?_
    obtain ⟨hi, h_7⟩ := ix_some h
    refine cl_iast C G t_5 hi dX5_noteInput_22 (fun H locs G_8 => ?_)
    refine cl_nm G_8 h_7 (fun σ_6 G_9 h_10 => ?_)
    refine lv_aload_n C.1 C.2.1 dX5_noteInput_23 rfl (lv_at hl 0 rfl) ?_
    refine cg_5_42 C G_9 ha dX5_noteInput_24 (fun t_11 => ?_)
    refine lv_aload_n C.1 C.2.1 dX5_noteInput_27 rfl (lv_at hl 0 rfl) ?_
    refine cg_5_104 C G_9 ha dX5_noteInput_28 ?_
    refine lv_iload_n C.1 C.2.1 dX5_noteInput_31 rfl (lv_at hl 1 rfl) ?_
    obtain ⟨hi, h_13⟩ := ix_some h_10
    refine cl_iast C G_9 t_11 hi dX5_noteInput_32 (fun H locs G_14 => ?_)
    refine cl_nm G_14 h_13 (fun σ_12 G_15 h_16 => ?_)
    refine lv_aload_n C.1 C.2.1 dX5_noteInput_33 rfl (lv_at hl 0 rfl) ?_
    refine cg_5_45 C G_15 ha dX5_noteInput_34 (fun t_17 => ?_)
    refine lv_aload_n C.1 C.2.1 dX5_noteInput_37 rfl (lv_at hl 0 rfl) ?_
    refine cg_5_104 C G_15 ha dX5_noteInput_38 ?_
    refine lv_iload_n C.1 C.2.1 dX5_noteInput_41 rfl (lv_at hl 2 rfl) ?_
    obtain ⟨hi, h_19⟩ := ix_some h_16
    refine cl_iast C G_15 t_17 hi dX5_noteInput_42 (fun H locs G_20 => ?_)
    refine cl_nm G_20 h_19 (fun σ_18 G_21 h_22 => ?_)
    refine lv_aload_n C.1 C.2.1 dX5_noteInput_43 rfl (lv_at hl 0 rfl) ?_
    refine cg_5_48 C G_21 ha dX5_noteInput_44 (fun t_23 => ?_)
    refine lv_aload_n C.1 C.2.1 dX5_noteInput_47 rfl (lv_at hl 0 rfl) ?_
    refine cg_5_104 C G_21 ha dX5_noteInput_48 ?_
    refine cl_aload_n C.1 C.2.1 dX5_noteInput_51 rfl (lv_at hl 3 rfl) ?_
    obtain ⟨hi, h_25⟩ := ix_some h_22
    refine cl_aast (ci := 9) (x := x3) C G_21 rfl rfl rfl t_23 (by decide) (by decide) f3 hi dX5_noteInput_52 (fun H locs G_26 => ?_)
    refine cl_nm G_26 h_25 (fun σ_24 G_27 h_28 => ?_)
    exact wc_X5_noteInput_53 C h_28 G_27 ha (lv_sub hl [0] rfl)
noncomputable def fc_X5_noteInput (a : Nat) (x1 : Int32) (x2 : Int32) (x3 : (Option Nat)) (σ : cl_S) : Option (cl_S) := bc_X5_noteInput_0 a x1 x2 x3 σ
theorem kc_X5_noteInput (l : Launch) (D : cl_D) (c0 : Nat) {a : Nat} {x1 : Int32} {x2 : Int32} {x3 : (Option Nat)} {σ σ' : cl_S} (ha : (σ.2.2.2.1 a).1 = 21) (h : fc_X5_noteInput a x1 x2 x3 σ = some σ') (f3 : cl_RT σ.2.2.2.1 x3 25) : cl_Met true l D c0 yX5_noteInput cX5_noteInput 4 none 0 0 [.ref (c0 + a), .int x1, .int x2, cl_rf c0 x3] σ none cl_no σ' :=
  by cases x3 <;> exact cl_of (by decide) (Nat.le_of_ble_eq_true rfl) (fun p e s m args below meth c ls C hn G hl => wc_X5_noteInput_0 C h G ha f3 hl)
abbrev cX6_loadAs : ByteArray := prog_8_method_3_code
def yX6_loadAs : MethodName := ⟨RX6, "loadAs", "(LPartHouse$Partition;)V"⟩
theorem dX6_loadAs_0 : decode cX6_loadAs 0 = .ok (.aload_n 0, 1) := by decide +kernel
theorem dX6_loadAs_1 : decode cX6_loadAs 1 = .ok (.aload_n 1, 1) := by decide +kernel
theorem dX6_loadAs_2 : decode cX6_loadAs 2 = .ok (.getfield 60, 3) := by decide +kernel
theorem dX6_loadAs_5 : decode cX6_loadAs 5 = .ok (.putfield 60, 3) := by decide +kernel
theorem dX6_loadAs_8 : decode cX6_loadAs 8 = .ok (.aload_n 0, 1) := by decide +kernel
theorem dX6_loadAs_9 : decode cX6_loadAs 9 = .ok (.aload_n 1, 1) := by decide +kernel
theorem dX6_loadAs_10 : decode cX6_loadAs 10 = .ok (.getfield 63, 3) := by decide +kernel
theorem dX6_loadAs_13 : decode cX6_loadAs 13 = .ok (.putfield 63, 3) := by decide +kernel
theorem dX6_loadAs_16 : decode cX6_loadAs 16 = .ok (.aload_n 0, 1) := by decide +kernel
theorem dX6_loadAs_17 : decode cX6_loadAs 17 = .ok (.aload_n 1, 1) := by decide +kernel
theorem dX6_loadAs_18 : decode cX6_loadAs 18 = .ok (.getfield 66, 3) := by decide +kernel
theorem dX6_loadAs_21 : decode cX6_loadAs 21 = .ok (.putfield 66, 3) := by decide +kernel
theorem dX6_loadAs_24 : decode cX6_loadAs 24 = .ok (.aload_n 0, 1) := by decide +kernel
theorem dX6_loadAs_25 : decode cX6_loadAs 25 = .ok (.getfield 12, 3) := by decide +kernel
theorem dX6_loadAs_28 : decode cX6_loadAs 28 = .ok (.aload_n 0, 1) := by decide +kernel
theorem dX6_loadAs_29 : decode cX6_loadAs 29 = .ok (.getfield 60, 3) := by decide +kernel
theorem dX6_loadAs_32 : decode cX6_loadAs 32 = .ok (.getfield 94, 3) := by decide +kernel
theorem dX6_loadAs_35 : decode cX6_loadAs 35 = .ok (.invokevirtual 97, 3) := by decide +kernel
theorem dX6_loadAs_38 : decode cX6_loadAs 38 = .ok (.iconst 0, 1) := by decide +kernel
theorem dX6_loadAs_39 : decode cX6_loadAs 39 = .ok (.istore_n 2, 1) := by decide +kernel
theorem dX6_loadAs_40 : decode cX6_loadAs 40 = .ok (.iload_n 2, 1) := by decide +kernel
theorem dX6_loadAs_41 : decode cX6_loadAs 41 = .ok (.aload_n 1, 1) := by decide +kernel
theorem dX6_loadAs_42 : decode cX6_loadAs 42 = .ok (.getfield 85, 3) := by decide +kernel
theorem dX6_loadAs_45 : decode cX6_loadAs 45 = .ok (.if_icmp .ge 21, 3) := by decide +kernel
theorem dX6_loadAs_48 : decode cX6_loadAs 48 = .ok (.aload_n 0, 1) := by decide +kernel
theorem dX6_loadAs_49 : decode cX6_loadAs 49 = .ok (.getfield 34, 3) := by decide +kernel
theorem dX6_loadAs_52 : decode cX6_loadAs 52 = .ok (.iload_n 2, 1) := by decide +kernel
theorem dX6_loadAs_53 : decode cX6_loadAs 53 = .ok (.aload_n 1, 1) := by decide +kernel
theorem dX6_loadAs_54 : decode cX6_loadAs 54 = .ok (.getfield 34, 3) := by decide +kernel
theorem dX6_loadAs_57 : decode cX6_loadAs 57 = .ok (.iload_n 2, 1) := by decide +kernel
theorem dX6_loadAs_58 : decode cX6_loadAs 58 = .ok (.aaload, 1) := by decide +kernel
theorem dX6_loadAs_59 : decode cX6_loadAs 59 = .ok (.aastore, 1) := by decide +kernel
theorem dX6_loadAs_60 : decode cX6_loadAs 60 = .ok (.iinc 2 1, 3) := by decide +kernel
theorem dX6_loadAs_63 : decode cX6_loadAs 63 = .ok (.goto (-23), 3) := by decide +kernel
theorem dX6_loadAs_66 : decode cX6_loadAs 66 = .ok (.aload_n 0, 1) := by decide +kernel
theorem dX6_loadAs_67 : decode cX6_loadAs 67 = .ok (.aload_n 1, 1) := by decide +kernel
theorem dX6_loadAs_68 : decode cX6_loadAs 68 = .ok (.getfield 85, 3) := by decide +kernel
theorem dX6_loadAs_71 : decode cX6_loadAs 71 = .ok (.putfield 85, 3) := by decide +kernel
theorem dX6_loadAs_74 : decode cX6_loadAs 74 = .ok (.return_, 1) := by decide +kernel
theorem cc_X6_loadAs : Cond.code yX6_loadAs cX6_loadAs 3 none ∈ rf_tb := rf_at 1484 (by decide +kernel) (by decide +kernel)
theorem cw_RX6_97 : cl_wV RX6 RX2 yX2_load cX2_load 2 none 97 1 := ⟨⟨rf_at 1485 (by decide +kernel) (by decide +kernel), rf_at 1086 (by decide +kernel) (by decide +kernel), rf_at 1087 (by decide +kernel) (by decide +kernel), cc_X2_load, rf_at 16 (by decide +kernel) (by decide +kernel)⟩, ⟨by decide, by decide, by decide +kernel⟩⟩
noncomputable def lc_X6_loadAs_40 (a : Nat) (x1 : (Option Nat)) (x2 : Int32) (σ : cl_S) : Option ((Int32 × cl_S) ⊕ (Int32 × cl_S)) := nn x1 (fun a_45 => (if (σ.1 a_45 12) ≤ x2 then some (.inr (x2, σ)) else ix x2 100 (vl (σ.2.2.1 (a_45 + 8) x2.toNatClampNeg) (fun r_52 => ix x2 100 (vl (cl_wr σ (a + 8) x2.toNatClampNeg r_52) (fun σ_55 => vl (x2 + (1:Int32)) (fun x2_60 => some (.inl (x2_60, σ_55)))))))))
noncomputable def ec_X6_loadAs_40 (a : Nat) (x1 : (Option Nat)) (x2 : Int32) (σ : cl_S) : Option (cl_S) := nn x1 (fun a_63 => vl (cl_w σ a 12 (σ.1 a_63 12)) (fun σ_66 => some σ_66))
noncomputable def bc_X6_loadAs_40 (a : Nat) (x1 : (Option Nat)) (x2 : Int32) (σ : cl_S) : Option (cl_S) := (lp (fun z : (Int32 × cl_S) => lc_X6_loadAs_40 a x1 z.1 z.2) (x2, σ)).bind (fun z => ec_X6_loadAs_40 a x1 z.1 z.2)
set_option maxHeartbeats 4000000 in
theorem wc_X6_loadAs_40 (C : cl_C D p s m args meth c cX6_loadAs 3 none RX6) {a : Nat} {x1 : (Option Nat)} {x2 : Int32} {σ0 σ σ' : cl_S} {T : Nat → Nat × Nat} {H : Heap} {locs : List Loc} {ls : Array Slot} {cells slots : Nat} (h : bc_X6_loadAs_40 a x1 x2 σ = some σ') (G : cl_G true D c0 ({ frames := 2, cells := σ0.2.2.2.2.2.1, slots := σ0.2.2.2.2.2.2, locals := 69 }) s σ0.2.2.2.1 T σ H locs cells slots) (ha : (T a).1 = 22) (f1 : cl_RT T x1 22) (hl : lv_has ls 3 [(0, .ref (c0 + a)), (1, cl_rf c0 x1), (2, .int x2)]) : W p l e ({ frames := 2, cells := σ0.2.2.2.2.2.1, slots := σ0.2.2.2.2.2.2, locals := 69 }) s m args below meth c H locs cells slots (MQ below (cl_Q true D c0 none cl_no σ0 σ') args s (σ0.2.2.2.2.2.1 - σ'.2.2.2.2.2.1) (σ0.2.2.2.2.2.2 - σ'.2.2.2.2.2.2) (cl_A c0 σ0.2.2.2.1 s.heap.size)) (F0 m 40 ls []) := by
  unfold bc_X6_loadAs_40 at h
  obtain ⟨y, hy, h⟩ := bd_some h
  have hE : (fun z : (Int32 × cl_S) => ∀ (T : Nat → Nat × Nat) (H : Heap) (locs : List Loc) (ls : Array Slot) (cells slots : Nat), cl_G true D c0 ({ frames := 2, cells := σ0.2.2.2.2.2.1, slots := σ0.2.2.2.2.2.2, locals := 69 }) s σ0.2.2.2.1 T z.2 H locs cells slots → (T a).1 = 22 → cl_RT T x1 22 → lv_has ls 3 [(0, .ref (c0 + a)), (1, cl_rf c0 x1), (2, .int (z.1))] → W p l e ({ frames := 2, cells := σ0.2.2.2.2.2.1, slots := σ0.2.2.2.2.2.2, locals := 69 }) s m args below meth c H locs cells slots (MQ below (cl_Q true D c0 none cl_no σ0 σ') args s (σ0.2.2.2.2.2.1 - σ'.2.2.2.2.2.1) (σ0.2.2.2.2.2.2 - σ'.2.2.2.2.2.2) (cl_A c0 σ0.2.2.2.1 s.heap.size)) (F0 m 66 ls [])) y := by
    clear hy G ha f1 hl
    intro T H locs ls cells slots G ha f1 hl
    obtain ⟨x2, σ⟩ := y
    dsimp only at h G ha f1 hl
    unfold ec_X6_loadAs_40 at h
    refine lv_aload_n C.1 C.2.1 dX6_loadAs_66 rfl (lv_at hl 0 rfl) ?_
    refine cl_aload_n C.1 C.2.1 dX6_loadAs_67 rfl (lv_at hl 1 rfl) ?_
    obtain ⟨a_63, rfl, h_65⟩ := nn_some h
    have t_64 := f1 _ rfl
    refine cg_6_85 C G t_64 dX6_loadAs_68 ?_
    refine cp_6_85 C G ha dX6_loadAs_71 (fun H locs G_67 => ?_)
    refine cl_nm G_67 h_65 (fun σ_66 G_68 h_69 => ?_)
    exact cl_vret ⟨rfl, rfl⟩ rfl C G_68 h_69 dX6_loadAs_74
  refine lp_recE (fun z : (Int32 × cl_S) => ∀ (T : Nat → Nat × Nat) (H : Heap) (locs : List Loc) (ls : Array Slot) (cells slots : Nat), cl_G true D c0 ({ frames := 2, cells := σ0.2.2.2.2.2.1, slots := σ0.2.2.2.2.2.2, locals := 69 }) s σ0.2.2.2.1 T z.2 H locs cells slots → (T a).1 = 22 → cl_RT T x1 22 → lv_has ls 3 [(0, .ref (c0 + a)), (1, cl_rf c0 x1), (2, .int (z.1))] → W p l e ({ frames := 2, cells := σ0.2.2.2.2.2.1, slots := σ0.2.2.2.2.2.2, locals := 69 }) s m args below meth c H locs cells slots (MQ below (cl_Q true D c0 none cl_no σ0 σ') args s (σ0.2.2.2.2.2.1 - σ'.2.2.2.2.2.1) (σ0.2.2.2.2.2.2 - σ'.2.2.2.2.2.2) (cl_A c0 σ0.2.2.2.1 s.heap.size)) (F0 m 40 ls [])) (fun z : (Int32 × cl_S) => ∀ (T : Nat → Nat × Nat) (H : Heap) (locs : List Loc) (ls : Array Slot) (cells slots : Nat), cl_G true D c0 ({ frames := 2, cells := σ0.2.2.2.2.2.1, slots := σ0.2.2.2.2.2.2, locals := 69 }) s σ0.2.2.2.1 T z.2 H locs cells slots → (T a).1 = 22 → cl_RT T x1 22 → lv_has ls 3 [(0, .ref (c0 + a)), (1, cl_rf c0 x1), (2, .int (z.1))] → W p l e ({ frames := 2, cells := σ0.2.2.2.2.2.1, slots := σ0.2.2.2.2.2.2, locals := 69 }) s m args below meth c H locs cells slots (MQ below (cl_Q true D c0 none cl_no σ0 σ') args s (σ0.2.2.2.2.2.1 - σ'.2.2.2.2.2.1) (σ0.2.2.2.2.2.2 - σ'.2.2.2.2.2.2) (cl_A c0 σ0.2.2.2.1 s.heap.size)) (F0 m 66 ls [])) ?_ _ _ hy hE _ _ _ _ _ _ G ha f1 hl
  clear hE hy G ha f1 hl h
  intro z o h hP T H locs ls cells slots G ha f1 hl
  obtain ⟨x2, σ⟩ := z
  dsimp only at h G ha f1 hl
  unfold lc_X6_loadAs_40 at h
  refine lv_iload_n C.1 C.2.1 dX6_loadAs_40 rfl (lv_at hl 2 rfl) ?_
  refine cl_aload_n C.1 C.2.1 dX6_loadAs_41 rfl (lv_at hl 1 rfl) ?_
  obtain ⟨a_45, rfl, h_47⟩ := nn_some h
  have t_46 := f1 _ rfl
  refine cg_6_85 C G t_46 dX6_loadAs_42 ?_
  refine lv_icmp_ge (tgt := 66) C.1 C.2.1 dX6_loadAs_45 (by decide) (fun hc => ?_) (fun hc => ?_)
  · rw [if_pos hc] at h_47
    cases h_47
    exact hP _ _ _ _ _ _ G ha (cl_RTs t_46) (lv_sub hl [0, 1, 2] rfl)
  · rw [if_neg hc] at h_47
    refine lv_aload_n C.1 C.2.1 dX6_loadAs_48 rfl (lv_at hl 0 rfl) ?_
    refine cg_6_34 C G ha dX6_loadAs_49 (fun t_48 => ?_)
    refine lv_iload_n C.1 C.2.1 dX6_loadAs_52 rfl (lv_at hl 2 rfl) ?_
    refine lv_aload_n C.1 C.2.1 dX6_loadAs_53 rfl (lv_at hl 1 rfl) ?_
    refine cg_6_34 C G t_46 dX6_loadAs_54 (fun t_49 => ?_)
    refine lv_iload_n C.1 C.2.1 dX6_loadAs_57 rfl (lv_at hl 2 rfl) ?_
    obtain ⟨hi, h_50⟩ := ix_some h_47
    refine cl_aald C G t_49 (by decide) (by decide) rfl hi dX6_loadAs_58 (fun t_51 => ?_)
    refine vt_r (K := 25) t_51 h_50 (fun r_52 t_53 h_54 => ?_)
    obtain ⟨hi, h_56⟩ := ix_some h_54
    refine cl_aast (ci := 9) (x := r_52) C G rfl rfl rfl t_48 (by decide) (by decide) t_53 hi dX6_loadAs_59 (fun H locs G_57 => ?_)
    refine cl_nm G_57 h_56 (fun σ_55 G_58 h_59 => ?_)
    refine vl_ex h_59 (fun x2_60 ey h_61 => ?_)
    refine lv_iinc (v := x2_60) (lv' := [(2, .int x2_60), (0, .ref (c0 + a)), (1, .ref (c0 + a_45))]) C.1 C.2.1 dX6_loadAs_60 hl (k := 2) rfl (by rw [ey]; rfl) (by decide) rfl (fun ls hl_62 => ?_)
    refine lv_goto (tgt := 40) C.1 C.2.1 dX6_loadAs_63 (by decide) ?_
    cases h_61
    exact hP _ _ _ _ _ _ G_58 ha (cl_RTs t_46) (lv_sub hl_62 [1, 2, 0] rfl)
noncomputable def bc_X6_loadAs_0 (a : Nat) (x1 : (Option Nat)) (σ : cl_S) : Option (cl_S) := nn x1 (fun a_1 => vl (σ.2.2.1 a_1 15) (fun r_5 => vl (cl_wr σ a 15 r_5) (fun σ_8 => vl (σ_8.2.2.1 a_1 16) (fun r_13 => vl (cl_wr σ_8 a 16 r_13) (fun σ_16 => vl (σ_16.2.2.1 a_1 17) (fun r_21 => vl (cl_wr σ_16 a 17 r_21) (fun σ_24 => vl (σ_24.2.2.1 a 15) (fun r_30 => nn r_30 (fun a_33 => nn (σ_24.2.2.1 a_33 6) (fun a_36 => bd1 (fc_X2_load (a + 1) (some a_36) σ_24) (fun σ_39 => bc_X6_loadAs_40 a (some a_1) (0:Int32) σ_39)))))))))))
set_option maxHeartbeats 4000000 in
theorem wc_X6_loadAs_0 (C : cl_C D p s m args meth c cX6_loadAs 3 none RX6) {a : Nat} {x1 : (Option Nat)} {σ0 σ σ' : cl_S} {T : Nat → Nat × Nat} {H : Heap} {locs : List Loc} {ls : Array Slot} {cells slots : Nat} (h : bc_X6_loadAs_0 a x1 σ = some σ') (G : cl_G true D c0 ({ frames := 2, cells := σ0.2.2.2.2.2.1, slots := σ0.2.2.2.2.2.2, locals := 69 }) s σ0.2.2.2.1 T σ H locs cells slots) (ha : (T a).1 = 22) (f1 : cl_RT T x1 22) (hl : lv_has ls 3 [(0, .ref (c0 + a)), (1, cl_rf c0 x1)]) : W p l e ({ frames := 2, cells := σ0.2.2.2.2.2.1, slots := σ0.2.2.2.2.2.2, locals := 69 }) s m args below meth c H locs cells slots (MQ below (cl_Q true D c0 none cl_no σ0 σ') args s (σ0.2.2.2.2.2.1 - σ'.2.2.2.2.2.1) (σ0.2.2.2.2.2.2 - σ'.2.2.2.2.2.2) (cl_A c0 σ0.2.2.2.1 s.heap.size)) (F0 m 0 ls []) := by
  unfold bc_X6_loadAs_0 at h
  refine lv_aload_n C.1 C.2.1 dX6_loadAs_0 rfl (lv_at hl 0 rfl) ?_
  refine cl_aload_n C.1 C.2.1 dX6_loadAs_1 rfl (lv_at hl 1 rfl) ?_
  obtain ⟨a_1, rfl, h_3⟩ := nn_some h
  have t_2 := f1 _ rfl
  refine cg_6_60 C G t_2 dX6_loadAs_2 (fun t_4 => ?_)
  refine vt_r (K := 25) t_4 h_3 (fun r_5 t_6 h_7 => ?_)
  refine cp_6_60 (x := r_5) C G ha t_6 dX6_loadAs_5 (fun H locs G_9 => ?_)
  refine cl_nm G_9 h_7 (fun σ_8 G_10 h_11 => ?_)
  refine lv_aload_n C.1 C.2.1 dX6_loadAs_8 rfl (lv_at hl 0 rfl) ?_
  refine lv_aload_n C.1 C.2.1 dX6_loadAs_9 rfl (lv_at hl 1 rfl) ?_
  refine cg_6_63 C G_10 t_2 dX6_loadAs_10 (fun t_12 => ?_)
  refine vt_r (K := 25) t_12 h_11 (fun r_13 t_14 h_15 => ?_)
  refine cp_6_63 (x := r_13) C G_10 ha t_14 dX6_loadAs_13 (fun H locs G_17 => ?_)
  refine cl_nm G_17 h_15 (fun σ_16 G_18 h_19 => ?_)
  refine lv_aload_n C.1 C.2.1 dX6_loadAs_16 rfl (lv_at hl 0 rfl) ?_
  refine lv_aload_n C.1 C.2.1 dX6_loadAs_17 rfl (lv_at hl 1 rfl) ?_
  refine cg_6_66 C G_18 t_2 dX6_loadAs_18 (fun t_20 => ?_)
  refine vt_r (K := 25) t_20 h_19 (fun r_21 t_22 h_23 => ?_)
  refine cp_6_66 (x := r_21) C G_18 ha t_22 dX6_loadAs_21 (fun H locs G_25 => ?_)
  refine cl_nm G_25 h_23 (fun σ_24 G_26 h_27 => ?_)
  refine lv_aload_n C.1 C.2.1 dX6_loadAs_24 rfl (lv_at hl 0 rfl) ?_
  refine cg_6_12 C G_26 ha dX6_loadAs_25 (fun t_28 => ?_)
  have t_28 : (T (a + 1)).1 = 18 := by rw [t_28]
  refine lv_aload_n C.1 C.2.1 dX6_loadAs_28 rfl (lv_at hl 0 rfl) ?_
  refine cg_6_60 C G_26 ha dX6_loadAs_29 (fun t_29 => ?_)
  refine vt_r (K := 25) t_29 h_27 (fun r_30 t_31 h_32 => ?_)
  obtain ⟨a_33, rfl, h_35⟩ := nn_some h_32
  have t_34 := t_31 _ rfl
  obtain ⟨a_36, hw, h_38⟩ := nn_some h_35
  refine cg_6_94 C G_26 t_34 hw dX6_loadAs_32 (fun t_37 => ?_)
  obtain ⟨σ_39, hq, h_40⟩ := bd1_some h_38
  refine cl_callV (ci := 2) (rest := []) C G_26 rfl t_28 cw_RX6_97 [.ref (c0 + a_36)] _ (kc_X2_load l D c0 (by rw [G_26.1]; exact t_28) hq (by rw [G_26.1]; exact (cl_RTs (by rw [t_37])))) (Nat.le_of_ble_eq_true rfl) (Nat.le_of_ble_eq_true rfl) rfl rfl hl.1 (Nat.le_of_ble_eq_true rfl) dX6_loadAs_35 (fun T_41 H locs cells slots t_42 hu G_43 => ?_)
  have ha := hu.kind ha (by decide)
  have t_2 := hu.kind t_2 (by decide)
  refine W.eq (g2 := F0 m 38 ls []) rfl ?_
  refine lv_iconst (v := (0:Int32)) C.1 C.2.1 dX6_loadAs_38 (by decide) ?_
  refine lv_istore_n (lv' := [(2, .int (0:Int32)), (0, .ref (c0 + a)), (1, .ref (c0 + a_1))]) C.1 C.2.1 dX6_loadAs_39 rfl hl (by decide) rfl (fun ls hl_44 => ?_)
  exact wc_X6_loadAs_40 C h_40 G_43 ha (cl_RTs t_2) (lv_sub hl_44 [1, 2, 0] rfl)
noncomputable def fc_X6_loadAs (a : Nat) (x1 : (Option Nat)) (σ : cl_S) : Option (cl_S) := bc_X6_loadAs_0 a x1 σ
theorem kc_X6_loadAs (l : Launch) (D : cl_D) (c0 : Nat) {a : Nat} {x1 : (Option Nat)} {σ σ' : cl_S} (ha : (σ.2.2.2.1 a).1 = 22) (h : fc_X6_loadAs a x1 σ = some σ') (f1 : cl_RT σ.2.2.2.1 x1 22) : cl_Met true l D c0 yX6_loadAs cX6_loadAs 3 none 2 69 [.ref (c0 + a), cl_rf c0 x1] σ none cl_no σ' :=
  by cases x1 <;> exact cl_of (by decide) (Nat.le_of_ble_eq_true rfl) (fun p e s m args below meth c ls C hn G hl => wc_X6_loadAs_0 C h G ha f1 hl)
abbrev cX5_firstCopy : ByteArray := prog_7_method_7_code
def yX5_firstCopy : MethodName := ⟨RX5, "firstCopy", "(II)I"⟩
theorem dX5_firstCopy_0 : decode cX5_firstCopy 0 = .ok (.iconst 2, 1) := by decide +kernel
theorem dX5_firstCopy_1 : decode cX5_firstCopy 1 = .ok (.aload_n 0, 1) := by decide +kernel
theorem dX5_firstCopy_2 : decode cX5_firstCopy 2 = .ok (.getfield 12, 3) := by decide +kernel
theorem dX5_firstCopy_5 : decode cX5_firstCopy 5 = .ok (.getfield 161, 3) := by decide +kernel
theorem dX5_firstCopy_8 : decode cX5_firstCopy 8 = .ok (.iload_n 1, 1) := by decide +kernel
theorem dX5_firstCopy_9 : decode cX5_firstCopy 9 = .ok (.iaload, 1) := by decide +kernel
theorem dX5_firstCopy_10 : decode cX5_firstCopy 10 = .ok (.iload_n 2, 1) := by decide +kernel
theorem dX5_firstCopy_11 : decode cX5_firstCopy 11 = .ok (.iadd, 1) := by decide +kernel
theorem dX5_firstCopy_12 : decode cX5_firstCopy 12 = .ok (.imul, 1) := by decide +kernel
theorem dX5_firstCopy_13 : decode cX5_firstCopy 13 = .ok (.ireturn, 1) := by decide +kernel
theorem cc_X5_firstCopy : Cond.code yX5_firstCopy cX5_firstCopy 3 (some .int) ∈ rf_tb := rf_at 1294 (by decide +kernel) (by decide +kernel)
noncomputable def bc_X5_firstCopy_0 (a : Nat) (x1 : Int32) (x2 : Int32) (σ : cl_S) : Option (Int32 × cl_S) := vl (σ.2.2.1 a 3) (fun r_2 => nn r_2 (fun a_5 => ix x1 8 (some (((2:Int32) * ((σ.1 (a_5 + 4) x1.toNatClampNeg) + x2)), σ))))
set_option maxHeartbeats 4000000 in
theorem wc_X5_firstCopy_0 (C : cl_C D p s m args meth c cX5_firstCopy 3 (some .int) RX5) {r : Int32} {a : Nat} {x1 : Int32} {x2 : Int32} {σ0 σ σ' : cl_S} {T : Nat → Nat × Nat} {H : Heap} {locs : List Loc} {ls : Array Slot} {cells slots : Nat} (h : bc_X5_firstCopy_0 a x1 x2 σ = some (r, σ')) (G : cl_G true D c0 ({ frames := 0, cells := σ0.2.2.2.2.2.1, slots := σ0.2.2.2.2.2.2, locals := 0 }) s σ0.2.2.2.1 T σ H locs cells slots) (ha : (T a).1 = 21) (hl : lv_has ls 3 [(0, .ref (c0 + a)), (1, .int x1), (2, .int x2)]) : W p l e ({ frames := 0, cells := σ0.2.2.2.2.2.1, slots := σ0.2.2.2.2.2.2, locals := 0 }) s m args below meth c H locs cells slots (MQ below (cl_Q true D c0 (some (.int r)) cl_no σ0 σ') args s (σ0.2.2.2.2.2.1 - σ'.2.2.2.2.2.1) (σ0.2.2.2.2.2.2 - σ'.2.2.2.2.2.2) (cl_A c0 σ0.2.2.2.1 s.heap.size)) (F0 m 0 ls []) := by
  unfold bc_X5_firstCopy_0 at h
  refine lv_iconst (v := (2:Int32)) C.1 C.2.1 dX5_firstCopy_0 (by decide) ?_
  refine lv_aload_n C.1 C.2.1 dX5_firstCopy_1 rfl (lv_at hl 0 rfl) ?_
  refine cg_5_12 C G ha dX5_firstCopy_2 (fun t_1 => ?_)
  refine vt_r (K := 17) t_1 h (fun r_2 t_3 h_4 => ?_)
  obtain ⟨a_5, rfl, h_7⟩ := nn_some h_4
  have t_6 := t_3 _ rfl
  refine cg_5_161 C G t_6 dX5_firstCopy_5 (fun t_8 => ?_)
  refine lv_iload_n C.1 C.2.1 dX5_firstCopy_8 rfl (lv_at hl 1 rfl) ?_
  obtain ⟨hi, h_9⟩ := ix_some h_7
  refine cl_iald C G t_8 hi dX5_firstCopy_9 ?_
  refine lv_iload_n C.1 C.2.1 dX5_firstCopy_10 rfl (lv_at hl 2 rfl) ?_
  refine lv_iadd C.1 C.2.1 dX5_firstCopy_11 ?_
  refine lv_imul C.1 C.2.1 dX5_firstCopy_12 ?_
  exact cl_iret ⟨rfl, rfl⟩ rfl C G h_9 dX5_firstCopy_13
noncomputable def fc_X5_firstCopy (a : Nat) (x1 : Int32) (x2 : Int32) (σ : cl_S) : Option (Int32 × cl_S) := bc_X5_firstCopy_0 a x1 x2 σ
theorem kc_X5_firstCopy (l : Launch) (D : cl_D) (c0 : Nat) {r : Int32} {a : Nat} {x1 : Int32} {x2 : Int32} {σ σ' : cl_S} (ha : (σ.2.2.2.1 a).1 = 21) (h : fc_X5_firstCopy a x1 x2 σ = some (r, σ')) : cl_Met true l D c0 yX5_firstCopy cX5_firstCopy 3 (some .int) 0 0 [.ref (c0 + a), .int x1, .int x2] σ (some (.int r)) cl_no σ' :=
  cl_of (by decide) (Nat.le_of_ble_eq_true rfl) (fun p e s m args below meth c ls C hn G hl => wc_X5_firstCopy_0 C h G ha hl)
abbrev cX5_emptyArea : ByteArray := prog_7_method_6_code
def yX5_emptyArea : MethodName := ⟨RX5, "emptyArea", "(I)V"⟩
theorem dX5_emptyArea_0 : decode cX5_emptyArea 0 = .ok (.iconst 0, 1) := by decide +kernel
theorem dX5_emptyArea_1 : decode cX5_emptyArea 1 = .ok (.istore_n 2, 1) := by decide +kernel
theorem dX5_emptyArea_2 : decode cX5_emptyArea 2 = .ok (.iload_n 2, 1) := by decide +kernel
theorem dX5_emptyArea_3 : decode cX5_emptyArea 3 = .ok (.aload_n 0, 1) := by decide +kernel
theorem dX5_emptyArea_4 : decode cX5_emptyArea 4 = .ok (.getfield 12, 3) := by decide +kernel
theorem dX5_emptyArea_7 : decode cX5_emptyArea 7 = .ok (.getfield 151, 3) := by decide +kernel
theorem dX5_emptyArea_10 : decode cX5_emptyArea 10 = .ok (.iload_n 1, 1) := by decide +kernel
theorem dX5_emptyArea_11 : decode cX5_emptyArea 11 = .ok (.iaload, 1) := by decide +kernel
theorem dX5_emptyArea_12 : decode cX5_emptyArea 12 = .ok (.if_icmp .ge 37, 3) := by decide +kernel
theorem dX5_emptyArea_15 : decode cX5_emptyArea 15 = .ok (.aload_n 0, 1) := by decide +kernel
theorem dX5_emptyArea_16 : decode cX5_emptyArea 16 = .ok (.getfield 55, 3) := by decide +kernel
theorem dX5_emptyArea_19 : decode cX5_emptyArea 19 = .ok (.aload_n 0, 1) := by decide +kernel
theorem dX5_emptyArea_20 : decode cX5_emptyArea 20 = .ok (.iload_n 1, 1) := by decide +kernel
theorem dX5_emptyArea_21 : decode cX5_emptyArea 21 = .ok (.iload_n 2, 1) := by decide +kernel
theorem dX5_emptyArea_22 : decode cX5_emptyArea 22 = .ok (.invokevirtual 154, 3) := by decide +kernel
theorem dX5_emptyArea_25 : decode cX5_emptyArea 25 = .ok (.invokevirtual 158, 3) := by decide +kernel
theorem dX5_emptyArea_28 : decode cX5_emptyArea 28 = .ok (.aload_n 0, 1) := by decide +kernel
theorem dX5_emptyArea_29 : decode cX5_emptyArea 29 = .ok (.getfield 55, 3) := by decide +kernel
theorem dX5_emptyArea_32 : decode cX5_emptyArea 32 = .ok (.aload_n 0, 1) := by decide +kernel
theorem dX5_emptyArea_33 : decode cX5_emptyArea 33 = .ok (.iload_n 1, 1) := by decide +kernel
theorem dX5_emptyArea_34 : decode cX5_emptyArea 34 = .ok (.iload_n 2, 1) := by decide +kernel
theorem dX5_emptyArea_35 : decode cX5_emptyArea 35 = .ok (.invokevirtual 154, 3) := by decide +kernel
theorem dX5_emptyArea_38 : decode cX5_emptyArea 38 = .ok (.iconst 1, 1) := by decide +kernel
theorem dX5_emptyArea_39 : decode cX5_emptyArea 39 = .ok (.iadd, 1) := by decide +kernel
theorem dX5_emptyArea_40 : decode cX5_emptyArea 40 = .ok (.invokevirtual 158, 3) := by decide +kernel
theorem dX5_emptyArea_43 : decode cX5_emptyArea 43 = .ok (.iinc 2 1, 3) := by decide +kernel
theorem dX5_emptyArea_46 : decode cX5_emptyArea 46 = .ok (.goto (-44), 3) := by decide +kernel
theorem dX5_emptyArea_49 : decode cX5_emptyArea 49 = .ok (.return_, 1) := by decide +kernel
theorem cc_X5_emptyArea : Cond.code yX5_emptyArea cX5_emptyArea 3 none ∈ rf_tb := rf_at 1489 (by decide +kernel) (by decide +kernel)
theorem cw_RX5_154 : cl_wV RX5 RX5 yX5_firstCopy cX5_firstCopy 3 (some .int) 154 2 := ⟨⟨rf_at 1291 (by decide +kernel) (by decide +kernel), rf_at 1293 (by decide +kernel) (by decide +kernel), rf_sel (q := (yX5_firstCopy, 20)) 60 (by decide +kernel) (by decide +kernel), cc_X5_firstCopy, rf_at 13 (by decide +kernel) (by decide +kernel)⟩, ⟨by decide, by decide, by decide +kernel⟩⟩
theorem cw_RX5_158 : cl_wV RX5 RX3 yX3_empty cX3_empty 2 none 158 1 := ⟨⟨rf_at 1307 (by decide +kernel) (by decide +kernel), rf_at 1308 (by decide +kernel) (by decide +kernel), rf_at 1309 (by decide +kernel) (by decide +kernel), cc_X3_empty, rf_at 12 (by decide +kernel) (by decide +kernel)⟩, ⟨by decide, by decide, by decide +kernel⟩⟩
noncomputable def lc_X5_emptyArea_2 (a : Nat) (x1 : Int32) (x2 : Int32) (σ : cl_S) : Option ((Int32 × cl_S) ⊕ (Int32 × cl_S)) := vl (σ.2.2.1 a 3) (fun r_3 => nn r_3 (fun a_6 => ix x1 8 ((if (σ.1 (a_6 + 3) x1.toNatClampNeg) ≤ x2 then some (.inr (x2, σ)) else vl (σ.2.2.1 a 1) (fun r_12 => bd2 (fc_X5_firstCopy a x1 x2 σ) (fun r_16 σ_15 => nn r_12 (fun a_21 => bd1 (fc_X3_empty a_21 r_16 σ_15) (fun σ_24 => vl (σ_24.2.2.1 a 1) (fun r_30 => bd2 (fc_X5_firstCopy a x1 x2 σ_24) (fun r_34 σ_33 => nn r_30 (fun a_39 => bd1 (fc_X3_empty a_39 (r_34 + (1:Int32)) σ_33) (fun σ_42 => vl (x2 + (1:Int32)) (fun x2_47 => some (.inl (x2_47, σ_42)))))))))))))))
noncomputable def ec_X5_emptyArea_2 (a : Nat) (x1 : Int32) (x2 : Int32) (σ : cl_S) : Option (cl_S) := some σ
noncomputable def bc_X5_emptyArea_2 (a : Nat) (x1 : Int32) (x2 : Int32) (σ : cl_S) : Option (cl_S) := (lp (fun z : (Int32 × cl_S) => lc_X5_emptyArea_2 a x1 z.1 z.2) (x2, σ)).bind (fun z => ec_X5_emptyArea_2 a x1 z.1 z.2)
set_option maxHeartbeats 4000000 in
theorem wc_X5_emptyArea_2 (C : cl_C D p s m args meth c cX5_emptyArea 3 none RX5) {a : Nat} {x1 : Int32} {x2 : Int32} {σ0 σ σ' : cl_S} {T : Nat → Nat × Nat} {H : Heap} {locs : List Loc} {ls : Array Slot} {cells slots : Nat} (h : bc_X5_emptyArea_2 a x1 x2 σ = some σ') (G : cl_G true D c0 ({ frames := 2, cells := σ0.2.2.2.2.2.1, slots := σ0.2.2.2.2.2.2, locals := 44 }) s σ0.2.2.2.1 T σ H locs cells slots) (ha : (T a).1 = 21) (hl : lv_has ls 3 [(0, .ref (c0 + a)), (1, .int x1), (2, .int x2)]) : W p l e ({ frames := 2, cells := σ0.2.2.2.2.2.1, slots := σ0.2.2.2.2.2.2, locals := 44 }) s m args below meth c H locs cells slots (MQ below (cl_Q true D c0 none cl_no σ0 σ') args s (σ0.2.2.2.2.2.1 - σ'.2.2.2.2.2.1) (σ0.2.2.2.2.2.2 - σ'.2.2.2.2.2.2) (cl_A c0 σ0.2.2.2.1 s.heap.size)) (F0 m 2 ls []) := by
  unfold bc_X5_emptyArea_2 at h
  obtain ⟨y, hy, h⟩ := bd_some h
  have hE : (fun z : (Int32 × cl_S) => ∀ (T : Nat → Nat × Nat) (H : Heap) (locs : List Loc) (ls : Array Slot) (cells slots : Nat), cl_G true D c0 ({ frames := 2, cells := σ0.2.2.2.2.2.1, slots := σ0.2.2.2.2.2.2, locals := 44 }) s σ0.2.2.2.1 T z.2 H locs cells slots → (T a).1 = 21 → lv_has ls 3 [(0, .ref (c0 + a)), (1, .int x1), (2, .int (z.1))] → W p l e ({ frames := 2, cells := σ0.2.2.2.2.2.1, slots := σ0.2.2.2.2.2.2, locals := 44 }) s m args below meth c H locs cells slots (MQ below (cl_Q true D c0 none cl_no σ0 σ') args s (σ0.2.2.2.2.2.1 - σ'.2.2.2.2.2.1) (σ0.2.2.2.2.2.2 - σ'.2.2.2.2.2.2) (cl_A c0 σ0.2.2.2.1 s.heap.size)) (F0 m 49 ls [])) y := by
    clear hy G ha hl
    intro T H locs ls cells slots G ha hl
    obtain ⟨x2, σ⟩ := y
    dsimp only at h G ha hl
    unfold ec_X5_emptyArea_2 at h
    exact cl_vret ⟨rfl, rfl⟩ rfl C G h dX5_emptyArea_49
  refine lp_recE (fun z : (Int32 × cl_S) => ∀ (T : Nat → Nat × Nat) (H : Heap) (locs : List Loc) (ls : Array Slot) (cells slots : Nat), cl_G true D c0 ({ frames := 2, cells := σ0.2.2.2.2.2.1, slots := σ0.2.2.2.2.2.2, locals := 44 }) s σ0.2.2.2.1 T z.2 H locs cells slots → (T a).1 = 21 → lv_has ls 3 [(0, .ref (c0 + a)), (1, .int x1), (2, .int (z.1))] → W p l e ({ frames := 2, cells := σ0.2.2.2.2.2.1, slots := σ0.2.2.2.2.2.2, locals := 44 }) s m args below meth c H locs cells slots (MQ below (cl_Q true D c0 none cl_no σ0 σ') args s (σ0.2.2.2.2.2.1 - σ'.2.2.2.2.2.1) (σ0.2.2.2.2.2.2 - σ'.2.2.2.2.2.2) (cl_A c0 σ0.2.2.2.1 s.heap.size)) (F0 m 2 ls [])) (fun z : (Int32 × cl_S) => ∀ (T : Nat → Nat × Nat) (H : Heap) (locs : List Loc) (ls : Array Slot) (cells slots : Nat), cl_G true D c0 ({ frames := 2, cells := σ0.2.2.2.2.2.1, slots := σ0.2.2.2.2.2.2, locals := 44 }) s σ0.2.2.2.1 T z.2 H locs cells slots → (T a).1 = 21 → lv_has ls 3 [(0, .ref (c0 + a)), (1, .int x1), (2, .int (z.1))] → W p l e ({ frames := 2, cells := σ0.2.2.2.2.2.1, slots := σ0.2.2.2.2.2.2, locals := 44 }) s m args below meth c H locs cells slots (MQ below (cl_Q true D c0 none cl_no σ0 σ') args s (σ0.2.2.2.2.2.1 - σ'.2.2.2.2.2.1) (σ0.2.2.2.2.2.2 - σ'.2.2.2.2.2.2) (cl_A c0 σ0.2.2.2.1 s.heap.size)) (F0 m 49 ls [])) ?_ _ _ hy hE _ _ _ _ _ _ G ha hl
  clear hE hy G ha hl h
  intro z o h hP T H locs ls cells slots G ha hl
  obtain ⟨x2, σ⟩ := z
  dsimp only at h G ha hl
  unfold lc_X5_emptyArea_2 at h
  refine lv_iload_n C.1 C.2.1 dX5_emptyArea_2 rfl (lv_at hl 2 rfl) ?_
  refine lv_aload_n C.1 C.2.1 dX5_emptyArea_3 rfl (lv_at hl 0 rfl) ?_
  refine cg_5_12 C G ha dX5_emptyArea_4 (fun t_2 => ?_)
  refine vt_r (K := 17) t_2 h (fun r_3 t_4 h_5 => ?_)
  obtain ⟨a_6, rfl, h_8⟩ := nn_some h_5
  have t_7 := t_4 _ rfl
  refine cg_5_151 C G t_7 dX5_emptyArea_7 (fun t_9 => ?_)
  refine lv_iload_n C.1 C.2.1 dX5_emptyArea_10 rfl (lv_at hl 1 rfl) ?_
  obtain ⟨hi, h_10⟩ := ix_some h_8
  refine cl_iald C G t_9 hi dX5_emptyArea_11 ?_
  refine lv_icmp_ge (tgt := 49) C.1 C.2.1 dX5_emptyArea_12 (by decide) (fun hc => ?_) (fun hc => ?_)
  · rw [if_pos hc] at h_10
    cases h_10
    exact hP _ _ _ _ _ _ G ha (lv_sub hl [0, 1, 2] rfl)
  · rw [if_neg hc] at h_10
    refine lv_aload_n C.1 C.2.1 dX5_emptyArea_15 rfl (lv_at hl 0 rfl) ?_
    refine cg_5_55 C G ha dX5_emptyArea_16 (fun t_11 => ?_)
    refine vt_r (K := 19) t_11 h_10 (fun r_12 t_13 h_14 => ?_)
    refine lv_aload_n C.1 C.2.1 dX5_emptyArea_19 rfl (lv_at hl 0 rfl) ?_
    refine lv_iload_n C.1 C.2.1 dX5_emptyArea_20 rfl (lv_at hl 1 rfl) ?_
    refine lv_iload_n C.1 C.2.1 dX5_emptyArea_21 rfl (lv_at hl 2 rfl) ?_
    obtain ⟨r_16, σ_15, hq, h_17⟩ := bd2_some h_14
    refine cl_callV (ci := 5) (rest := [cl_rf c0 r_12]) C G rfl ha cw_RX5_154 [.int x1, .int x2] _ (kc_X5_firstCopy l D c0 (by rw [G.1]; exact ha) hq) (Nat.le_of_ble_eq_true rfl) (Nat.le_of_ble_eq_true rfl) rfl rfl hl.1 (by cases r_12 <;> exact Nat.le_of_ble_eq_true rfl) dX5_emptyArea_22 (fun T_18 H locs cells slots t_19 hu G_20 => ?_)
    have ha := hu.kind ha (by decide)
    have t_13 := t_13.up hu (by decide)
    refine W.eq (g2 := F0 m 25 ls [.int r_16, cl_rf c0 r_12]) rfl ?_
    obtain ⟨a_21, rfl, h_23⟩ := nn_some h_17
    have t_22 := t_13 _ rfl
    obtain ⟨σ_24, hq, h_25⟩ := bd1_some h_23
    refine cl_callV (ci := 3) (rest := []) C G_20 rfl t_22 cw_RX5_158 [.int r_16] _ (kc_X3_empty l D c0 (by rw [G_20.1]; exact t_22) hq) (Nat.le_of_ble_eq_true rfl) (Nat.le_of_ble_eq_true rfl) rfl rfl hl.1 (Nat.le_of_ble_eq_true rfl) dX5_emptyArea_25 (fun T_26 H locs cells slots t_27 hu G_28 => ?_)
    have ha := hu.kind ha (by decide)
    refine W.eq (g2 := F0 m 28 ls []) rfl ?_
    refine lv_aload_n C.1 C.2.1 dX5_emptyArea_28 rfl (lv_at hl 0 rfl) ?_
    refine cg_5_55 C G_28 ha dX5_emptyArea_29 (fun t_29 => ?_)
    refine vt_r (K := 19) t_29 h_25 (fun r_30 t_31 h_32 => ?_)
    refine lv_aload_n C.1 C.2.1 dX5_emptyArea_32 rfl (lv_at hl 0 rfl) ?_
    refine lv_iload_n C.1 C.2.1 dX5_emptyArea_33 rfl (lv_at hl 1 rfl) ?_
    refine lv_iload_n C.1 C.2.1 dX5_emptyArea_34 rfl (lv_at hl 2 rfl) ?_
    obtain ⟨r_34, σ_33, hq, h_35⟩ := bd2_some h_32
    refine cl_callV (ci := 5) (rest := [cl_rf c0 r_30]) C G_28 rfl ha cw_RX5_154 [.int x1, .int x2] _ (kc_X5_firstCopy l D c0 (by rw [G_28.1]; exact ha) hq) (Nat.le_of_ble_eq_true rfl) (Nat.le_of_ble_eq_true rfl) rfl rfl hl.1 (by cases r_30 <;> exact Nat.le_of_ble_eq_true rfl) dX5_emptyArea_35 (fun T_36 H locs cells slots t_37 hu G_38 => ?_)
    have ha := hu.kind ha (by decide)
    have t_31 := t_31.up hu (by decide)
    refine W.eq (g2 := F0 m 38 ls [.int r_34, cl_rf c0 r_30]) rfl ?_
    refine lv_iconst (v := (1:Int32)) C.1 C.2.1 dX5_emptyArea_38 (by decide) ?_
    refine lv_iadd C.1 C.2.1 dX5_emptyArea_39 ?_
    obtain ⟨a_39, rfl, h_41⟩ := nn_some h_35
    have t_40 := t_31 _ rfl
    obtain ⟨σ_42, hq, h_43⟩ := bd1_some h_41
    refine cl_callV (ci := 3) (rest := []) C G_38 rfl t_40 cw_RX5_158 [.int (r_34 + (1:Int32))] _ (kc_X3_empty l D c0 (by rw [G_38.1]; exact t_40) hq) (Nat.le_of_ble_eq_true rfl) (Nat.le_of_ble_eq_true rfl) rfl rfl hl.1 (Nat.le_of_ble_eq_true rfl) dX5_emptyArea_40 (fun T_44 H locs cells slots t_45 hu G_46 => ?_)
    have ha := hu.kind ha (by decide)
    refine W.eq (g2 := F0 m 43 ls []) rfl ?_
    refine vl_ex h_43 (fun x2_47 ey h_48 => ?_)
    refine lv_iinc (v := x2_47) (lv' := [(2, .int x2_47), (0, .ref (c0 + a)), (1, .int x1)]) C.1 C.2.1 dX5_emptyArea_43 hl (k := 2) rfl (by rw [ey]; rfl) (by decide) rfl (fun ls hl_49 => ?_)
    refine lv_goto (tgt := 2) C.1 C.2.1 dX5_emptyArea_46 (by decide) ?_
    cases h_48
    exact hP _ _ _ _ _ _ G_46 ha (lv_sub hl_49 [1, 2, 0] rfl)
noncomputable def bc_X5_emptyArea_0 (a : Nat) (x1 : Int32) (σ : cl_S) : Option (cl_S) := bc_X5_emptyArea_2 a x1 (0:Int32) σ
set_option maxHeartbeats 4000000 in
theorem wc_X5_emptyArea_0 (C : cl_C D p s m args meth c cX5_emptyArea 3 none RX5) {a : Nat} {x1 : Int32} {σ0 σ σ' : cl_S} {T : Nat → Nat × Nat} {H : Heap} {locs : List Loc} {ls : Array Slot} {cells slots : Nat} (h : bc_X5_emptyArea_0 a x1 σ = some σ') (G : cl_G true D c0 ({ frames := 2, cells := σ0.2.2.2.2.2.1, slots := σ0.2.2.2.2.2.2, locals := 44 }) s σ0.2.2.2.1 T σ H locs cells slots) (ha : (T a).1 = 21) (hl : lv_has ls 3 [(0, .ref (c0 + a)), (1, .int x1)]) : W p l e ({ frames := 2, cells := σ0.2.2.2.2.2.1, slots := σ0.2.2.2.2.2.2, locals := 44 }) s m args below meth c H locs cells slots (MQ below (cl_Q true D c0 none cl_no σ0 σ') args s (σ0.2.2.2.2.2.1 - σ'.2.2.2.2.2.1) (σ0.2.2.2.2.2.2 - σ'.2.2.2.2.2.2) (cl_A c0 σ0.2.2.2.1 s.heap.size)) (F0 m 0 ls []) := by
  unfold bc_X5_emptyArea_0 at h
  refine lv_iconst (v := (0:Int32)) C.1 C.2.1 dX5_emptyArea_0 (by decide) ?_
  refine lv_istore_n (lv' := [(2, .int (0:Int32)), (0, .ref (c0 + a)), (1, .int x1)]) C.1 C.2.1 dX5_emptyArea_1 rfl hl (by decide) rfl (fun ls hl_1 => ?_)
  exact wc_X5_emptyArea_2 C h G ha (lv_sub hl_1 [1, 2, 0] rfl)
noncomputable def fc_X5_emptyArea (a : Nat) (x1 : Int32) (σ : cl_S) : Option (cl_S) := bc_X5_emptyArea_0 a x1 σ
theorem kc_X5_emptyArea (l : Launch) (D : cl_D) (c0 : Nat) {a : Nat} {x1 : Int32} {σ σ' : cl_S} (ha : (σ.2.2.2.1 a).1 = 21) (h : fc_X5_emptyArea a x1 σ = some σ') : cl_Met true l D c0 yX5_emptyArea cX5_emptyArea 3 none 2 44 [.ref (c0 + a), .int x1] σ none cl_no σ' :=
  cl_of (by decide) (Nat.le_of_ble_eq_true rfl) (fun p e s m args below meth c ls C hn G hl => wc_X5_emptyArea_0 C h G ha hl)
abbrev cX5_pass : ByteArray := prog_7_method_9_code
def yX5_pass : MethodName := ⟨RX5, "pass", "(I)I"⟩
theorem dX5_pass_0 : decode cX5_pass 0 = .ok (.aload_n 0, 1) := by decide +kernel
theorem dX5_pass_1 : decode cX5_pass 1 = .ok (.dup, 1) := by decide +kernel
theorem dX5_pass_2 : decode cX5_pass 2 = .ok (.getfield 89, 3) := by decide +kernel
theorem dX5_pass_5 : decode cX5_pass 5 = .ok (.iload_n 1, 1) := by decide +kernel
theorem dX5_pass_6 : decode cX5_pass 6 = .ok (.iadd, 1) := by decide +kernel
theorem dX5_pass_7 : decode cX5_pass 7 = .ok (.putfield 89, 3) := by decide +kernel
theorem dX5_pass_10 : decode cX5_pass 10 = .ok (.aload_n 0, 1) := by decide +kernel
theorem dX5_pass_11 : decode cX5_pass 11 = .ok (.dup, 1) := by decide +kernel
theorem dX5_pass_12 : decode cX5_pass 12 = .ok (.getfield 95, 3) := by decide +kernel
theorem dX5_pass_15 : decode cX5_pass 15 = .ok (.iload_n 1, 1) := by decide +kernel
theorem dX5_pass_16 : decode cX5_pass 16 = .ok (.iadd, 1) := by decide +kernel
theorem dX5_pass_17 : decode cX5_pass 17 = .ok (.putfield 95, 3) := by decide +kernel
theorem dX5_pass_20 : decode cX5_pass 20 = .ok (.aload_n 0, 1) := by decide +kernel
theorem dX5_pass_21 : decode cX5_pass 21 = .ok (.getfield 95, 3) := by decide +kernel
theorem dX5_pass_24 : decode cX5_pass 24 = .ok (.aload_n 0, 1) := by decide +kernel
theorem dX5_pass_25 : decode cX5_pass 25 = .ok (.getfield 12, 3) := by decide +kernel
theorem dX5_pass_28 : decode cX5_pass 28 = .ok (.getfield 167, 3) := by decide +kernel
theorem dX5_pass_31 : decode cX5_pass 31 = .ok (.aload_n 0, 1) := by decide +kernel
theorem dX5_pass_32 : decode cX5_pass 32 = .ok (.getfield 92, 3) := by decide +kernel
theorem dX5_pass_35 : decode cX5_pass 35 = .ok (.iaload, 1) := by decide +kernel
theorem dX5_pass_36 : decode cX5_pass 36 = .ok (.if_icmp .lt 43, 3) := by decide +kernel
theorem dX5_pass_39 : decode cX5_pass 39 = .ok (.aload_n 0, 1) := by decide +kernel
theorem dX5_pass_40 : decode cX5_pass 40 = .ok (.iconst 0, 1) := by decide +kernel
theorem dX5_pass_41 : decode cX5_pass 41 = .ok (.putfield 95, 3) := by decide +kernel
theorem dX5_pass_44 : decode cX5_pass 44 = .ok (.aload_n 0, 1) := by decide +kernel
theorem dX5_pass_45 : decode cX5_pass 45 = .ok (.iconst 0, 1) := by decide +kernel
theorem dX5_pass_46 : decode cX5_pass 46 = .ok (.putfield 98, 3) := by decide +kernel
theorem dX5_pass_49 : decode cX5_pass 49 = .ok (.aload_n 0, 1) := by decide +kernel
theorem dX5_pass_50 : decode cX5_pass 50 = .ok (.aload_n 0, 1) := by decide +kernel
theorem dX5_pass_51 : decode cX5_pass 51 = .ok (.getfield 92, 3) := by decide +kernel
theorem dX5_pass_54 : decode cX5_pass 54 = .ok (.iconst 1, 1) := by decide +kernel
theorem dX5_pass_55 : decode cX5_pass 55 = .ok (.iadd, 1) := by decide +kernel
theorem dX5_pass_56 : decode cX5_pass 56 = .ok (.aload_n 0, 1) := by decide +kernel
theorem dX5_pass_57 : decode cX5_pass 57 = .ok (.getfield 12, 3) := by decide +kernel
theorem dX5_pass_60 : decode cX5_pass 60 = .ok (.getfield 190, 3) := by decide +kernel
theorem dX5_pass_63 : decode cX5_pass 63 = .ok (.if_icmp .ge 12, 3) := by decide +kernel
theorem dX5_pass_66 : decode cX5_pass 66 = .ok (.aload_n 0, 1) := by decide +kernel
theorem dX5_pass_67 : decode cX5_pass 67 = .ok (.getfield 92, 3) := by decide +kernel
theorem dX5_pass_70 : decode cX5_pass 70 = .ok (.iconst 1, 1) := by decide +kernel
theorem dX5_pass_71 : decode cX5_pass 71 = .ok (.iadd, 1) := by decide +kernel
theorem dX5_pass_72 : decode cX5_pass 72 = .ok (.goto 4, 3) := by decide +kernel
theorem dX5_pass_75 : decode cX5_pass 75 = .ok (.iconst 0, 1) := by decide +kernel
theorem dX5_pass_76 : decode cX5_pass 76 = .ok (.putfield 92, 3) := by decide +kernel
theorem dX5_pass_79 : decode cX5_pass 79 = .ok (.iload_n 1, 1) := by decide +kernel
theorem dX5_pass_80 : decode cX5_pass 80 = .ok (.ireturn, 1) := by decide +kernel
theorem cc_X5_pass : Cond.code yX5_pass cX5_pass 2 (some .int) ∈ rf_tb := rf_at 1112 (by decide +kernel) (by decide +kernel)
noncomputable def bc_X5_pass_76 (x1 : Int32) (v0 : (Option Nat)) (v1 : Int32) (σ : cl_S) : Option (Int32 × cl_S) := nn v0 (fun a_33 => vl (cl_w σ a_33 10 v1) (fun σ_36 => some (x1, σ_36)))
set_option maxHeartbeats 4000000 in
theorem wc_X5_pass_76 (C : cl_C D p s m args meth c cX5_pass 2 (some .int) RX5) {r : Int32} {x1 : Int32} {v0 : (Option Nat)} {v1 : Int32} {σ0 σ σ' : cl_S} {T : Nat → Nat × Nat} {H : Heap} {locs : List Loc} {ls : Array Slot} {cells slots : Nat} (h : bc_X5_pass_76 x1 v0 v1 σ = some (r, σ')) (G : cl_G true D c0 ({ frames := 0, cells := σ0.2.2.2.2.2.1, slots := σ0.2.2.2.2.2.2, locals := 0 }) s σ0.2.2.2.1 T σ H locs cells slots) (g0 : cl_RT T v0 21) (hl : lv_has ls 2 [(1, .int x1)]) : W p l e ({ frames := 0, cells := σ0.2.2.2.2.2.1, slots := σ0.2.2.2.2.2.2, locals := 0 }) s m args below meth c H locs cells slots (MQ below (cl_Q true D c0 (some (.int r)) cl_no σ0 σ') args s (σ0.2.2.2.2.2.1 - σ'.2.2.2.2.2.1) (σ0.2.2.2.2.2.2 - σ'.2.2.2.2.2.2) (cl_A c0 σ0.2.2.2.1 s.heap.size)) (F0 m 76 ls [.int v1, cl_rf c0 v0]) := by
  unfold bc_X5_pass_76 at h
  obtain ⟨a_33, rfl, h_35⟩ := nn_some h
  have t_34 := g0 _ rfl
  refine cp_5_92 C G t_34 dX5_pass_76 (fun H locs G_37 => ?_)
  refine cl_nm G_37 h_35 (fun σ_36 G_38 h_39 => ?_)
  refine lv_iload_n C.1 C.2.1 dX5_pass_79 rfl (lv_at hl 0 rfl) ?_
  exact cl_iret ⟨rfl, rfl⟩ rfl C G_38 h_39 dX5_pass_80
noncomputable def bc_X5_pass_0 (a : Nat) (x1 : Int32) (σ : cl_S) : Option (Int32 × cl_S) := vl (cl_w σ a 9 ((σ.1 a 9) + x1)) (fun σ_1 => vl (cl_w σ_1 a 11 ((σ_1.1 a 11) + x1)) (fun σ_5 => vl (σ_5.2.2.1 a 3) (fun r_10 => nn r_10 (fun a_13 => ix (σ_5.1 a 10) 32 ((if (σ_5.1 a 11) < (σ_5.1 (a_13 + 9) (σ_5.1 a 10).toNatClampNeg) then some (x1, σ_5) else vl (cl_w σ_5 a 11 (0:Int32)) (fun σ_18 => vl (cl_w σ_18 a 12 (0:Int32)) (fun σ_22 => vl (σ_22.2.2.1 a 3) (fun r_27 => nn r_27 (fun a_30 => (if (σ_22.1 a_30 9) ≤ ((σ_22.1 a 10) + (1:Int32)) then bc_X5_pass_76 x1 (some a) (0:Int32) σ_22 else bc_X5_pass_76 x1 (some a) ((σ_22.1 a 10) + (1:Int32)) σ_22)))))))))))
set_option maxHeartbeats 4000000 in
theorem wc_X5_pass_0 (C : cl_C D p s m args meth c cX5_pass 2 (some .int) RX5) {r : Int32} {a : Nat} {x1 : Int32} {σ0 σ σ' : cl_S} {T : Nat → Nat × Nat} {H : Heap} {locs : List Loc} {ls : Array Slot} {cells slots : Nat} (h : bc_X5_pass_0 a x1 σ = some (r, σ')) (G : cl_G true D c0 ({ frames := 0, cells := σ0.2.2.2.2.2.1, slots := σ0.2.2.2.2.2.2, locals := 0 }) s σ0.2.2.2.1 T σ H locs cells slots) (ha : (T a).1 = 21) (hl : lv_has ls 2 [(0, .ref (c0 + a)), (1, .int x1)]) : W p l e ({ frames := 0, cells := σ0.2.2.2.2.2.1, slots := σ0.2.2.2.2.2.2, locals := 0 }) s m args below meth c H locs cells slots (MQ below (cl_Q true D c0 (some (.int r)) cl_no σ0 σ') args s (σ0.2.2.2.2.2.1 - σ'.2.2.2.2.2.1) (σ0.2.2.2.2.2.2 - σ'.2.2.2.2.2.2) (cl_A c0 σ0.2.2.2.1 s.heap.size)) (F0 m 0 ls []) := by
  unfold bc_X5_pass_0 at h
  refine lv_aload_n C.1 C.2.1 dX5_pass_0 rfl (lv_at hl 0 rfl) ?_
  refine lv_dup C.1 C.2.1 dX5_pass_1 rfl ?_
  refine cg_5_89 C G ha dX5_pass_2 ?_
  refine lv_iload_n C.1 C.2.1 dX5_pass_5 rfl (lv_at hl 1 rfl) ?_
  refine lv_iadd C.1 C.2.1 dX5_pass_6 ?_
  refine cp_5_89 C G ha dX5_pass_7 (fun H locs G_2 => ?_)
  refine cl_nm G_2 h (fun σ_1 G_3 h_4 => ?_)
  refine lv_aload_n C.1 C.2.1 dX5_pass_10 rfl (lv_at hl 0 rfl) ?_
  refine lv_dup C.1 C.2.1 dX5_pass_11 rfl ?_
  refine cg_5_95 C G_3 ha dX5_pass_12 ?_
  refine lv_iload_n C.1 C.2.1 dX5_pass_15 rfl (lv_at hl 1 rfl) ?_
  refine lv_iadd C.1 C.2.1 dX5_pass_16 ?_
  refine cp_5_95 C G_3 ha dX5_pass_17 (fun H locs G_6 => ?_)
  refine cl_nm G_6 h_4 (fun σ_5 G_7 h_8 => ?_)
  refine lv_aload_n C.1 C.2.1 dX5_pass_20 rfl (lv_at hl 0 rfl) ?_
  refine cg_5_95 C G_7 ha dX5_pass_21 ?_
  refine lv_aload_n C.1 C.2.1 dX5_pass_24 rfl (lv_at hl 0 rfl) ?_
  refine cg_5_12 C G_7 ha dX5_pass_25 (fun t_9 => ?_)
  refine vt_r (K := 17) t_9 h_8 (fun r_10 t_11 h_12 => ?_)
  obtain ⟨a_13, rfl, h_15⟩ := nn_some h_12
  have t_14 := t_11 _ rfl
  refine cg_5_167 C G_7 t_14 dX5_pass_28 (fun t_16 => ?_)
  refine lv_aload_n C.1 C.2.1 dX5_pass_31 rfl (lv_at hl 0 rfl) ?_
  refine cg_5_92 C G_7 ha dX5_pass_32 ?_
  obtain ⟨hi, h_17⟩ := ix_some h_15
  refine cl_iald C G_7 t_16 hi dX5_pass_35 ?_
  refine lv_icmp_lt (tgt := 79) C.1 C.2.1 dX5_pass_36 (by decide) (fun hc => ?_) (fun hc => ?_)
  · rw [if_pos hc] at h_17
    refine lv_iload_n C.1 C.2.1 dX5_pass_79 rfl (lv_at hl 1 rfl) ?_
    exact cl_iret ⟨rfl, rfl⟩ rfl C G_7 h_17 dX5_pass_80
  · rw [if_neg hc] at h_17
    refine lv_aload_n C.1 C.2.1 dX5_pass_39 rfl (lv_at hl 0 rfl) ?_
    refine lv_iconst (v := (0:Int32)) C.1 C.2.1 dX5_pass_40 (by decide) ?_
    refine cp_5_95 C G_7 ha dX5_pass_41 (fun H locs G_19 => ?_)
    refine cl_nm G_19 h_17 (fun σ_18 G_20 h_21 => ?_)
    refine lv_aload_n C.1 C.2.1 dX5_pass_44 rfl (lv_at hl 0 rfl) ?_
    refine lv_iconst (v := (0:Int32)) C.1 C.2.1 dX5_pass_45 (by decide) ?_
    refine cp_5_98 C G_20 ha rfl rfl dX5_pass_46 (fun H locs G_23 => ?_)
    refine cl_nm G_23 h_21 (fun σ_22 G_24 h_25 => ?_)
    refine lv_aload_n C.1 C.2.1 dX5_pass_49 rfl (lv_at hl 0 rfl) ?_
    refine lv_aload_n C.1 C.2.1 dX5_pass_50 rfl (lv_at hl 0 rfl) ?_
    refine cg_5_92 C G_24 ha dX5_pass_51 ?_
    refine lv_iconst (v := (1:Int32)) C.1 C.2.1 dX5_pass_54 (by decide) ?_
    refine lv_iadd C.1 C.2.1 dX5_pass_55 ?_
    refine lv_aload_n C.1 C.2.1 dX5_pass_56 rfl (lv_at hl 0 rfl) ?_
    refine cg_5_12 C G_24 ha dX5_pass_57 (fun t_26 => ?_)
    refine vt_r (K := 17) t_26 h_25 (fun r_27 t_28 h_29 => ?_)
    obtain ⟨a_30, rfl, h_32⟩ := nn_some h_29
    have t_31 := t_28 _ rfl
    refine cg_5_190 C G_24 t_31 dX5_pass_60 ?_
    refine lv_icmp_ge (tgt := 75) C.1 C.2.1 dX5_pass_63 (by decide) (fun hc => ?_) (fun hc => ?_)
    · rw [if_pos hc] at h_32
      refine lv_iconst (v := (0:Int32)) C.1 C.2.1 dX5_pass_75 (by decide) ?_
      exact wc_X5_pass_76 C h_32 G_24 (cl_RTs ha) (lv_sub hl [1] rfl)
    · rw [if_neg hc] at h_32
      refine lv_aload_n C.1 C.2.1 dX5_pass_66 rfl (lv_at hl 0 rfl) ?_
      refine cg_5_92 C G_24 ha dX5_pass_67 ?_
      refine lv_iconst (v := (1:Int32)) C.1 C.2.1 dX5_pass_70 (by decide) ?_
      refine lv_iadd C.1 C.2.1 dX5_pass_71 ?_
      refine lv_goto (tgt := 76) C.1 C.2.1 dX5_pass_72 (by decide) ?_
      exact wc_X5_pass_76 C h_32 G_24 (cl_RTs ha) (lv_sub hl [1] rfl)
noncomputable def fc_X5_pass (a : Nat) (x1 : Int32) (σ : cl_S) : Option (Int32 × cl_S) := bc_X5_pass_0 a x1 σ
theorem kc_X5_pass (l : Launch) (D : cl_D) (c0 : Nat) {r : Int32} {a : Nat} {x1 : Int32} {σ σ' : cl_S} (ha : (σ.2.2.2.1 a).1 = 21) (h : fc_X5_pass a x1 σ = some (r, σ')) : cl_Met true l D c0 yX5_pass cX5_pass 2 (some .int) 0 0 [.ref (c0 + a), .int x1] σ (some (.int r)) cl_no σ' :=
  cl_of (by decide) (Nat.le_of_ble_eq_true rfl) (fun p e s m args below meth c ls C hn G hl => wc_X5_pass_0 C h G ha hl)
abbrev cX8_has : ByteArray := prog_10_method_3_code
def yX8_has : MethodName := ⟨RX8, "has", "(I)Z"⟩
theorem dX8_has_0 : decode cX8_has 0 = .ok (.iload_n 1, 1) := by decide +kernel
theorem dX8_has_1 : decode cX8_has 1 = .ok (.iconst 1, 1) := by decide +kernel
theorem dX8_has_2 : decode cX8_has 2 = .ok (.if_icmp .lt 15, 3) := by decide +kernel
theorem dX8_has_5 : decode cX8_has 5 = .ok (.iload_n 1, 1) := by decide +kernel
theorem dX8_has_6 : decode cX8_has 6 = .ok (.aload_n 0, 1) := by decide +kernel
theorem dX8_has_7 : decode cX8_has 7 = .ok (.getfield 33, 3) := by decide +kernel
theorem dX8_has_10 : decode cX8_has 10 = .ok (.if_icmp .gt 7, 3) := by decide +kernel
theorem dX8_has_13 : decode cX8_has 13 = .ok (.iconst 1, 1) := by decide +kernel
theorem dX8_has_14 : decode cX8_has 14 = .ok (.goto 4, 3) := by decide +kernel
theorem dX8_has_17 : decode cX8_has 17 = .ok (.iconst 0, 1) := by decide +kernel
theorem dX8_has_18 : decode cX8_has 18 = .ok (.ireturn, 1) := by decide +kernel
theorem cc_X8_has : Cond.code yX8_has cX8_has 2 (some .boolean) ∈ rf_tb := rf_at 1166 (by decide +kernel) (by decide +kernel)
noncomputable def bc_X8_has_0 (a : Nat) (x1 : Int32) (σ : cl_S) : Option (Int32 × cl_S) := (if x1 < (1:Int32) then some ((0:Int32), σ) else (if (σ.1 a 5) < x1 then some ((0:Int32), σ) else some ((1:Int32), σ)))
set_option maxHeartbeats 4000000 in
theorem wc_X8_has_0 (C : cl_C D p s m args meth c cX8_has 2 (some .boolean) RX8) {r : Int32} {a : Nat} {x1 : Int32} {σ0 σ σ' : cl_S} {T : Nat → Nat × Nat} {H : Heap} {locs : List Loc} {ls : Array Slot} {cells slots : Nat} (h : bc_X8_has_0 a x1 σ = some (r, σ')) (G : cl_G true D c0 ({ frames := 0, cells := σ0.2.2.2.2.2.1, slots := σ0.2.2.2.2.2.2, locals := 0 }) s σ0.2.2.2.1 T σ H locs cells slots) (ha : (T a).1 = 24) (hl : lv_has ls 2 [(0, .ref (c0 + a)), (1, .int x1)]) : W p l e ({ frames := 0, cells := σ0.2.2.2.2.2.1, slots := σ0.2.2.2.2.2.2, locals := 0 }) s m args below meth c H locs cells slots (MQ below (cl_Q true D c0 (some (.int r)) cl_no σ0 σ') args s (σ0.2.2.2.2.2.1 - σ'.2.2.2.2.2.1) (σ0.2.2.2.2.2.2 - σ'.2.2.2.2.2.2) (cl_A c0 σ0.2.2.2.1 s.heap.size)) (F0 m 0 ls []) := by
  unfold bc_X8_has_0 at h
  refine lv_iload_n C.1 C.2.1 dX8_has_0 rfl (lv_at hl 1 rfl) ?_
  refine lv_iconst (v := (1:Int32)) C.1 C.2.1 dX8_has_1 (by decide) ?_
  refine lv_icmp_lt (tgt := 17) C.1 C.2.1 dX8_has_2 (by decide) (fun hc => ?_) (fun hc => ?_)
  · rw [if_pos hc] at h
    refine lv_iconst (v := (0:Int32)) C.1 C.2.1 dX8_has_17 (by decide) ?_
    exact cl_zret ⟨rfl, rfl⟩ rfl C G h rfl dX8_has_18
  · rw [if_neg hc] at h
    refine lv_iload_n C.1 C.2.1 dX8_has_5 rfl (lv_at hl 1 rfl) ?_
    refine lv_aload_n C.1 C.2.1 dX8_has_6 rfl (lv_at hl 0 rfl) ?_
    refine cg_8_33 C G ha dX8_has_7 ?_
    refine lv_icmp_gt (tgt := 17) C.1 C.2.1 dX8_has_10 (by decide) (fun hc => ?_) (fun hc => ?_)
    · rw [if_pos hc] at h
      refine lv_iconst (v := (0:Int32)) C.1 C.2.1 dX8_has_17 (by decide) ?_
      exact cl_zret ⟨rfl, rfl⟩ rfl C G h rfl dX8_has_18
    · rw [if_neg hc] at h
      refine lv_iconst (v := (1:Int32)) C.1 C.2.1 dX8_has_13 (by decide) ?_
      refine lv_goto (tgt := 18) C.1 C.2.1 dX8_has_14 (by decide) ?_
      exact cl_zret ⟨rfl, rfl⟩ rfl C G h rfl dX8_has_18
noncomputable def fc_X8_has (a : Nat) (x1 : Int32) (σ : cl_S) : Option (Int32 × cl_S) := bc_X8_has_0 a x1 σ
theorem kc_X8_has (l : Launch) (D : cl_D) (c0 : Nat) {r : Int32} {a : Nat} {x1 : Int32} {σ σ' : cl_S} (ha : (σ.2.2.2.1 a).1 = 24) (h : fc_X8_has a x1 σ = some (r, σ')) : cl_Met true l D c0 yX8_has cX8_has 2 (some .boolean) 0 0 [.ref (c0 + a), .int x1] σ (some (.int r)) cl_no σ' :=
  cl_of (by decide) (Nat.le_of_ble_eq_true rfl) (fun p e s m args below meth c ls C hn G hl => wc_X8_has_0 C h G ha hl)
abbrev cX8_at : ByteArray := prog_10_method_5_code
def yX8_at : MethodName := ⟨RX8, "at", "(I)LPartHouse$Term;"⟩
theorem dX8_at_0 : decode cX8_at 0 = .ok (.aload_n 0, 1) := by decide +kernel
theorem dX8_at_1 : decode cX8_at 1 = .ok (.iload_n 1, 1) := by decide +kernel
theorem dX8_at_2 : decode cX8_at 2 = .ok (.invokevirtual 42, 3) := by decide +kernel
theorem dX8_at_5 : decode cX8_at 5 = .ok (.ifCond .eq 12, 3) := by decide +kernel
theorem dX8_at_8 : decode cX8_at 8 = .ok (.aload_n 0, 1) := by decide +kernel
theorem dX8_at_9 : decode cX8_at 9 = .ok (.getfield 25, 3) := by decide +kernel
theorem dX8_at_12 : decode cX8_at 12 = .ok (.iload_n 1, 1) := by decide +kernel
theorem dX8_at_13 : decode cX8_at 13 = .ok (.aaload, 1) := by decide +kernel
theorem dX8_at_14 : decode cX8_at 14 = .ok (.goto 10, 3) := by decide +kernel
theorem dX8_at_17 : decode cX8_at 17 = .ok (.aload_n 0, 1) := by decide +kernel
theorem dX8_at_18 : decode cX8_at 18 = .ok (.getfield 9, 3) := by decide +kernel
theorem dX8_at_21 : decode cX8_at 21 = .ok (.getfield 46, 3) := by decide +kernel
theorem dX8_at_24 : decode cX8_at 24 = .ok (.areturn, 1) := by decide +kernel
theorem cc_X8_at : Cond.code yX8_at cX8_at 2 (some (.object "PartHouse$Term")) ∈ rf_tb := rf_at 1162 (by decide +kernel) (by decide +kernel)
theorem cw_RX8_42 : cl_wV RX8 RX8 yX8_has cX8_has 2 (some .boolean) 42 1 := ⟨⟨rf_at 1163 (by decide +kernel) (by decide +kernel), rf_at 1164 (by decide +kernel) (by decide +kernel), rf_at 1165 (by decide +kernel) (by decide +kernel), cc_X8_has, rf_at 11 (by decide +kernel) (by decide +kernel)⟩, ⟨by decide, by decide, by decide +kernel⟩⟩
noncomputable def bc_X8_at_0 (a : Nat) (x1 : Int32) (σ : cl_S) : Option ((Option Nat) × cl_S) := bd2 (fc_X8_has a x1 σ) (fun r_2 σ_1 => (if r_2 = 0 then some ((some 33), σ_1) else ix x1 (cl_th a) (vl (σ_1.2.2.1 (a + 1) x1.toNatClampNeg) (fun r_12 => some (r_12, σ_1)))))
set_option maxHeartbeats 4000000 in
theorem wc_X8_at_0 (C : cl_C D p s m args meth c cX8_at 2 (some (.object "PartHouse$Term")) RX8) {r : (Option Nat)} {a : Nat} {x1 : Int32} {σ0 σ σ' : cl_S} {T : Nat → Nat × Nat} {H : Heap} {locs : List Loc} {ls : Array Slot} {cells slots : Nat} (h : bc_X8_at_0 a x1 σ = some (r, σ')) (G : cl_G true D c0 ({ frames := 1, cells := σ0.2.2.2.2.2.1, slots := σ0.2.2.2.2.2.2, locals := 21 }) s σ0.2.2.2.1 T σ H locs cells slots) (ha : (T a).1 = 24) (hl : lv_has ls 2 [(0, .ref (c0 + a)), (1, .int x1)]) : W p l e ({ frames := 1, cells := σ0.2.2.2.2.2.1, slots := σ0.2.2.2.2.2.2, locals := 21 }) s m args below meth c H locs cells slots (MQ below (cl_Q true D c0 (some (cl_rf c0 r)) (fun T1 => cl_RT T1 r 25) σ0 σ') args s (σ0.2.2.2.2.2.1 - σ'.2.2.2.2.2.1) (σ0.2.2.2.2.2.2 - σ'.2.2.2.2.2.2) (cl_A c0 σ0.2.2.2.1 s.heap.size)) (F0 m 0 ls []) := by
  unfold bc_X8_at_0 at h
  refine lv_aload_n C.1 C.2.1 dX8_at_0 rfl (lv_at hl 0 rfl) ?_
  refine lv_iload_n C.1 C.2.1 dX8_at_1 rfl (lv_at hl 1 rfl) ?_
  obtain ⟨r_2, σ_1, hq, h_3⟩ := bd2_some h
  refine cl_callV (ci := 8) (rest := []) C G rfl ha cw_RX8_42 [.int x1] _ (kc_X8_has l D c0 (by rw [G.1]; exact ha) hq) (Nat.le_of_ble_eq_true rfl) (Nat.le_of_ble_eq_true rfl) rfl rfl hl.1 (Nat.le_of_ble_eq_true rfl) dX8_at_2 (fun T_4 H locs cells slots t_5 hu G_6 => ?_)
  have ha := hu.kind ha (by decide)
  refine W.eq (g2 := F0 m 5 ls [.int r_2]) rfl ?_
  refine lv_if_eq (tgt := 17) C.1 C.2.1 dX8_at_5 (by decide) (fun hc => ?_) (fun hc => ?_)
  · rw [if_pos hc] at h_3
    refine lv_aload_n C.1 C.2.1 dX8_at_17 rfl (lv_at hl 0 rfl) ?_
    refine cg_8_9 C G_6 ha dX8_at_18 (fun t_7 => ?_)
    have t_7 : (T_4 31).1 = 26 := by rw [t_7]
    refine cg_8_46 C G_6 t_7 dX8_at_21 (fun t_8 => ?_)
    have t_8 : (T_4 33).1 = 25 := by rw [t_8]
    exact cl_aret (v := (some 33)) ⟨rfl, rfl⟩ rfl C G_6 h_3 (by first | exact Or.inl ⟨_, rfl⟩ | exact Or.inr ⟨_, rfl⟩) (cl_RTs t_8) dX8_at_24
  · rw [if_neg hc] at h_3
    refine lv_aload_n C.1 C.2.1 dX8_at_8 rfl (lv_at hl 0 rfl) ?_
    refine cg_8_25 C G_6 ha dX8_at_9 (fun t_9 => ?_)
    refine lv_iload_n C.1 C.2.1 dX8_at_12 rfl (lv_at hl 1 rfl) ?_
    obtain ⟨hi, h_10⟩ := ix_some h_3
    refine cl_aald C G_6 t_9 (by decide) (by decide) rfl hi dX8_at_13 (fun t_11 => ?_)
    refine vt_r (K := 25) t_11 h_10 (fun r_12 t_13 h_14 => ?_)
    refine lv_goto (tgt := 24) C.1 C.2.1 dX8_at_14 (by decide) ?_
    exact cl_aret (v := r_12) ⟨rfl, rfl⟩ rfl C G_6 h_14 (by first | exact Or.inl ⟨_, rfl⟩ | exact Or.inr ⟨_, rfl⟩) t_13 dX8_at_24
noncomputable def fc_X8_at (a : Nat) (x1 : Int32) (σ : cl_S) : Option ((Option Nat) × cl_S) := bc_X8_at_0 a x1 σ
theorem kc_X8_at (l : Launch) (D : cl_D) (c0 : Nat) {r : (Option Nat)} {a : Nat} {x1 : Int32} {σ σ' : cl_S} (ha : (σ.2.2.2.1 a).1 = 24) (h : fc_X8_at a x1 σ = some (r, σ')) : cl_Met true l D c0 yX8_at cX8_at 2 (some (.object "PartHouse$Term")) 1 21 [.ref (c0 + a), .int x1] σ (some (cl_rf c0 r)) (fun T1 => cl_RT T1 r 25) σ' :=
  cl_of (by decide) (Nat.le_of_ble_eq_true rfl) (fun p e s m args below meth c ls C hn G hl => wc_X8_at_0 C h G ha hl)
abbrev cX5_yieldTurn : ByteArray := prog_7_method_12_code
def yX5_yieldTurn : MethodName := ⟨RX5, "yieldTurn", "()I"⟩
theorem dX5_yieldTurn_0 : decode cX5_yieldTurn 0 = .ok (.aload_n 0, 1) := by decide +kernel
theorem dX5_yieldTurn_1 : decode cX5_yieldTurn 1 = .ok (.iconst 1, 1) := by decide +kernel
theorem dX5_yieldTurn_2 : decode cX5_yieldTurn 2 = .ok (.putfield 98, 3) := by decide +kernel
theorem dX5_yieldTurn_5 : decode cX5_yieldTurn 5 = .ok (.iconst 0, 1) := by decide +kernel
theorem dX5_yieldTurn_6 : decode cX5_yieldTurn 6 = .ok (.ireturn, 1) := by decide +kernel
theorem cc_X5_yieldTurn : Cond.code yX5_yieldTurn cX5_yieldTurn 1 (some .int) ∈ rf_tb := rf_at 1170 (by decide +kernel) (by decide +kernel)
noncomputable def bc_X5_yieldTurn_0 (a : Nat) (σ : cl_S) : Option (Int32 × cl_S) := vl (cl_w σ a 12 (1:Int32)) (fun σ_1 => some ((0:Int32), σ_1))
set_option maxHeartbeats 4000000 in
theorem wc_X5_yieldTurn_0 (C : cl_C D p s m args meth c cX5_yieldTurn 1 (some .int) RX5) {r : Int32} {a : Nat} {σ0 σ σ' : cl_S} {T : Nat → Nat × Nat} {H : Heap} {locs : List Loc} {ls : Array Slot} {cells slots : Nat} (h : bc_X5_yieldTurn_0 a σ = some (r, σ')) (G : cl_G true D c0 ({ frames := 0, cells := σ0.2.2.2.2.2.1, slots := σ0.2.2.2.2.2.2, locals := 0 }) s σ0.2.2.2.1 T σ H locs cells slots) (ha : (T a).1 = 21) (hl : lv_has ls 1 [(0, .ref (c0 + a))]) : W p l e ({ frames := 0, cells := σ0.2.2.2.2.2.1, slots := σ0.2.2.2.2.2.2, locals := 0 }) s m args below meth c H locs cells slots (MQ below (cl_Q true D c0 (some (.int r)) cl_no σ0 σ') args s (σ0.2.2.2.2.2.1 - σ'.2.2.2.2.2.1) (σ0.2.2.2.2.2.2 - σ'.2.2.2.2.2.2) (cl_A c0 σ0.2.2.2.1 s.heap.size)) (F0 m 0 ls []) := by
  unfold bc_X5_yieldTurn_0 at h
  refine lv_aload_n C.1 C.2.1 dX5_yieldTurn_0 rfl (lv_at hl 0 rfl) ?_
  refine lv_iconst (v := (1:Int32)) C.1 C.2.1 dX5_yieldTurn_1 (by decide) ?_
  refine cp_5_98 C G ha rfl rfl dX5_yieldTurn_2 (fun H locs G_2 => ?_)
  refine cl_nm G_2 h (fun σ_1 G_3 h_4 => ?_)
  refine lv_iconst (v := (0:Int32)) C.1 C.2.1 dX5_yieldTurn_5 (by decide) ?_
  exact cl_iret ⟨rfl, rfl⟩ rfl C G_3 h_4 dX5_yieldTurn_6
noncomputable def fc_X5_yieldTurn (a : Nat) (σ : cl_S) : Option (Int32 × cl_S) := bc_X5_yieldTurn_0 a σ
theorem kc_X5_yieldTurn (l : Launch) (D : cl_D) (c0 : Nat) {r : Int32} {a : Nat} {σ σ' : cl_S} (ha : (σ.2.2.2.1 a).1 = 21) (h : fc_X5_yieldTurn a σ = some (r, σ')) : cl_Met true l D c0 yX5_yieldTurn cX5_yieldTurn 1 (some .int) 0 0 [.ref (c0 + a)] σ (some (.int r)) cl_no σ' :=
  cl_of (by decide) (Nat.le_of_ble_eq_true rfl) (fun p e s m args below meth c ls C hn G hl => wc_X5_yieldTurn_0 C h G ha hl)
end CQ6
