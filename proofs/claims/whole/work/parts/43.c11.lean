section CQ10
variable {p : Program} {l : Launch} {e : Env} {s : State} {m : MethodId} {args : Array Value} {below : List Frame} {meth : Method} {c : Code} {D : cl_D} {c0 : Nat}
abbrev cX10_numberTerm : ByteArray := prog_12_method_8_code
def yX10_numberTerm : MethodName := ⟨RX10, "numberTerm", "(I)LPartHouse$Term;"⟩
theorem dX10_numberTerm_0 : decode cX10_numberTerm 0 = .ok (.aload_n 0, 1) := by decide +kernel
theorem dX10_numberTerm_1 : decode cX10_numberTerm 1 = .ok (.iconst 0, 1) := by decide +kernel
theorem dX10_numberTerm_2 : decode cX10_numberTerm 2 = .ok (.iload_n 1, 1) := by decide +kernel
theorem dX10_numberTerm_3 : decode cX10_numberTerm 3 = .ok (.aload_n 0, 1) := by decide +kernel
theorem dX10_numberTerm_4 : decode cX10_numberTerm 4 = .ok (.getfield 20, 3) := by decide +kernel
theorem dX10_numberTerm_7 : decode cX10_numberTerm 7 = .ok (.aload_n 0, 1) := by decide +kernel
theorem dX10_numberTerm_8 : decode cX10_numberTerm 8 = .ok (.getfield 20, 3) := by decide +kernel
theorem dX10_numberTerm_11 : decode cX10_numberTerm 11 = .ok (.aload_n 0, 1) := by decide +kernel
theorem dX10_numberTerm_12 : decode cX10_numberTerm 12 = .ok (.getfield 20, 3) := by decide +kernel
theorem dX10_numberTerm_15 : decode cX10_numberTerm 15 = .ok (.invokevirtual 101, 3) := by decide +kernel
theorem dX10_numberTerm_18 : decode cX10_numberTerm 18 = .ok (.astore_n 2, 1) := by decide +kernel
theorem dX10_numberTerm_19 : decode cX10_numberTerm 19 = .ok (.aload_n 2, 1) := by decide +kernel
theorem dX10_numberTerm_20 : decode cX10_numberTerm 20 = .ok (.aload_n 0, 1) := by decide +kernel
theorem dX10_numberTerm_21 : decode cX10_numberTerm 21 = .ok (.getfield 20, 3) := by decide +kernel
theorem dX10_numberTerm_24 : decode cX10_numberTerm 24 = .ok (.if_acmp .eq 7, 3) := by decide +kernel
theorem dX10_numberTerm_27 : decode cX10_numberTerm 27 = .ok (.aload_n 2, 1) := by decide +kernel
theorem dX10_numberTerm_28 : decode cX10_numberTerm 28 = .ok (.goto 21, 3) := by decide +kernel
theorem dX10_numberTerm_31 : decode cX10_numberTerm 31 = .ok (.aload_n 0, 1) := by decide +kernel
theorem dX10_numberTerm_32 : decode cX10_numberTerm 32 = .ok (.iconst 0, 1) := by decide +kernel
theorem dX10_numberTerm_33 : decode cX10_numberTerm 33 = .ok (.iload_n 1, 1) := by decide +kernel
theorem dX10_numberTerm_34 : decode cX10_numberTerm 34 = .ok (.aload_n 0, 1) := by decide +kernel
theorem dX10_numberTerm_35 : decode cX10_numberTerm 35 = .ok (.getfield 20, 3) := by decide +kernel
theorem dX10_numberTerm_38 : decode cX10_numberTerm 38 = .ok (.aload_n 0, 1) := by decide +kernel
theorem dX10_numberTerm_39 : decode cX10_numberTerm 39 = .ok (.getfield 20, 3) := by decide +kernel
theorem dX10_numberTerm_42 : decode cX10_numberTerm 42 = .ok (.aload_n 0, 1) := by decide +kernel
theorem dX10_numberTerm_43 : decode cX10_numberTerm 43 = .ok (.getfield 20, 3) := by decide +kernel
theorem dX10_numberTerm_46 : decode cX10_numberTerm 46 = .ok (.invokevirtual 105, 3) := by decide +kernel
theorem dX10_numberTerm_49 : decode cX10_numberTerm 49 = .ok (.areturn, 1) := by decide +kernel
theorem cc_X10_numberTerm : Cond.code yX10_numberTerm cX10_numberTerm 3 (some (.object "PartHouse$Term")) ∈ rf_tb := rf_at 305 (by decide +kernel) (by decide +kernel)
theorem cw_RX10_101 : cl_wV RX10 RX10 yX10_find cX10_find 7 (some (.object "PartHouse$Term")) 101 5 := ⟨⟨rf_at 306 (by decide +kernel) (by decide +kernel), rf_at 307 (by decide +kernel) (by decide +kernel), rf_at 308 (by decide +kernel) (by decide +kernel), cc_X10_find, rf_at 9 (by decide +kernel) (by decide +kernel)⟩, ⟨by decide, by decide, by decide +kernel⟩⟩
noncomputable def bc_X10_numberTerm_0 (a : Nat) (x1 : Int32) (σ : cl_S) : Option ((Option Nat) × cl_S) := vl (σ.2.2.1 a 4) (fun r_2 => vl (σ.2.2.1 a 4) (fun r_6 => vl (σ.2.2.1 a 4) (fun r_10 => bd2 (fc_X10_find a (0:Int32) x1 r_2 r_6 r_10 σ) (fun r_14 σ_13 => vl (σ_13.2.2.1 a 4) (fun r_21 => (if r_14 = r_21 then vl (σ_13.2.2.1 a 4) (fun r_25 => vl (σ_13.2.2.1 a 4) (fun r_29 => vl (σ_13.2.2.1 a 4) (fun r_33 => bd2 (fc_X10_add a (0:Int32) x1 r_25 r_29 r_33 σ_13) (fun r_37 σ_36 => some (r_37, σ_36))))) else some (r_14, σ_13)))))))
set_option maxHeartbeats 4000000 in
theorem wc_X10_numberTerm_0 (C : cl_C D p s m args meth c cX10_numberTerm 3 (some (.object "PartHouse$Term")) RX10) {r : (Option Nat)} {a : Nat} {x1 : Int32} {σ0 σ σ' : cl_S} {T : Nat → Nat × Nat} {H : Heap} {locs : List Loc} {ls : Array Slot} {cells slots : Nat} (h : bc_X10_numberTerm_0 a x1 σ = some (r, σ')) (G : cl_G true D c0 ({ frames := 3, cells := σ0.2.2.2.2.2.1, slots := σ0.2.2.2.2.2.2, locals := 71 }) s σ0.2.2.2.1 T σ H locs cells slots) (ha : (T a).1 = 26) (hl : lv_has ls 3 [(0, .ref (c0 + a)), (1, .int x1)]) : W p l e ({ frames := 3, cells := σ0.2.2.2.2.2.1, slots := σ0.2.2.2.2.2.2, locals := 71 }) s m args below meth c H locs cells slots (MQ below (cl_Q true D c0 (some (cl_rf c0 r)) (fun T1 => cl_RT T1 r 25) σ0 σ') args s (σ0.2.2.2.2.2.1 - σ'.2.2.2.2.2.1) (σ0.2.2.2.2.2.2 - σ'.2.2.2.2.2.2) (cl_A c0 σ0.2.2.2.1 s.heap.size)) (F0 m 0 ls []) := by
  unfold bc_X10_numberTerm_0 at h
  refine lv_aload_n C.1 C.2.1 dX10_numberTerm_0 rfl (lv_at hl 0 rfl) ?_
  refine lv_iconst (v := (0:Int32)) C.1 C.2.1 dX10_numberTerm_1 (by decide) ?_
  refine lv_iload_n C.1 C.2.1 dX10_numberTerm_2 rfl (lv_at hl 1 rfl) ?_
  refine lv_aload_n C.1 C.2.1 dX10_numberTerm_3 rfl (lv_at hl 0 rfl) ?_
  refine cg_10_20 C G ha dX10_numberTerm_4 (fun t_1 => ?_)
  refine vt_r (K := 25) t_1 h (fun r_2 t_3 h_4 => ?_)
  refine lv_aload_n C.1 C.2.1 dX10_numberTerm_7 rfl (lv_at hl 0 rfl) ?_
  refine cg_10_20 C G ha dX10_numberTerm_8 (fun t_5 => ?_)
  refine vt_r (K := 25) t_5 h_4 (fun r_6 t_7 h_8 => ?_)
  refine lv_aload_n C.1 C.2.1 dX10_numberTerm_11 rfl (lv_at hl 0 rfl) ?_
  refine cg_10_20 C G ha dX10_numberTerm_12 (fun t_9 => ?_)
  refine vt_r (K := 25) t_9 h_8 (fun r_10 t_11 h_12 => ?_)
  obtain ⟨r_14, σ_13, hq, h_15⟩ := bd2_some h_12
  refine cl_callV (ci := 10) (rest := []) C G rfl ha cw_RX10_101 [.int (0:Int32), .int x1, cl_rf c0 r_2, cl_rf c0 r_6, cl_rf c0 r_10] _ (kc_X10_find l D c0 (by rw [G.1]; exact ha) hq (by rw [G.1]; exact t_3) (by rw [G.1]; exact t_7) (by rw [G.1]; exact t_11)) (Nat.le_of_ble_eq_true rfl) (Nat.le_of_ble_eq_true rfl) rfl rfl hl.1 (Nat.le_of_ble_eq_true rfl) dX10_numberTerm_15 (fun T_16 H locs cells slots t_17 hu G_18 => ?_)
  have ha := hu.kind ha (by decide)
  refine W.eq (g2 := F0 m 18 ls [cl_rf c0 r_14]) rfl ?_
  refine cl_astore_n (lv' := [(2, cl_rf c0 r_14), (0, .ref (c0 + a)), (1, .int x1)]) C.1 C.2.1 dX10_numberTerm_18 rfl hl (by decide) rfl (fun ls hl_19 => ?_)
  refine cl_aload_n C.1 C.2.1 dX10_numberTerm_19 rfl (lv_at hl_19 0 rfl) ?_
  refine lv_aload_n C.1 C.2.1 dX10_numberTerm_20 rfl (lv_at hl_19 1 rfl) ?_
  refine cg_10_20 C G_18 ha dX10_numberTerm_21 (fun t_20 => ?_)
  refine vt_r (K := 25) t_20 h_15 (fun r_21 t_22 h_23 => ?_)
  refine cl_acmp_eq (rx := r_14) (ry := r_21) (tgt := 31) C.1 C.2.1 dX10_numberTerm_24 (by decide) (fun hc => ?_) (fun hc => ?_)
  · rw [if_pos hc] at h_23
    refine lv_aload_n C.1 C.2.1 dX10_numberTerm_31 rfl (lv_at hl_19 1 rfl) ?_
    refine lv_iconst (v := (0:Int32)) C.1 C.2.1 dX10_numberTerm_32 (by decide) ?_
    refine lv_iload_n C.1 C.2.1 dX10_numberTerm_33 rfl (lv_at hl_19 2 rfl) ?_
    refine lv_aload_n C.1 C.2.1 dX10_numberTerm_34 rfl (lv_at hl_19 1 rfl) ?_
    refine cg_10_20 C G_18 ha dX10_numberTerm_35 (fun t_24 => ?_)
    refine vt_r (K := 25) t_24 h_23 (fun r_25 t_26 h_27 => ?_)
    refine lv_aload_n C.1 C.2.1 dX10_numberTerm_38 rfl (lv_at hl_19 1 rfl) ?_
    refine cg_10_20 C G_18 ha dX10_numberTerm_39 (fun t_28 => ?_)
    refine vt_r (K := 25) t_28 h_27 (fun r_29 t_30 h_31 => ?_)
    refine lv_aload_n C.1 C.2.1 dX10_numberTerm_42 rfl (lv_at hl_19 1 rfl) ?_
    refine cg_10_20 C G_18 ha dX10_numberTerm_43 (fun t_32 => ?_)
    refine vt_r (K := 25) t_32 h_31 (fun r_33 t_34 h_35 => ?_)
    obtain ⟨r_37, σ_36, hq, h_38⟩ := bd2_some h_35
    refine cl_callV (ci := 10) (rest := []) C G_18 rfl ha cw_RX10_105 [.int (0:Int32), .int x1, cl_rf c0 r_25, cl_rf c0 r_29, cl_rf c0 r_33] _ (kc_X10_add l D c0 (by rw [G_18.1]; exact ha) hq (by rw [G_18.1]; exact t_26) (by rw [G_18.1]; exact t_30) (by rw [G_18.1]; exact t_34)) (Nat.le_of_ble_eq_true rfl) (Nat.le_of_ble_eq_true rfl) rfl rfl hl_19.1 (Nat.le_of_ble_eq_true rfl) dX10_numberTerm_46 (fun T_39 H locs cells slots t_40 hu G_41 => ?_)
    have t_17 := t_17.up hu (by decide)
    have ha := hu.kind ha (by decide)
    refine W.eq (g2 := F0 m 49 ls [cl_rf c0 r_37]) rfl ?_
    exact cl_aret (v := r_37) ⟨rfl, rfl⟩ rfl C G_41 h_38 (by first | exact Or.inl ⟨_, rfl⟩ | exact Or.inr ⟨_, rfl⟩) t_40 dX10_numberTerm_49
  · rw [if_neg hc] at h_23
    refine cl_aload_n C.1 C.2.1 dX10_numberTerm_27 rfl (lv_at hl_19 0 rfl) ?_
    refine lv_goto (tgt := 49) C.1 C.2.1 dX10_numberTerm_28 (by decide) ?_
    exact cl_aret (v := r_14) ⟨rfl, rfl⟩ rfl C G_18 h_23 (by first | exact Or.inl ⟨_, rfl⟩ | exact Or.inr ⟨_, rfl⟩) t_17 dX10_numberTerm_49
noncomputable def fc_X10_numberTerm (a : Nat) (x1 : Int32) (σ : cl_S) : Option ((Option Nat) × cl_S) := bc_X10_numberTerm_0 a x1 σ
theorem kc_X10_numberTerm (l : Launch) (D : cl_D) (c0 : Nat) {r : (Option Nat)} {a : Nat} {x1 : Int32} {σ σ' : cl_S} (ha : (σ.2.2.2.1 a).1 = 26) (h : fc_X10_numberTerm a x1 σ = some (r, σ')) : cl_Met true l D c0 yX10_numberTerm cX10_numberTerm 3 (some (.object "PartHouse$Term")) 3 71 [.ref (c0 + a), .int x1] σ (some (cl_rf c0 r)) (fun T1 => cl_RT T1 r 25) σ' :=
  cl_of (by decide) (Nat.le_of_ble_eq_true rfl) (fun p e s m args below meth c ls C hn G hl => wc_X10_numberTerm_0 C h G ha hl)
abbrev cX10_made : ByteArray := prog_12_method_7_code
def yX10_made : MethodName := ⟨RX10, "made", "(ILPartHouse$Term;LPartHouse$Term;LPartHouse$Term;)LPartHouse$Term;"⟩
theorem dX10_made_0 : decode cX10_made 0 = .ok (.aload_n 0, 1) := by decide +kernel
theorem dX10_made_1 : decode cX10_made 1 = .ok (.iload_n 1, 1) := by decide +kernel
theorem dX10_made_2 : decode cX10_made 2 = .ok (.iconst 0, 1) := by decide +kernel
theorem dX10_made_3 : decode cX10_made 3 = .ok (.aload_n 2, 1) := by decide +kernel
theorem dX10_made_4 : decode cX10_made 4 = .ok (.aload_n 3, 1) := by decide +kernel
theorem dX10_made_5 : decode cX10_made 5 = .ok (.aload 4, 2) := by decide +kernel
theorem dX10_made_7 : decode cX10_made 7 = .ok (.invokevirtual 101, 3) := by decide +kernel
theorem dX10_made_10 : decode cX10_made 10 = .ok (.astore 5, 2) := by decide +kernel
theorem dX10_made_12 : decode cX10_made 12 = .ok (.aload 5, 2) := by decide +kernel
theorem dX10_made_14 : decode cX10_made 14 = .ok (.aload_n 0, 1) := by decide +kernel
theorem dX10_made_15 : decode cX10_made 15 = .ok (.getfield 20, 3) := by decide +kernel
theorem dX10_made_18 : decode cX10_made 18 = .ok (.if_acmp .eq 8, 3) := by decide +kernel
theorem dX10_made_21 : decode cX10_made 21 = .ok (.aload 5, 2) := by decide +kernel
theorem dX10_made_23 : decode cX10_made 23 = .ok (.goto 13, 3) := by decide +kernel
theorem dX10_made_26 : decode cX10_made 26 = .ok (.aload_n 0, 1) := by decide +kernel
theorem dX10_made_27 : decode cX10_made 27 = .ok (.iload_n 1, 1) := by decide +kernel
theorem dX10_made_28 : decode cX10_made 28 = .ok (.iconst 0, 1) := by decide +kernel
theorem dX10_made_29 : decode cX10_made 29 = .ok (.aload_n 2, 1) := by decide +kernel
theorem dX10_made_30 : decode cX10_made 30 = .ok (.aload_n 3, 1) := by decide +kernel
theorem dX10_made_31 : decode cX10_made 31 = .ok (.aload 4, 2) := by decide +kernel
theorem dX10_made_33 : decode cX10_made 33 = .ok (.invokevirtual 105, 3) := by decide +kernel
theorem dX10_made_36 : decode cX10_made 36 = .ok (.areturn, 1) := by decide +kernel
theorem cc_X10_made : Cond.code yX10_made cX10_made 6 (some (.object "PartHouse$Term")) ∈ rf_tb := rf_at 313 (by decide +kernel) (by decide +kernel)
noncomputable def bc_X10_made_0 (a : Nat) (x1 : Int32) (x2 : (Option Nat)) (x3 : (Option Nat)) (x4 : (Option Nat)) (σ : cl_S) : Option ((Option Nat) × cl_S) := bd2 (fc_X10_find a x1 (0:Int32) x2 x3 x4 σ) (fun r_2 σ_1 => vl (σ_1.2.2.1 a 4) (fun r_9 => (if r_2 = r_9 then bd2 (fc_X10_add a x1 (0:Int32) x2 x3 x4 σ_1) (fun r_13 σ_12 => some (r_13, σ_12)) else some (r_2, σ_1))))
set_option maxHeartbeats 4000000 in
theorem wc_X10_made_0 (C : cl_C D p s m args meth c cX10_made 6 (some (.object "PartHouse$Term")) RX10) {r : (Option Nat)} {a : Nat} {x1 : Int32} {x2 : (Option Nat)} {x3 : (Option Nat)} {x4 : (Option Nat)} {σ0 σ σ' : cl_S} {T : Nat → Nat × Nat} {H : Heap} {locs : List Loc} {ls : Array Slot} {cells slots : Nat} (h : bc_X10_made_0 a x1 x2 x3 x4 σ = some (r, σ')) (G : cl_G true D c0 ({ frames := 3, cells := σ0.2.2.2.2.2.1, slots := σ0.2.2.2.2.2.2, locals := 71 }) s σ0.2.2.2.1 T σ H locs cells slots) (ha : (T a).1 = 26) (f2 : cl_RT T x2 25) (f3 : cl_RT T x3 25) (f4 : cl_RT T x4 25) (hl : lv_has ls 6 [(0, .ref (c0 + a)), (1, .int x1), (2, cl_rf c0 x2), (3, cl_rf c0 x3), (4, cl_rf c0 x4)]) : W p l e ({ frames := 3, cells := σ0.2.2.2.2.2.1, slots := σ0.2.2.2.2.2.2, locals := 71 }) s m args below meth c H locs cells slots (MQ below (cl_Q true D c0 (some (cl_rf c0 r)) (fun T1 => cl_RT T1 r 25) σ0 σ') args s (σ0.2.2.2.2.2.1 - σ'.2.2.2.2.2.1) (σ0.2.2.2.2.2.2 - σ'.2.2.2.2.2.2) (cl_A c0 σ0.2.2.2.1 s.heap.size)) (F0 m 0 ls []) := by
  unfold bc_X10_made_0 at h
  refine lv_aload_n C.1 C.2.1 dX10_made_0 rfl (lv_at hl 0 rfl) ?_
  refine lv_iload_n C.1 C.2.1 dX10_made_1 rfl (lv_at hl 1 rfl) ?_
  refine lv_iconst (v := (0:Int32)) C.1 C.2.1 dX10_made_2 (by decide) ?_
  refine cl_aload_n C.1 C.2.1 dX10_made_3 rfl (lv_at hl 2 rfl) ?_
  refine cl_aload_n C.1 C.2.1 dX10_made_4 rfl (lv_at hl 3 rfl) ?_
  refine cl_aload C.1 C.2.1 dX10_made_5 (lv_at hl 4 rfl) ?_
  obtain ⟨r_2, σ_1, hq, h_3⟩ := bd2_some h
  refine cl_callV (ci := 10) (rest := []) C G rfl ha cw_RX10_101 [.int x1, .int (0:Int32), cl_rf c0 x2, cl_rf c0 x3, cl_rf c0 x4] _ (kc_X10_find l D c0 (by rw [G.1]; exact ha) hq (by rw [G.1]; exact f2) (by rw [G.1]; exact f3) (by rw [G.1]; exact f4)) (Nat.le_of_ble_eq_true rfl) (Nat.le_of_ble_eq_true rfl) rfl rfl hl.1 (Nat.le_of_ble_eq_true rfl) dX10_made_7 (fun T_4 H locs cells slots t_5 hu G_6 => ?_)
  have ha := hu.kind ha (by decide)
  have f2 := f2.up hu (by decide)
  have f3 := f3.up hu (by decide)
  have f4 := f4.up hu (by decide)
  refine W.eq (g2 := F0 m 10 ls [cl_rf c0 r_2]) rfl ?_
  refine cl_astore (lv' := [(5, cl_rf c0 r_2), (0, .ref (c0 + a)), (1, .int x1), (2, cl_rf c0 x2), (3, cl_rf c0 x3), (4, cl_rf c0 x4)]) C.1 C.2.1 dX10_made_10 hl (by decide) (by first | rfl | (cases x2 <;> cases x3 <;> cases x4 <;> rfl)) (fun ls hl_7 => ?_)
  refine cl_aload C.1 C.2.1 dX10_made_12 (lv_at hl_7 0 rfl) ?_
  refine lv_aload_n C.1 C.2.1 dX10_made_14 rfl (lv_at hl_7 1 rfl) ?_
  refine cg_10_20 C G_6 ha dX10_made_15 (fun t_8 => ?_)
  refine vt_r (K := 25) t_8 h_3 (fun r_9 t_10 h_11 => ?_)
  refine cl_acmp_eq (rx := r_2) (ry := r_9) (tgt := 26) C.1 C.2.1 dX10_made_18 (by decide) (fun hc => ?_) (fun hc => ?_)
  · rw [if_pos hc] at h_11
    refine lv_aload_n C.1 C.2.1 dX10_made_26 rfl (lv_at hl_7 1 rfl) ?_
    refine lv_iload_n C.1 C.2.1 dX10_made_27 rfl (lv_at hl_7 2 rfl) ?_
    refine lv_iconst (v := (0:Int32)) C.1 C.2.1 dX10_made_28 (by decide) ?_
    refine cl_aload_n C.1 C.2.1 dX10_made_29 rfl (lv_at hl_7 3 rfl) ?_
    refine cl_aload_n C.1 C.2.1 dX10_made_30 rfl (lv_at hl_7 4 rfl) ?_
    refine cl_aload C.1 C.2.1 dX10_made_31 (lv_at hl_7 5 rfl) ?_
    obtain ⟨r_13, σ_12, hq, h_14⟩ := bd2_some h_11
    refine cl_callV (ci := 10) (rest := []) C G_6 rfl ha cw_RX10_105 [.int x1, .int (0:Int32), cl_rf c0 x2, cl_rf c0 x3, cl_rf c0 x4] _ (kc_X10_add l D c0 (by rw [G_6.1]; exact ha) hq (by rw [G_6.1]; exact f2) (by rw [G_6.1]; exact f3) (by rw [G_6.1]; exact f4)) (Nat.le_of_ble_eq_true rfl) (Nat.le_of_ble_eq_true rfl) rfl rfl hl_7.1 (Nat.le_of_ble_eq_true rfl) dX10_made_33 (fun T_15 H locs cells slots t_16 hu G_17 => ?_)
    have t_5 := t_5.up hu (by decide)
    have ha := hu.kind ha (by decide)
    have f2 := f2.up hu (by decide)
    have f3 := f3.up hu (by decide)
    have f4 := f4.up hu (by decide)
    refine W.eq (g2 := F0 m 36 ls [cl_rf c0 r_13]) rfl ?_
    exact cl_aret (v := r_13) ⟨rfl, rfl⟩ rfl C G_17 h_14 (by first | exact Or.inl ⟨_, rfl⟩ | exact Or.inr ⟨_, rfl⟩) t_16 dX10_made_36
  · rw [if_neg hc] at h_11
    refine cl_aload C.1 C.2.1 dX10_made_21 (lv_at hl_7 0 rfl) ?_
    refine lv_goto (tgt := 36) C.1 C.2.1 dX10_made_23 (by decide) ?_
    exact cl_aret (v := r_2) ⟨rfl, rfl⟩ rfl C G_6 h_11 (by first | exact Or.inl ⟨_, rfl⟩ | exact Or.inr ⟨_, rfl⟩) t_5 dX10_made_36
noncomputable def fc_X10_made (a : Nat) (x1 : Int32) (x2 : (Option Nat)) (x3 : (Option Nat)) (x4 : (Option Nat)) (σ : cl_S) : Option ((Option Nat) × cl_S) := bc_X10_made_0 a x1 x2 x3 x4 σ
theorem kc_X10_made (l : Launch) (D : cl_D) (c0 : Nat) {r : (Option Nat)} {a : Nat} {x1 : Int32} {x2 : (Option Nat)} {x3 : (Option Nat)} {x4 : (Option Nat)} {σ σ' : cl_S} (ha : (σ.2.2.2.1 a).1 = 26) (h : fc_X10_made a x1 x2 x3 x4 σ = some (r, σ')) (f2 : cl_RT σ.2.2.2.1 x2 25) (f3 : cl_RT σ.2.2.2.1 x3 25) (f4 : cl_RT σ.2.2.2.1 x4 25) : cl_Met true l D c0 yX10_made cX10_made 6 (some (.object "PartHouse$Term")) 3 71 [.ref (c0 + a), .int x1, cl_rf c0 x2, cl_rf c0 x3, cl_rf c0 x4] σ (some (cl_rf c0 r)) (fun T1 => cl_RT T1 r 25) σ' :=
  by cases x2 <;> cases x3 <;> cases x4 <;> exact cl_of (by decide) (Nat.le_of_ble_eq_true rfl) (fun p e s m args below meth c ls C hn G hl => wc_X10_made_0 C h G ha f2 f3 f4 hl)
abbrev cX5_seal : ByteArray := prog_7_method_30_code
def yX5_seal : MethodName := ⟨RX5, "seal", "(LPartHouse$Partition;I)I"⟩
theorem dX5_seal_0 : decode cX5_seal 0 = .ok (.aload_n 0, 1) := by decide +kernel
theorem dX5_seal_1 : decode cX5_seal 1 = .ok (.aload_n 1, 1) := by decide +kernel
theorem dX5_seal_2 : decode cX5_seal 2 = .ok (.iload_n 2, 1) := by decide +kernel
theorem dX5_seal_3 : decode cX5_seal 3 = .ok (.invokevirtual 372, 3) := by decide +kernel
theorem dX5_seal_6 : decode cX5_seal 6 = .ok (.ifCond .ne 5, 3) := by decide +kernel
theorem dX5_seal_9 : decode cX5_seal 9 = .ok (.iconst (-1), 1) := by decide +kernel
theorem dX5_seal_10 : decode cX5_seal 10 = .ok (.ireturn, 1) := by decide +kernel
theorem dX5_seal_11 : decode cX5_seal 11 = .ok (.aload_n 1, 1) := by decide +kernel
theorem dX5_seal_12 : decode cX5_seal 12 = .ok (.getfield 199, 3) := by decide +kernel
theorem dX5_seal_15 : decode cX5_seal 15 = .ok (.aload_n 1, 1) := by decide +kernel
theorem dX5_seal_16 : decode cX5_seal 16 = .ok (.getfield 121, 3) := by decide +kernel
theorem dX5_seal_19 : decode cX5_seal 19 = .ok (.getfield 193, 3) := by decide +kernel
theorem dX5_seal_22 : decode cX5_seal 22 = .ok (.iconst 2, 1) := by decide +kernel
theorem dX5_seal_23 : decode cX5_seal 23 = .ok (.iaload, 1) := by decide +kernel
theorem dX5_seal_24 : decode cX5_seal 24 = .ok (.invokevirtual 203, 3) := by decide +kernel
theorem dX5_seal_27 : decode cX5_seal 27 = .ok (.astore_n 3, 1) := by decide +kernel
theorem dX5_seal_28 : decode cX5_seal 28 = .ok (.aload_n 3, 1) := by decide +kernel
theorem dX5_seal_29 : decode cX5_seal 29 = .ok (.aload_n 0, 1) := by decide +kernel
theorem dX5_seal_30 : decode cX5_seal 30 = .ok (.getfield 51, 3) := by decide +kernel
theorem dX5_seal_33 : decode cX5_seal 33 = .ok (.getfield 83, 3) := by decide +kernel
theorem dX5_seal_36 : decode cX5_seal 36 = .ok (.if_acmp .ne 6, 3) := by decide +kernel
theorem dX5_seal_39 : decode cX5_seal 39 = .ok (.bipush (-2), 2) := by decide +kernel
theorem dX5_seal_41 : decode cX5_seal 41 = .ok (.ireturn, 1) := by decide +kernel
theorem dX5_seal_42 : decode cX5_seal 42 = .ok (.aload_n 1, 1) := by decide +kernel
theorem dX5_seal_43 : decode cX5_seal 43 = .ok (.getfield 384, 3) := by decide +kernel
theorem dX5_seal_46 : decode cX5_seal 46 = .ok (.bipush 40, 2) := by decide +kernel
theorem dX5_seal_48 : decode cX5_seal 48 = .ok (.if_icmp .lt 6, 3) := by decide +kernel
theorem dX5_seal_51 : decode cX5_seal 51 = .ok (.bipush (-4), 2) := by decide +kernel
theorem dX5_seal_53 : decode cX5_seal 53 = .ok (.ireturn, 1) := by decide +kernel
theorem dX5_seal_54 : decode cX5_seal 54 = .ok (.aload_n 0, 1) := by decide +kernel
theorem dX5_seal_55 : decode cX5_seal 55 = .ok (.aload_n 1, 1) := by decide +kernel
theorem dX5_seal_56 : decode cX5_seal 56 = .ok (.iload_n 2, 1) := by decide +kernel
theorem dX5_seal_57 : decode cX5_seal 57 = .ok (.invokevirtual 375, 3) := by decide +kernel
theorem dX5_seal_60 : decode cX5_seal 60 = .ok (.istore 4, 2) := by decide +kernel
theorem dX5_seal_62 : decode cX5_seal 62 = .ok (.iload 4, 2) := by decide +kernel
theorem dX5_seal_64 : decode cX5_seal 64 = .ok (.ifCond .ge 7, 3) := by decide +kernel
theorem dX5_seal_67 : decode cX5_seal 67 = .ok (.iconst 1, 1) := by decide +kernel
theorem dX5_seal_68 : decode cX5_seal 68 = .ok (.goto 15, 3) := by decide +kernel
theorem dX5_seal_71 : decode cX5_seal 71 = .ok (.aload_n 0, 1) := by decide +kernel
theorem dX5_seal_72 : decode cX5_seal 72 = .ok (.getfield 55, 3) := by decide +kernel
theorem dX5_seal_75 : decode cX5_seal 75 = .ok (.getfield 378, 3) := by decide +kernel
theorem dX5_seal_78 : decode cX5_seal 78 = .ok (.iload 4, 2) := by decide +kernel
theorem dX5_seal_80 : decode cX5_seal 80 = .ok (.iaload, 1) := by decide +kernel
theorem dX5_seal_81 : decode cX5_seal 81 = .ok (.iconst 1, 1) := by decide +kernel
theorem dX5_seal_82 : decode cX5_seal 82 = .ok (.iadd, 1) := by decide +kernel
theorem dX5_seal_83 : decode cX5_seal 83 = .ok (.istore 5, 2) := by decide +kernel
theorem dX5_seal_85 : decode cX5_seal 85 = .ok (.aload_n 0, 1) := by decide +kernel
theorem dX5_seal_86 : decode cX5_seal 86 = .ok (.aload_n 1, 1) := by decide +kernel
theorem dX5_seal_87 : decode cX5_seal 87 = .ok (.getfield 306, 3) := by decide +kernel
theorem dX5_seal_90 : decode cX5_seal 90 = .ok (.iload_n 2, 1) := by decide +kernel
theorem dX5_seal_91 : decode cX5_seal 91 = .ok (.invokevirtual 154, 3) := by decide +kernel
theorem dX5_seal_94 : decode cX5_seal 94 = .ok (.iload 5, 2) := by decide +kernel
theorem dX5_seal_96 : decode cX5_seal 96 = .ok (.iconst 1, 1) := by decide +kernel
theorem dX5_seal_97 : decode cX5_seal 97 = .ok (.iand, 1) := by decide +kernel
theorem dX5_seal_98 : decode cX5_seal 98 = .ok (.iadd, 1) := by decide +kernel
theorem dX5_seal_99 : decode cX5_seal 99 = .ok (.istore 6, 2) := by decide +kernel
theorem dX5_seal_101 : decode cX5_seal 101 = .ok (.aload_n 0, 1) := by decide +kernel
theorem dX5_seal_102 : decode cX5_seal 102 = .ok (.dup, 1) := by decide +kernel
theorem dX5_seal_103 : decode cX5_seal 103 = .ok (.getfield 387, 3) := by decide +kernel
theorem dX5_seal_106 : decode cX5_seal 106 = .ok (.iconst 1, 1) := by decide +kernel
theorem dX5_seal_107 : decode cX5_seal 107 = .ok (.iadd, 1) := by decide +kernel
theorem dX5_seal_108 : decode cX5_seal 108 = .ok (.putfield 387, 3) := by decide +kernel
theorem dX5_seal_111 : decode cX5_seal 111 = .ok (.aload_n 0, 1) := by decide +kernel
theorem dX5_seal_112 : decode cX5_seal 112 = .ok (.invokevirtual 390, 3) := by decide +kernel
theorem dX5_seal_115 : decode cX5_seal 115 = .ok (.ifCond .eq 19, 3) := by decide +kernel
theorem dX5_seal_118 : decode cX5_seal 118 = .ok (.aload_n 0, 1) := by decide +kernel
theorem dX5_seal_119 : decode cX5_seal 119 = .ok (.getfield 55, 3) := by decide +kernel
theorem dX5_seal_122 : decode cX5_seal 122 = .ok (.iload 6, 2) := by decide +kernel
theorem dX5_seal_124 : decode cX5_seal 124 = .ok (.invokevirtual 158, 3) := by decide +kernel
theorem dX5_seal_127 : decode cX5_seal 127 = .ok (.aload_n 0, 1) := by decide +kernel
theorem dX5_seal_128 : decode cX5_seal 128 = .ok (.iconst 0, 1) := by decide +kernel
theorem dX5_seal_129 : decode cX5_seal 129 = .ok (.putfield 133, 3) := by decide +kernel
theorem dX5_seal_132 : decode cX5_seal 132 = .ok (.iconst 0, 1) := by decide +kernel
theorem dX5_seal_133 : decode cX5_seal 133 = .ok (.ireturn, 1) := by decide +kernel
theorem dX5_seal_134 : decode cX5_seal 134 = .ok (.aload_n 0, 1) := by decide +kernel
theorem dX5_seal_135 : decode cX5_seal 135 = .ok (.getfield 51, 3) := by decide +kernel
theorem dX5_seal_138 : decode cX5_seal 138 = .ok (.iconst 3, 1) := by decide +kernel
theorem dX5_seal_139 : decode cX5_seal 139 = .ok (.aload_n 0, 1) := by decide +kernel
theorem dX5_seal_140 : decode cX5_seal 140 = .ok (.getfield 51, 3) := by decide +kernel
theorem dX5_seal_143 : decode cX5_seal 143 = .ok (.iload_n 2, 1) := by decide +kernel
theorem dX5_seal_144 : decode cX5_seal 144 = .ok (.invokevirtual 393, 3) := by decide +kernel
theorem dX5_seal_147 : decode cX5_seal 147 = .ok (.aload_n 0, 1) := by decide +kernel
theorem dX5_seal_148 : decode cX5_seal 148 = .ok (.getfield 51, 3) := by decide +kernel
theorem dX5_seal_151 : decode cX5_seal 151 = .ok (.iload 5, 2) := by decide +kernel
theorem dX5_seal_153 : decode cX5_seal 153 = .ok (.invokevirtual 393, 3) := by decide +kernel
theorem dX5_seal_156 : decode cX5_seal 156 = .ok (.aload_n 0, 1) := by decide +kernel
theorem dX5_seal_157 : decode cX5_seal 157 = .ok (.getfield 51, 3) := by decide +kernel
theorem dX5_seal_160 : decode cX5_seal 160 = .ok (.getfield 83, 3) := by decide +kernel
theorem dX5_seal_163 : decode cX5_seal 163 = .ok (.invokevirtual 396, 3) := by decide +kernel
theorem dX5_seal_166 : decode cX5_seal 166 = .ok (.astore 7, 2) := by decide +kernel
theorem dX5_seal_168 : decode cX5_seal 168 = .ok (.aload_n 0, 1) := by decide +kernel
theorem dX5_seal_169 : decode cX5_seal 169 = .ok (.getfield 51, 3) := by decide +kernel
theorem dX5_seal_172 : decode cX5_seal 172 = .ok (.bipush 8, 2) := by decide +kernel
theorem dX5_seal_174 : decode cX5_seal 174 = .ok (.aload_n 1, 1) := by decide +kernel
theorem dX5_seal_175 : decode cX5_seal 175 = .ok (.getfield 365, 3) := by decide +kernel
theorem dX5_seal_178 : decode cX5_seal 178 = .ok (.aload 7, 2) := by decide +kernel
theorem dX5_seal_180 : decode cX5_seal 180 = .ok (.aload_n 3, 1) := by decide +kernel
theorem dX5_seal_181 : decode cX5_seal 181 = .ok (.invokevirtual 396, 3) := by decide +kernel
theorem dX5_seal_184 : decode cX5_seal 184 = .ok (.astore 8, 2) := by decide +kernel
theorem dX5_seal_186 : decode cX5_seal 186 = .ok (.aload_n 0, 1) := by decide +kernel
theorem dX5_seal_187 : decode cX5_seal 187 = .ok (.getfield 55, 3) := by decide +kernel
theorem dX5_seal_190 : decode cX5_seal 190 = .ok (.iload 6, 2) := by decide +kernel
theorem dX5_seal_192 : decode cX5_seal 192 = .ok (.iload 5, 2) := by decide +kernel
theorem dX5_seal_194 : decode cX5_seal 194 = .ok (.aload 8, 2) := by decide +kernel
theorem dX5_seal_196 : decode cX5_seal 196 = .ok (.invokevirtual 400, 3) := by decide +kernel
theorem dX5_seal_199 : decode cX5_seal 199 = .ok (.aload_n 1, 1) := by decide +kernel
theorem dX5_seal_200 : decode cX5_seal 200 = .ok (.dup, 1) := by decide +kernel
theorem dX5_seal_201 : decode cX5_seal 201 = .ok (.getfield 384, 3) := by decide +kernel
theorem dX5_seal_204 : decode cX5_seal 204 = .ok (.iconst 1, 1) := by decide +kernel
theorem dX5_seal_205 : decode cX5_seal 205 = .ok (.iadd, 1) := by decide +kernel
theorem dX5_seal_206 : decode cX5_seal 206 = .ok (.putfield 384, 3) := by decide +kernel
theorem dX5_seal_209 : decode cX5_seal 209 = .ok (.aload_n 0, 1) := by decide +kernel
theorem dX5_seal_210 : decode cX5_seal 210 = .ok (.getfield 59, 3) := by decide +kernel
theorem dX5_seal_213 : decode cX5_seal 213 = .ok (.ifCond .eq 12, 3) := by decide +kernel
theorem dX5_seal_216 : decode cX5_seal 216 = .ok (.aload_n 0, 1) := by decide +kernel
theorem dX5_seal_217 : decode cX5_seal 217 = .ok (.getfield 51, 3) := by decide +kernel
theorem dX5_seal_220 : decode cX5_seal 220 = .ok (.aload 8, 2) := by decide +kernel
theorem dX5_seal_222 : decode cX5_seal 222 = .ok (.invokevirtual 339, 3) := by decide +kernel
theorem dX5_seal_225 : decode cX5_seal 225 = .ok (.iload 5, 2) := by decide +kernel
theorem dX5_seal_227 : decode cX5_seal 227 = .ok (.ireturn, 1) := by decide +kernel
theorem cc_X5_seal : Cond.code yX5_seal cX5_seal 9 (some .int) ∈ rf_tb := rf_at 1282 (by decide +kernel) (by decide +kernel)
theorem cw_RX5_372 : cl_wV RX5 RX5 yX5_hasBlob cX5_hasBlob 3 (some .boolean) 372 2 := ⟨⟨rf_at 1283 (by decide +kernel) (by decide +kernel), rf_at 1285 (by decide +kernel) (by decide +kernel), rf_sel (q := (yX5_hasBlob, 20)) 58 (by decide +kernel) (by decide +kernel), cc_X5_hasBlob, rf_at 13 (by decide +kernel) (by decide +kernel)⟩, ⟨by decide, by decide, by decide +kernel⟩⟩
theorem cw_RX5_375 : cl_wV RX5 RX5 yX5_countingBlock cX5_countingBlock 3 (some .int) 375 2 := ⟨⟨rf_at 1287 (by decide +kernel) (by decide +kernel), rf_at 1289 (by decide +kernel) (by decide +kernel), rf_sel (q := (yX5_countingBlock, 20)) 59 (by decide +kernel) (by decide +kernel), cc_X5_countingBlock, rf_at 13 (by decide +kernel) (by decide +kernel)⟩, ⟨by decide, by decide, by decide +kernel⟩⟩
theorem cw_RX5_390 : cl_wV RX5 RX5 yX5_powerGoes cX5_powerGoes 1 (some .boolean) 390 0 := ⟨⟨rf_at 1303 (by decide +kernel) (by decide +kernel), rf_at 1305 (by decide +kernel) (by decide +kernel), rf_sel (q := (yX5_powerGoes, 20)) 62 (by decide +kernel) (by decide +kernel), cc_X5_powerGoes, rf_at 13 (by decide +kernel) (by decide +kernel)⟩, ⟨by decide, by decide, by decide +kernel⟩⟩
theorem cw_RX5_393 : cl_wV RX5 RX10 yX10_numberTerm cX10_numberTerm 3 (some (.object "PartHouse$Term")) 393 1 := ⟨⟨rf_at 1315 (by decide +kernel) (by decide +kernel), rf_at 303 (by decide +kernel) (by decide +kernel), rf_at 304 (by decide +kernel) (by decide +kernel), cc_X10_numberTerm, rf_at 9 (by decide +kernel) (by decide +kernel)⟩, ⟨by decide, by decide, by decide +kernel⟩⟩
theorem cw_RX5_396 : cl_wV RX5 RX10 yX10_made cX10_made 6 (some (.object "PartHouse$Term")) 396 4 := ⟨⟨rf_at 1316 (by decide +kernel) (by decide +kernel), rf_at 311 (by decide +kernel) (by decide +kernel), rf_at 312 (by decide +kernel) (by decide +kernel), cc_X10_made, rf_at 9 (by decide +kernel) (by decide +kernel)⟩, ⟨by decide, by decide, by decide +kernel⟩⟩
theorem cw_RX5_400 : cl_wV RX5 RX3 yX3_fill cX3_fill 4 none 400 3 := ⟨⟨rf_at 1317 (by decide +kernel) (by decide +kernel), rf_at 1312 (by decide +kernel) (by decide +kernel), rf_at 1313 (by decide +kernel) (by decide +kernel), cc_X3_fill, rf_at 12 (by decide +kernel) (by decide +kernel)⟩, ⟨by decide, by decide, by decide +kernel⟩⟩
noncomputable def bc_X5_seal_83 (a : Nat) (x1 : (Option Nat)) (x2 : Int32) (x3 : (Option Nat)) (v0 : Int32) (σ : cl_S) : Option (Int32 × cl_S) := nn x1 (fun a_43 => bd2 (fc_X5_firstCopy a (σ.1 a_43 3) x2 σ) (fun r_47 σ_46 => vl (r_47 + (v0 &&& (1:Int32))) (fun x6_52 => vl (cl_w σ_46 a 14 ((σ_46.1 a 14) + (1:Int32))) (fun σ_55 => bd2 (fc_X5_powerGoes a σ_55) (fun r_60 σ_59 => (if r_60 = 0 then bd2 (fc_X10_numberTerm 31 x2 σ_59) (fun r_68 σ_67 => bd2 (fc_X10_numberTerm 31 v0 σ_67) (fun r_75 σ_74 => vl (σ_74.2.2.1 31 4) (fun r_82 => bd2 (fc_X10_made 31 (3:Int32) r_68 r_75 r_82 σ_74) (fun r_86 σ_85 => vl (σ_85.2.2.1 a_43 17) (fun r_94 => bd2 (fc_X10_made 31 (8:Int32) r_94 r_86 x3 σ_85) (fun r_98 σ_97 => vl (σ_97.2.2.1 a 1) (fun r_105 => nn r_105 (fun a_108 => bd1 (fc_X3_fill a_108 x6_52 v0 r_98 σ_97) (fun σ_111 => vl (cl_w σ_111 a_43 14 ((σ_111.1 a_43 14) + (1:Int32))) (fun σ_116 => (if (σ_116.1 a 2) = 0 then some (v0, σ_116) else bd1 (fc_X10_tell 31 r_98 σ_116) (fun σ_121 => some (v0, σ_121))))))))))))) else vl (σ_59.2.2.1 a 1) (fun r_127 => nn r_127 (fun a_130 => bd1 (fc_X3_empty a_130 x6_52 σ_59) (fun σ_133 => vl (cl_w σ_133 a 8 (0:Int32)) (fun σ_138 => some ((0:Int32), σ_138)))))))))))
set_option maxHeartbeats 4000000 in
theorem wc_X5_seal_83 (C : cl_C D p s m args meth c cX5_seal 9 (some .int) RX5) {r : Int32} {a : Nat} {x1 : (Option Nat)} {x2 : Int32} {x3 : (Option Nat)} {v0 : Int32} {σ0 σ σ' : cl_S} {T : Nat → Nat × Nat} {H : Heap} {locs : List Loc} {ls : Array Slot} {cells slots : Nat} (h : bc_X5_seal_83 a x1 x2 x3 v0 σ = some (r, σ')) (G : cl_G true D c0 ({ frames := 4, cells := σ0.2.2.2.2.2.1, slots := σ0.2.2.2.2.2.2, locals := 96 }) s σ0.2.2.2.1 T σ H locs cells slots) (ha : (T a).1 = 21) (f1 : cl_RT T x1 22) (f3 : cl_RT T x3 25) (hl : lv_has ls 9 [(0, .ref (c0 + a)), (1, cl_rf c0 x1), (2, .int x2), (3, cl_rf c0 x3)]) : W p l e ({ frames := 4, cells := σ0.2.2.2.2.2.1, slots := σ0.2.2.2.2.2.2, locals := 96 }) s m args below meth c H locs cells slots (MQ below (cl_Q true D c0 (some (.int r)) cl_no σ0 σ') args s (σ0.2.2.2.2.2.1 - σ'.2.2.2.2.2.1) (σ0.2.2.2.2.2.2 - σ'.2.2.2.2.2.2) (cl_A c0 σ0.2.2.2.1 s.heap.size)) (F0 m 83 ls [.int v0]) := by
  unfold bc_X5_seal_83 at h
  refine lv_istore (lv' := [(5, .int v0), (0, .ref (c0 + a)), (1, cl_rf c0 x1), (2, .int x2), (3, cl_rf c0 x3)]) C.1 C.2.1 dX5_seal_83 hl (by decide) (by first | rfl | (cases x1 <;> cases x3 <;> rfl)) (fun ls hl_42 => ?_)
  refine lv_aload_n C.1 C.2.1 dX5_seal_85 rfl (lv_at hl_42 1 rfl) ?_
  refine cl_aload_n C.1 C.2.1 dX5_seal_86 rfl (lv_at hl_42 2 rfl) ?_
  obtain ⟨a_43, rfl, h_45⟩ := nn_some h
  have t_44 := f1 _ rfl
  refine cg_5_306 C G t_44 dX5_seal_87 ?_
  refine lv_iload_n C.1 C.2.1 dX5_seal_90 rfl (lv_at hl_42 3 rfl) ?_
  obtain ⟨r_47, σ_46, hq, h_48⟩ := bd2_some h_45
  refine cl_callV (ci := 5) (rest := []) C G rfl ha cw_RX5_154 [.int (σ.1 a_43 3), .int x2] _ (kc_X5_firstCopy l D c0 (by rw [G.1]; exact ha) hq) (Nat.le_of_ble_eq_true rfl) (Nat.le_of_ble_eq_true rfl) rfl rfl hl_42.1 (Nat.le_of_ble_eq_true rfl) dX5_seal_91 (fun T_49 H locs cells slots t_50 hu G_51 => ?_)
  have ha := hu.kind ha (by decide)
  have t_44 := hu.kind t_44 (by decide)
  have f3 := f3.up hu (by decide)
  refine W.eq (g2 := F0 m 94 ls [.int r_47]) rfl ?_
  refine lv_iload C.1 C.2.1 dX5_seal_94 (lv_at hl_42 0 rfl) ?_
  refine lv_iconst (v := (1:Int32)) C.1 C.2.1 dX5_seal_96 (by decide) ?_
  refine lv_iand C.1 C.2.1 dX5_seal_97 ?_
  refine lv_iadd C.1 C.2.1 dX5_seal_98 ?_
  refine vt_i h_48 (fun x6_52 h_53 => ?_)
  refine lv_istore (lv' := [(6, .int x6_52), (5, .int v0), (0, .ref (c0 + a)), (1, .ref (c0 + a_43)), (2, .int x2), (3, cl_rf c0 x3)]) C.1 C.2.1 dX5_seal_99 hl_42 (by decide) (by first | rfl | (cases x3 <;> rfl)) (fun ls hl_54 => ?_)
  refine lv_aload_n C.1 C.2.1 dX5_seal_101 rfl (lv_at hl_54 2 rfl) ?_
  refine lv_dup C.1 C.2.1 dX5_seal_102 rfl ?_
  refine cg_5_387 C G_51 ha dX5_seal_103 ?_
  refine lv_iconst (v := (1:Int32)) C.1 C.2.1 dX5_seal_106 (by decide) ?_
  refine lv_iadd C.1 C.2.1 dX5_seal_107 ?_
  refine cp_5_387 C G_51 ha dX5_seal_108 (fun H locs G_56 => ?_)
  refine cl_nm G_56 h_53 (fun σ_55 G_57 h_58 => ?_)
  refine lv_aload_n C.1 C.2.1 dX5_seal_111 rfl (lv_at hl_54 2 rfl) ?_
  obtain ⟨r_60, σ_59, hq, h_61⟩ := bd2_some h_58
  refine cl_callV (ci := 5) (rest := []) C G_57 rfl ha cw_RX5_390 [] _ (kc_X5_powerGoes l D c0 (by rw [G_57.1]; exact ha) hq) (Nat.le_of_ble_eq_true rfl) (Nat.le_of_ble_eq_true rfl) rfl rfl hl_54.1 (Nat.le_of_ble_eq_true rfl) dX5_seal_112 (fun T_62 H locs cells slots t_63 hu G_64 => ?_)
  have ha := hu.kind ha (by decide)
  have t_44 := hu.kind t_44 (by decide)
  have f3 := f3.up hu (by decide)
  refine W.eq (g2 := F0 m 115 ls [.int r_60]) rfl ?_
  refine lv_if_eq (tgt := 134) C.1 C.2.1 dX5_seal_115 (by decide) (fun hc => ?_) (fun hc => ?_)
  · rw [if_pos hc] at h_61
    refine lv_aload_n C.1 C.2.1 dX5_seal_134 rfl (lv_at hl_54 2 rfl) ?_
    refine cg_5_51 C G_64 ha dX5_seal_135 (fun t_65 => ?_)
    have t_65 : (T_62 31).1 = 26 := by rw [t_65]
    refine lv_iconst (v := (3:Int32)) C.1 C.2.1 dX5_seal_138 (by decide) ?_
    refine lv_aload_n C.1 C.2.1 dX5_seal_139 rfl (lv_at hl_54 2 rfl) ?_
    refine cg_5_51 C G_64 ha dX5_seal_140 (fun t_66 => ?_)
    have t_66 : (T_62 31).1 = 26 := by rw [t_66]
    refine lv_iload_n C.1 C.2.1 dX5_seal_143 rfl (lv_at hl_54 4 rfl) ?_
    obtain ⟨r_68, σ_67, hq, h_69⟩ := bd2_some h_61
    refine cl_callV (ci := 10) (rest := [.int (3:Int32), .ref (c0 + 31)]) C G_64 rfl t_66 cw_RX5_393 [.int x2] _ (kc_X10_numberTerm l D c0 (by rw [G_64.1]; exact t_66) hq) (Nat.le_of_ble_eq_true rfl) (Nat.le_of_ble_eq_true rfl) rfl rfl hl_54.1 (Nat.le_of_ble_eq_true rfl) dX5_seal_144 (fun T_70 H locs cells slots t_71 hu G_72 => ?_)
    have ha := hu.kind ha (by decide)
    have t_44 := hu.kind t_44 (by decide)
    have f3 := f3.up hu (by decide)
    have t_65 := hu.kind t_65 (by decide)
    refine W.eq (g2 := F0 m 147 ls [cl_rf c0 r_68, .int (3:Int32), .ref (c0 + 31)]) rfl ?_
    refine lv_aload_n C.1 C.2.1 dX5_seal_147 rfl (lv_at hl_54 2 rfl) ?_
    refine cg_5_51 C G_72 ha dX5_seal_148 (fun t_73 => ?_)
    have t_73 : (T_70 31).1 = 26 := by rw [t_73]
    refine lv_iload C.1 C.2.1 dX5_seal_151 (lv_at hl_54 1 rfl) ?_
    obtain ⟨r_75, σ_74, hq, h_76⟩ := bd2_some h_69
    refine cl_callV (ci := 10) (rest := [cl_rf c0 r_68, .int (3:Int32), .ref (c0 + 31)]) C G_72 rfl t_73 cw_RX5_393 [.int v0] _ (kc_X10_numberTerm l D c0 (by rw [G_72.1]; exact t_73) hq) (Nat.le_of_ble_eq_true rfl) (Nat.le_of_ble_eq_true rfl) rfl rfl hl_54.1 (by cases r_68 <;> exact Nat.le_of_ble_eq_true rfl) dX5_seal_153 (fun T_77 H locs cells slots t_78 hu G_79 => ?_)
    have ha := hu.kind ha (by decide)
    have t_44 := hu.kind t_44 (by decide)
    have f3 := f3.up hu (by decide)
    have t_65 := hu.kind t_65 (by decide)
    have t_71 := t_71.up hu (by decide)
    refine W.eq (g2 := F0 m 156 ls [cl_rf c0 r_75, cl_rf c0 r_68, .int (3:Int32), .ref (c0 + 31)]) rfl ?_
    refine lv_aload_n C.1 C.2.1 dX5_seal_156 rfl (lv_at hl_54 2 rfl) ?_
    refine cg_5_51 C G_79 ha dX5_seal_157 (fun t_80 => ?_)
    have t_80 : (T_77 31).1 = 26 := by rw [t_80]
    refine cg_5_83 C G_79 t_80 dX5_seal_160 (fun t_81 => ?_)
    refine vt_r (K := 25) t_81 h_76 (fun r_82 t_83 h_84 => ?_)
    obtain ⟨r_86, σ_85, hq, h_87⟩ := bd2_some h_84
    refine cl_callV (ci := 10) (rest := []) C G_79 rfl t_65 cw_RX5_396 [.int (3:Int32), cl_rf c0 r_68, cl_rf c0 r_75, cl_rf c0 r_82] _ (kc_X10_made l D c0 (by rw [G_79.1]; exact t_65) hq (by rw [G_79.1]; exact t_71) (by rw [G_79.1]; exact t_78) (by rw [G_79.1]; exact t_83)) (Nat.le_of_ble_eq_true rfl) (Nat.le_of_ble_eq_true rfl) rfl rfl hl_54.1 (Nat.le_of_ble_eq_true rfl) dX5_seal_163 (fun T_88 H locs cells slots t_89 hu G_90 => ?_)
    have ha := hu.kind ha (by decide)
    have t_44 := hu.kind t_44 (by decide)
    have f3 := f3.up hu (by decide)
    refine W.eq (g2 := F0 m 166 ls [cl_rf c0 r_86]) rfl ?_
    refine cl_astore (lv' := [(7, cl_rf c0 r_86), (6, .int x6_52), (5, .int v0), (0, .ref (c0 + a)), (1, .ref (c0 + a_43)), (2, .int x2), (3, cl_rf c0 x3)]) C.1 C.2.1 dX5_seal_166 hl_54 (by decide) (by first | rfl | (cases x3 <;> rfl)) (fun ls hl_91 => ?_)
    refine lv_aload_n C.1 C.2.1 dX5_seal_168 rfl (lv_at hl_91 3 rfl) ?_
    refine cg_5_51 C G_90 ha dX5_seal_169 (fun t_92 => ?_)
    have t_92 : (T_88 31).1 = 26 := by rw [t_92]
    refine lv_bipush (v := (8:Int32)) C.1 C.2.1 dX5_seal_172 (by decide) ?_
    refine lv_aload_n C.1 C.2.1 dX5_seal_174 rfl (lv_at hl_91 4 rfl) ?_
    refine cg_5_365 C G_90 t_44 dX5_seal_175 (fun t_93 => ?_)
    refine vt_r (K := 25) t_93 h_87 (fun r_94 t_95 h_96 => ?_)
    refine cl_aload C.1 C.2.1 dX5_seal_178 (lv_at hl_91 0 rfl) ?_
    refine cl_aload_n C.1 C.2.1 dX5_seal_180 rfl (lv_at hl_91 6 rfl) ?_
    obtain ⟨r_98, σ_97, hq, h_99⟩ := bd2_some h_96
    refine cl_callV (ci := 10) (rest := []) C G_90 rfl t_92 cw_RX5_396 [.int (8:Int32), cl_rf c0 r_94, cl_rf c0 r_86, cl_rf c0 x3] _ (kc_X10_made l D c0 (by rw [G_90.1]; exact t_92) hq (by rw [G_90.1]; exact t_95) (by rw [G_90.1]; exact t_89) (by rw [G_90.1]; exact f3)) (Nat.le_of_ble_eq_true rfl) (Nat.le_of_ble_eq_true rfl) rfl rfl hl_91.1 (Nat.le_of_ble_eq_true rfl) dX5_seal_181 (fun T_100 H locs cells slots t_101 hu G_102 => ?_)
    have t_89 := t_89.up hu (by decide)
    have ha := hu.kind ha (by decide)
    have t_44 := hu.kind t_44 (by decide)
    have f3 := f3.up hu (by decide)
    refine W.eq (g2 := F0 m 184 ls [cl_rf c0 r_98]) rfl ?_
    refine cl_astore (lv' := [(8, cl_rf c0 r_98), (7, cl_rf c0 r_86), (6, .int x6_52), (5, .int v0), (0, .ref (c0 + a)), (1, .ref (c0 + a_43)), (2, .int x2), (3, cl_rf c0 x3)]) C.1 C.2.1 dX5_seal_184 hl_91 (by decide) (by first | rfl | (cases r_86 <;> cases x3 <;> rfl)) (fun ls hl_103 => ?_)
    refine lv_aload_n C.1 C.2.1 dX5_seal_186 rfl (lv_at hl_103 4 rfl) ?_
    refine cg_5_55 C G_102 ha dX5_seal_187 (fun t_104 => ?_)
    refine vt_r (K := 19) t_104 h_99 (fun r_105 t_106 h_107 => ?_)
    refine lv_iload C.1 C.2.1 dX5_seal_190 (lv_at hl_103 2 rfl) ?_
    refine lv_iload C.1 C.2.1 dX5_seal_192 (lv_at hl_103 3 rfl) ?_
    refine cl_aload C.1 C.2.1 dX5_seal_194 (lv_at hl_103 0 rfl) ?_
    obtain ⟨a_108, rfl, h_110⟩ := nn_some h_107
    have t_109 := t_106 _ rfl
    obtain ⟨σ_111, hq, h_112⟩ := bd1_some h_110
    refine cl_callV (ci := 3) (rest := []) C G_102 rfl t_109 cw_RX5_400 [.int x6_52, .int v0, cl_rf c0 r_98] _ (kc_X3_fill l D c0 (by rw [G_102.1]; exact t_109) hq (by rw [G_102.1]; exact t_101)) (Nat.le_of_ble_eq_true rfl) (Nat.le_of_ble_eq_true rfl) rfl rfl hl_103.1 (Nat.le_of_ble_eq_true rfl) dX5_seal_196 (fun T_113 H locs cells slots t_114 hu G_115 => ?_)
    have t_101 := t_101.up hu (by decide)
    have t_89 := t_89.up hu (by decide)
    have ha := hu.kind ha (by decide)
    have t_44 := hu.kind t_44 (by decide)
    have f3 := f3.up hu (by decide)
    refine W.eq (g2 := F0 m 199 ls []) rfl ?_
    refine lv_aload_n C.1 C.2.1 dX5_seal_199 rfl (lv_at hl_103 5 rfl) ?_
    refine lv_dup C.1 C.2.1 dX5_seal_200 rfl ?_
    refine cg_5_384 C G_115 t_44 dX5_seal_201 ?_
    refine lv_iconst (v := (1:Int32)) C.1 C.2.1 dX5_seal_204 (by decide) ?_
    refine lv_iadd C.1 C.2.1 dX5_seal_205 ?_
    refine cp_5_384 C G_115 t_44 dX5_seal_206 (fun H locs G_117 => ?_)
    refine cl_nm G_117 h_112 (fun σ_116 G_118 h_119 => ?_)
    refine lv_aload_n C.1 C.2.1 dX5_seal_209 rfl (lv_at hl_103 4 rfl) ?_
    refine cg_5_59 C G_118 ha dX5_seal_210 ?_
    refine lv_if_eq (tgt := 225) C.1 C.2.1 dX5_seal_213 (by decide) (fun hc => ?_) (fun hc => ?_)
    · rw [if_pos hc] at h_119
      refine lv_iload C.1 C.2.1 dX5_seal_225 (lv_at hl_103 3 rfl) ?_
      exact cl_iret ⟨rfl, rfl⟩ rfl C G_118 h_119 dX5_seal_227
    · rw [if_neg hc] at h_119
      refine lv_aload_n C.1 C.2.1 dX5_seal_216 rfl (lv_at hl_103 4 rfl) ?_
      refine cg_5_51 C G_118 ha dX5_seal_217 (fun t_120 => ?_)
      have t_120 : (T_113 31).1 = 26 := by rw [t_120]
      refine cl_aload C.1 C.2.1 dX5_seal_220 (lv_at hl_103 0 rfl) ?_
      obtain ⟨σ_121, hq, h_122⟩ := bd1_some h_119
      refine cl_callV (ci := 10) (rest := []) C G_118 rfl t_120 cw_RX5_339 [cl_rf c0 r_98] _ (kc_X10_tell l D c0 (by rw [G_118.1]; exact t_120) hq (by rw [G_118.1]; exact t_101)) (Nat.le_of_ble_eq_true rfl) (Nat.le_of_ble_eq_true rfl) rfl rfl hl_103.1 (Nat.le_of_ble_eq_true rfl) dX5_seal_222 (fun T_123 H locs cells slots t_124 hu G_125 => ?_)
      have t_101 := t_101.up hu (by decide)
      have t_89 := t_89.up hu (by decide)
      have ha := hu.kind ha (by decide)
      have t_44 := hu.kind t_44 (by decide)
      have f3 := f3.up hu (by decide)
      refine W.eq (g2 := F0 m 225 ls []) rfl ?_
      refine lv_iload C.1 C.2.1 dX5_seal_225 (lv_at hl_103 3 rfl) ?_
      exact cl_iret ⟨rfl, rfl⟩ rfl C G_125 h_122 dX5_seal_227
  · rw [if_neg hc] at h_61
    refine lv_aload_n C.1 C.2.1 dX5_seal_118 rfl (lv_at hl_54 2 rfl) ?_
    refine cg_5_55 C G_64 ha dX5_seal_119 (fun t_126 => ?_)
    refine vt_r (K := 19) t_126 h_61 (fun r_127 t_128 h_129 => ?_)
    refine lv_iload C.1 C.2.1 dX5_seal_122 (lv_at hl_54 0 rfl) ?_
    obtain ⟨a_130, rfl, h_132⟩ := nn_some h_129
    have t_131 := t_128 _ rfl
    obtain ⟨σ_133, hq, h_134⟩ := bd1_some h_132
    refine cl_callV (ci := 3) (rest := []) C G_64 rfl t_131 cw_RX5_158 [.int x6_52] _ (kc_X3_empty l D c0 (by rw [G_64.1]; exact t_131) hq) (Nat.le_of_ble_eq_true rfl) (Nat.le_of_ble_eq_true rfl) rfl rfl hl_54.1 (Nat.le_of_ble_eq_true rfl) dX5_seal_124 (fun T_135 H locs cells slots t_136 hu G_137 => ?_)
    have ha := hu.kind ha (by decide)
    have t_44 := hu.kind t_44 (by decide)
    have f3 := f3.up hu (by decide)
    refine W.eq (g2 := F0 m 127 ls []) rfl ?_
    refine lv_aload_n C.1 C.2.1 dX5_seal_127 rfl (lv_at hl_54 2 rfl) ?_
    refine lv_iconst (v := (0:Int32)) C.1 C.2.1 dX5_seal_128 (by decide) ?_
    refine cp_5_133 C G_137 ha rfl rfl dX5_seal_129 (fun H locs G_139 => ?_)
    refine cl_nm G_139 h_134 (fun σ_138 G_140 h_141 => ?_)
    refine lv_iconst (v := (0:Int32)) C.1 C.2.1 dX5_seal_132 (by decide) ?_
    exact cl_iret ⟨rfl, rfl⟩ rfl C G_140 h_141 dX5_seal_133
noncomputable def bc_X5_seal_0 (a : Nat) (x1 : (Option Nat)) (x2 : Int32) (σ : cl_S) : Option (Int32 × cl_S) := bd2 (fc_X5_hasBlob a x1 x2 σ) (fun r_2 σ_1 => (if r_2 = 0 then some ((-1:Int32), σ_1) else nn x1 (fun a_7 => ix (2:Int32) 16 (bd2 (fc_X8_at (a_7 + 9) (σ_1.1 ((a_7 + 1) + 2) (2:Int32).toNatClampNeg) σ_1) (fun r_15 σ_14 => vl (σ_14.2.2.1 31 4) (fun r_23 => (if r_15 = r_23 then some ((-2:Int32), σ_14) else (if (σ_14.1 a_7 14) < (40:Int32) then bd2 (fc_X5_countingBlock a (some a_7) x2 σ_14) (fun r_27 σ_26 => (if 0 ≤ r_27 then vl (σ_26.2.2.1 a 1) (fun r_34 => nn r_34 (fun a_37 => ix r_27 64 (bc_X5_seal_83 a (some a_7) x2 r_15 ((σ_26.1 (a_37 + 1) r_27.toNatClampNeg) + (1:Int32)) σ_26))) else bc_X5_seal_83 a (some a_7) x2 r_15 (1:Int32) σ_26)) else some ((-4:Int32), σ_14)))))))))
set_option maxHeartbeats 4000000 in
theorem wc_X5_seal_0 (C : cl_C D p s m args meth c cX5_seal 9 (some .int) RX5) {r : Int32} {a : Nat} {x1 : (Option Nat)} {x2 : Int32} {σ0 σ σ' : cl_S} {T : Nat → Nat × Nat} {H : Heap} {locs : List Loc} {ls : Array Slot} {cells slots : Nat} (h : bc_X5_seal_0 a x1 x2 σ = some (r, σ')) (G : cl_G true D c0 ({ frames := 4, cells := σ0.2.2.2.2.2.1, slots := σ0.2.2.2.2.2.2, locals := 96 }) s σ0.2.2.2.1 T σ H locs cells slots) (ha : (T a).1 = 21) (f1 : cl_RT T x1 22) (hl : lv_has ls 9 [(0, .ref (c0 + a)), (1, cl_rf c0 x1), (2, .int x2)]) : W p l e ({ frames := 4, cells := σ0.2.2.2.2.2.1, slots := σ0.2.2.2.2.2.2, locals := 96 }) s m args below meth c H locs cells slots (MQ below (cl_Q true D c0 (some (.int r)) cl_no σ0 σ') args s (σ0.2.2.2.2.2.1 - σ'.2.2.2.2.2.1) (σ0.2.2.2.2.2.2 - σ'.2.2.2.2.2.2) (cl_A c0 σ0.2.2.2.1 s.heap.size)) (F0 m 0 ls []) := by
  unfold bc_X5_seal_0 at h
  refine lv_aload_n C.1 C.2.1 dX5_seal_0 rfl (lv_at hl 0 rfl) ?_
  refine cl_aload_n C.1 C.2.1 dX5_seal_1 rfl (lv_at hl 1 rfl) ?_
  refine lv_iload_n C.1 C.2.1 dX5_seal_2 rfl (lv_at hl 2 rfl) ?_
  obtain ⟨r_2, σ_1, hq, h_3⟩ := bd2_some h
  refine cl_callV (ci := 5) (rest := []) C G rfl ha cw_RX5_372 [cl_rf c0 x1, .int x2] _ (kc_X5_hasBlob l D c0 (by rw [G.1]; exact ha) hq (by rw [G.1]; exact f1)) (Nat.le_of_ble_eq_true rfl) (Nat.le_of_ble_eq_true rfl) rfl rfl hl.1 (Nat.le_of_ble_eq_true rfl) dX5_seal_3 (fun T_4 H locs cells slots t_5 hu G_6 => ?_)
  have ha := hu.kind ha (by decide)
  have f1 := f1.up hu (by decide)
  refine W.eq (g2 := F0 m 6 ls [.int r_2]) rfl ?_
  refine lv_if_ne (tgt := 11) C.1 C.2.1 dX5_seal_6 (by decide) (fun hc => ?_) (fun hc => ?_)
  · rw [if_neg hc] at h_3
    refine cl_aload_n C.1 C.2.1 dX5_seal_11 rfl (lv_at hl 1 rfl) ?_
    obtain ⟨a_7, rfl, h_9⟩ := nn_some h_3
    have t_8 := f1 _ rfl
    refine cg_5_199 C G_6 t_8 dX5_seal_12 (fun t_10 => ?_)
    have t_10 : (T_4 (a_7 + 9)).1 = 24 := by rw [t_10]
    refine lv_aload_n C.1 C.2.1 dX5_seal_15 rfl (lv_at hl 1 rfl) ?_
    refine cg_5_121 C G_6 t_8 dX5_seal_16 (fun t_11 => ?_)
    have t_11 : (T_4 (a_7 + 1)).1 = 18 := by rw [t_11]
    refine cg_5_193 C G_6 t_11 dX5_seal_19 (fun t_12 => ?_)
    refine lv_iconst (v := (2:Int32)) C.1 C.2.1 dX5_seal_22 (by decide) ?_
    obtain ⟨hi, h_13⟩ := ix_some h_9
    refine cl_iald C G_6 t_12 hi dX5_seal_23 ?_
    obtain ⟨r_15, σ_14, hq, h_16⟩ := bd2_some h_13
    refine cl_callV (ci := 8) (rest := []) C G_6 rfl t_10 cw_RX5_203 [.int (σ_1.1 ((a_7 + 1) + 2) (2:Int32).toNatClampNeg)] _ (kc_X8_at l D c0 (by rw [G_6.1]; exact t_10) hq) (Nat.le_of_ble_eq_true rfl) (Nat.le_of_ble_eq_true rfl) rfl rfl hl.1 (Nat.le_of_ble_eq_true rfl) dX5_seal_24 (fun T_17 H locs cells slots t_18 hu G_19 => ?_)
    have ha := hu.kind ha (by decide)
    have t_8 := hu.kind t_8 (by decide)
    refine W.eq (g2 := F0 m 27 ls [cl_rf c0 r_15]) rfl ?_
    refine cl_astore_n (lv' := [(3, cl_rf c0 r_15), (0, .ref (c0 + a)), (1, .ref (c0 + a_7)), (2, .int x2)]) C.1 C.2.1 dX5_seal_27 rfl hl (by decide) rfl (fun ls hl_20 => ?_)
    refine cl_aload_n C.1 C.2.1 dX5_seal_28 rfl (lv_at hl_20 0 rfl) ?_
    refine lv_aload_n C.1 C.2.1 dX5_seal_29 rfl (lv_at hl_20 1 rfl) ?_
    refine cg_5_51 C G_19 ha dX5_seal_30 (fun t_21 => ?_)
    have t_21 : (T_17 31).1 = 26 := by rw [t_21]
    refine cg_5_83 C G_19 t_21 dX5_seal_33 (fun t_22 => ?_)
    refine vt_r (K := 25) t_22 h_16 (fun r_23 t_24 h_25 => ?_)
    refine cl_acmp_ne (rx := r_15) (ry := r_23) (tgt := 42) C.1 C.2.1 dX5_seal_36 (by decide) (fun hc => ?_) (fun hc => ?_)
    · rw [if_neg hc] at h_25
      refine lv_aload_n C.1 C.2.1 dX5_seal_42 rfl (lv_at hl_20 2 rfl) ?_
      refine cg_5_384 C G_19 t_8 dX5_seal_43 ?_
      refine lv_bipush (v := (40:Int32)) C.1 C.2.1 dX5_seal_46 (by decide) ?_
      refine lv_icmp_lt (tgt := 54) C.1 C.2.1 dX5_seal_48 (by decide) (fun hc => ?_) (fun hc => ?_)
      · rw [if_pos hc] at h_25
        refine lv_aload_n C.1 C.2.1 dX5_seal_54 rfl (lv_at hl_20 1 rfl) ?_
        refine lv_aload_n C.1 C.2.1 dX5_seal_55 rfl (lv_at hl_20 2 rfl) ?_
        refine lv_iload_n C.1 C.2.1 dX5_seal_56 rfl (lv_at hl_20 3 rfl) ?_
        obtain ⟨r_27, σ_26, hq, h_28⟩ := bd2_some h_25
        refine cl_callV (ci := 5) (rest := []) C G_19 rfl ha cw_RX5_375 [.ref (c0 + a_7), .int x2] _ (kc_X5_countingBlock l D c0 (by rw [G_19.1]; exact ha) hq (by rw [G_19.1]; exact (cl_RTs t_8))) (Nat.le_of_ble_eq_true rfl) (Nat.le_of_ble_eq_true rfl) rfl rfl hl_20.1 (Nat.le_of_ble_eq_true rfl) dX5_seal_57 (fun T_29 H locs cells slots t_30 hu G_31 => ?_)
        have t_18 := t_18.up hu (by decide)
        have ha := hu.kind ha (by decide)
        have t_8 := hu.kind t_8 (by decide)
        refine W.eq (g2 := F0 m 60 ls [.int r_27]) rfl ?_
        refine lv_istore (lv' := [(4, .int r_27), (3, cl_rf c0 r_15), (0, .ref (c0 + a)), (1, .ref (c0 + a_7)), (2, .int x2)]) C.1 C.2.1 dX5_seal_60 hl_20 (by decide) (by first | rfl | (cases r_15 <;> rfl)) (fun ls hl_32 => ?_)
        refine lv_iload C.1 C.2.1 dX5_seal_62 (lv_at hl_32 0 rfl) ?_
        refine lv_if_ge (tgt := 71) C.1 C.2.1 dX5_seal_64 (by decide) (fun hc => ?_) (fun hc => ?_)
        · rw [if_pos hc] at h_28
          refine lv_aload_n C.1 C.2.1 dX5_seal_71 rfl (lv_at hl_32 2 rfl) ?_
          refine cg_5_55 C G_31 ha dX5_seal_72 (fun t_33 => ?_)
          refine vt_r (K := 19) t_33 h_28 (fun r_34 t_35 h_36 => ?_)
          obtain ⟨a_37, rfl, h_39⟩ := nn_some h_36
          have t_38 := t_35 _ rfl
          refine cg_5_378 C G_31 t_38 dX5_seal_75 (fun t_40 => ?_)
          refine lv_iload C.1 C.2.1 dX5_seal_78 (lv_at hl_32 0 rfl) ?_
          obtain ⟨hi, h_41⟩ := ix_some h_39
          refine cl_iald C G_31 t_40 hi dX5_seal_80 ?_
          refine lv_iconst (v := (1:Int32)) C.1 C.2.1 dX5_seal_81 (by decide) ?_
          refine lv_iadd C.1 C.2.1 dX5_seal_82 ?_
          exact wc_X5_seal_83 C h_41 G_31 ha (cl_RTs t_8) t_18 (lv_sub hl_32 [2, 3, 4, 1] rfl)
        · rw [if_neg hc] at h_28
          refine lv_iconst (v := (1:Int32)) C.1 C.2.1 dX5_seal_67 (by decide) ?_
          refine lv_goto (tgt := 83) C.1 C.2.1 dX5_seal_68 (by decide) ?_
          exact wc_X5_seal_83 C h_28 G_31 ha (cl_RTs t_8) t_18 (lv_sub hl_32 [2, 3, 4, 1] rfl)
      · rw [if_neg hc] at h_25
        refine lv_bipush (v := (-4:Int32)) C.1 C.2.1 dX5_seal_51 (by decide) ?_
        exact cl_iret ⟨rfl, rfl⟩ rfl C G_19 h_25 dX5_seal_53
    · rw [if_pos hc] at h_25
      refine lv_bipush (v := (-2:Int32)) C.1 C.2.1 dX5_seal_39 (by decide) ?_
      exact cl_iret ⟨rfl, rfl⟩ rfl C G_19 h_25 dX5_seal_41
  · rw [if_pos hc] at h_3
    refine lv_iconst (v := (-1:Int32)) C.1 C.2.1 dX5_seal_9 (by decide) ?_
    exact cl_iret ⟨rfl, rfl⟩ rfl C G_6 h_3 dX5_seal_10
noncomputable def fc_X5_seal (a : Nat) (x1 : (Option Nat)) (x2 : Int32) (σ : cl_S) : Option (Int32 × cl_S) := bc_X5_seal_0 a x1 x2 σ
theorem kc_X5_seal (l : Launch) (D : cl_D) (c0 : Nat) {r : Int32} {a : Nat} {x1 : (Option Nat)} {x2 : Int32} {σ σ' : cl_S} (ha : (σ.2.2.2.1 a).1 = 21) (h : fc_X5_seal a x1 x2 σ = some (r, σ')) (f1 : cl_RT σ.2.2.2.1 x1 22) : cl_Met true l D c0 yX5_seal cX5_seal 9 (some .int) 4 96 [.ref (c0 + a), cl_rf c0 x1, .int x2] σ (some (.int r)) cl_no σ' :=
  by cases x1 <;> exact cl_of (by decide) (Nat.le_of_ble_eq_true rfl) (fun p e s m args below meth c ls C hn G hl => wc_X5_seal_0 C h G ha f1 hl)
abbrev cX5_unseal : ByteArray := prog_7_method_29_code
def yX5_unseal : MethodName := ⟨RX5, "unseal", "(LPartHouse$Partition;I)I"⟩
theorem dX5_unseal_0 : decode cX5_unseal 0 = .ok (.aload_n 0, 1) := by decide +kernel
theorem dX5_unseal_1 : decode cX5_unseal 1 = .ok (.aload_n 1, 1) := by decide +kernel
theorem dX5_unseal_2 : decode cX5_unseal 2 = .ok (.iload_n 2, 1) := by decide +kernel
theorem dX5_unseal_3 : decode cX5_unseal 3 = .ok (.invokevirtual 372, 3) := by decide +kernel
theorem dX5_unseal_6 : decode cX5_unseal 6 = .ok (.ifCond .ne 5, 3) := by decide +kernel
theorem dX5_unseal_9 : decode cX5_unseal 9 = .ok (.iconst (-1), 1) := by decide +kernel
theorem dX5_unseal_10 : decode cX5_unseal 10 = .ok (.ireturn, 1) := by decide +kernel
theorem dX5_unseal_11 : decode cX5_unseal 11 = .ok (.aload_n 0, 1) := by decide +kernel
theorem dX5_unseal_12 : decode cX5_unseal 12 = .ok (.aload_n 1, 1) := by decide +kernel
theorem dX5_unseal_13 : decode cX5_unseal 13 = .ok (.iload_n 2, 1) := by decide +kernel
theorem dX5_unseal_14 : decode cX5_unseal 14 = .ok (.invokevirtual 375, 3) := by decide +kernel
theorem dX5_unseal_17 : decode cX5_unseal 17 = .ok (.istore_n 3, 1) := by decide +kernel
theorem dX5_unseal_18 : decode cX5_unseal 18 = .ok (.iload_n 3, 1) := by decide +kernel
theorem dX5_unseal_19 : decode cX5_unseal 19 = .ok (.ifCond .ge 8, 3) := by decide +kernel
theorem dX5_unseal_22 : decode cX5_unseal 22 = .ok (.bipush (-3), 2) := by decide +kernel
theorem dX5_unseal_24 : decode cX5_unseal 24 = .ok (.goto 22, 3) := by decide +kernel
theorem dX5_unseal_27 : decode cX5_unseal 27 = .ok (.aload_n 1, 1) := by decide +kernel
theorem dX5_unseal_28 : decode cX5_unseal 28 = .ok (.getfield 199, 3) := by decide +kernel
theorem dX5_unseal_31 : decode cX5_unseal 31 = .ok (.aload_n 0, 1) := by decide +kernel
theorem dX5_unseal_32 : decode cX5_unseal 32 = .ok (.getfield 55, 3) := by decide +kernel
theorem dX5_unseal_35 : decode cX5_unseal 35 = .ok (.getfield 381, 3) := by decide +kernel
theorem dX5_unseal_38 : decode cX5_unseal 38 = .ok (.iload_n 3, 1) := by decide +kernel
theorem dX5_unseal_39 : decode cX5_unseal 39 = .ok (.aaload, 1) := by decide +kernel
theorem dX5_unseal_40 : decode cX5_unseal 40 = .ok (.getfield 348, 3) := by decide +kernel
theorem dX5_unseal_43 : decode cX5_unseal 43 = .ok (.invokevirtual 282, 3) := by decide +kernel
theorem dX5_unseal_46 : decode cX5_unseal 46 = .ok (.ireturn, 1) := by decide +kernel
theorem cc_X5_unseal : Cond.code yX5_unseal cX5_unseal 4 (some .int) ∈ rf_tb := rf_at 1321 (by decide +kernel) (by decide +kernel)
noncomputable def bc_X5_unseal_0 (a : Nat) (x1 : (Option Nat)) (x2 : Int32) (σ : cl_S) : Option (Int32 × cl_S) := bd2 (fc_X5_hasBlob a x1 x2 σ) (fun r_2 σ_1 => (if r_2 = 0 then some ((-1:Int32), σ_1) else bd2 (fc_X5_countingBlock a x1 x2 σ_1) (fun r_8 σ_7 => (if 0 ≤ r_8 then nn x1 (fun a_14 => vl (σ_7.2.2.1 a 1) (fun r_19 => nn r_19 (fun a_22 => ix r_8 64 (vl (σ_7.2.2.1 (a_22 + 2) r_8.toNatClampNeg) (fun r_28 => nn r_28 (fun a_31 => vl (σ_7.2.2.1 a_31 5) (fun r_35 => bd2 (fc_X8_comeIn (a_14 + 9) r_35 σ_7) (fun r_39 σ_38 => some (r_39, σ_38))))))))) else some ((-3:Int32), σ_7)))))
set_option maxHeartbeats 4000000 in
theorem wc_X5_unseal_0 (C : cl_C D p s m args meth c cX5_unseal 4 (some .int) RX5) {r : Int32} {a : Nat} {x1 : (Option Nat)} {x2 : Int32} {σ0 σ σ' : cl_S} {T : Nat → Nat × Nat} {H : Heap} {locs : List Loc} {ls : Array Slot} {cells slots : Nat} (h : bc_X5_unseal_0 a x1 x2 σ = some (r, σ')) (G : cl_G true D c0 ({ frames := 3, cells := σ0.2.2.2.2.2.1, slots := σ0.2.2.2.2.2.2, locals := 73 }) s σ0.2.2.2.1 T σ H locs cells slots) (ha : (T a).1 = 21) (f1 : cl_RT T x1 22) (hl : lv_has ls 4 [(0, .ref (c0 + a)), (1, cl_rf c0 x1), (2, .int x2)]) : W p l e ({ frames := 3, cells := σ0.2.2.2.2.2.1, slots := σ0.2.2.2.2.2.2, locals := 73 }) s m args below meth c H locs cells slots (MQ below (cl_Q true D c0 (some (.int r)) cl_no σ0 σ') args s (σ0.2.2.2.2.2.1 - σ'.2.2.2.2.2.1) (σ0.2.2.2.2.2.2 - σ'.2.2.2.2.2.2) (cl_A c0 σ0.2.2.2.1 s.heap.size)) (F0 m 0 ls []) := by
  unfold bc_X5_unseal_0 at h
  refine lv_aload_n C.1 C.2.1 dX5_unseal_0 rfl (lv_at hl 0 rfl) ?_
  refine cl_aload_n C.1 C.2.1 dX5_unseal_1 rfl (lv_at hl 1 rfl) ?_
  refine lv_iload_n C.1 C.2.1 dX5_unseal_2 rfl (lv_at hl 2 rfl) ?_
  obtain ⟨r_2, σ_1, hq, h_3⟩ := bd2_some h
  refine cl_callV (ci := 5) (rest := []) C G rfl ha cw_RX5_372 [cl_rf c0 x1, .int x2] _ (kc_X5_hasBlob l D c0 (by rw [G.1]; exact ha) hq (by rw [G.1]; exact f1)) (Nat.le_of_ble_eq_true rfl) (Nat.le_of_ble_eq_true rfl) rfl rfl hl.1 (Nat.le_of_ble_eq_true rfl) dX5_unseal_3 (fun T_4 H locs cells slots t_5 hu G_6 => ?_)
  have ha := hu.kind ha (by decide)
  have f1 := f1.up hu (by decide)
  refine W.eq (g2 := F0 m 6 ls [.int r_2]) rfl ?_
  refine lv_if_ne (tgt := 11) C.1 C.2.1 dX5_unseal_6 (by decide) (fun hc => ?_) (fun hc => ?_)
  · rw [if_neg hc] at h_3
    refine lv_aload_n C.1 C.2.1 dX5_unseal_11 rfl (lv_at hl 0 rfl) ?_
    refine cl_aload_n C.1 C.2.1 dX5_unseal_12 rfl (lv_at hl 1 rfl) ?_
    refine lv_iload_n C.1 C.2.1 dX5_unseal_13 rfl (lv_at hl 2 rfl) ?_
    obtain ⟨r_8, σ_7, hq, h_9⟩ := bd2_some h_3
    refine cl_callV (ci := 5) (rest := []) C G_6 rfl ha cw_RX5_375 [cl_rf c0 x1, .int x2] _ (kc_X5_countingBlock l D c0 (by rw [G_6.1]; exact ha) hq (by rw [G_6.1]; exact f1)) (Nat.le_of_ble_eq_true rfl) (Nat.le_of_ble_eq_true rfl) rfl rfl hl.1 (Nat.le_of_ble_eq_true rfl) dX5_unseal_14 (fun T_10 H locs cells slots t_11 hu G_12 => ?_)
    have ha := hu.kind ha (by decide)
    have f1 := f1.up hu (by decide)
    refine W.eq (g2 := F0 m 17 ls [.int r_8]) rfl ?_
    refine lv_istore_n (lv' := [(3, .int r_8), (0, .ref (c0 + a)), (1, cl_rf c0 x1), (2, .int x2)]) C.1 C.2.1 dX5_unseal_17 rfl hl (by decide) (by first | rfl | (cases x1 <;> rfl)) (fun ls hl_13 => ?_)
    refine lv_iload_n C.1 C.2.1 dX5_unseal_18 rfl (lv_at hl_13 0 rfl) ?_
    refine lv_if_ge (tgt := 27) C.1 C.2.1 dX5_unseal_19 (by decide) (fun hc => ?_) (fun hc => ?_)
    · rw [if_pos hc] at h_9
      refine cl_aload_n C.1 C.2.1 dX5_unseal_27 rfl (lv_at hl_13 2 rfl) ?_
      obtain ⟨a_14, rfl, h_16⟩ := nn_some h_9
      have t_15 := f1 _ rfl
      refine cg_5_199 C G_12 t_15 dX5_unseal_28 (fun t_17 => ?_)
      have t_17 : (T_10 (a_14 + 9)).1 = 24 := by rw [t_17]
      refine lv_aload_n C.1 C.2.1 dX5_unseal_31 rfl (lv_at hl_13 1 rfl) ?_
      refine cg_5_55 C G_12 ha dX5_unseal_32 (fun t_18 => ?_)
      refine vt_r (K := 19) t_18 h_16 (fun r_19 t_20 h_21 => ?_)
      obtain ⟨a_22, rfl, h_24⟩ := nn_some h_21
      have t_23 := t_20 _ rfl
      refine cg_5_381 C G_12 t_23 dX5_unseal_35 (fun t_25 => ?_)
      refine lv_iload_n C.1 C.2.1 dX5_unseal_38 rfl (lv_at hl_13 0 rfl) ?_
      obtain ⟨hi, h_26⟩ := ix_some h_24
      refine cl_aald C G_12 t_25 (by decide) (by decide) rfl hi dX5_unseal_39 (fun t_27 => ?_)
      refine vt_r (K := 25) t_27 h_26 (fun r_28 t_29 h_30 => ?_)
      obtain ⟨a_31, rfl, h_33⟩ := nn_some h_30
      have t_32 := t_29 _ rfl
      refine cg_5_348 C G_12 t_32 dX5_unseal_40 (fun t_34 => ?_)
      refine vt_r (K := 25) t_34 h_33 (fun r_35 t_36 h_37 => ?_)
      obtain ⟨r_39, σ_38, hq, h_40⟩ := bd2_some h_37
      refine cl_callV (ci := 8) (rest := []) C G_12 rfl t_17 cw_RX5_282 [cl_rf c0 r_35] _ (kc_X8_comeIn l D c0 (by rw [G_12.1]; exact t_17) hq (by rw [G_12.1]; exact t_36)) (Nat.le_of_ble_eq_true rfl) (Nat.le_of_ble_eq_true rfl) rfl rfl hl_13.1 (Nat.le_of_ble_eq_true rfl) dX5_unseal_43 (fun T_41 H locs cells slots t_42 hu G_43 => ?_)
      have ha := hu.kind ha (by decide)
      have t_15 := hu.kind t_15 (by decide)
      refine W.eq (g2 := F0 m 46 ls [.int r_39]) rfl ?_
      exact cl_iret ⟨rfl, rfl⟩ rfl C G_43 h_40 dX5_unseal_46
    · rw [if_neg hc] at h_9
      refine lv_bipush (v := (-3:Int32)) C.1 C.2.1 dX5_unseal_22 (by decide) ?_
      refine lv_goto (tgt := 46) C.1 C.2.1 dX5_unseal_24 (by decide) ?_
      exact cl_iret ⟨rfl, rfl⟩ rfl C G_12 h_9 dX5_unseal_46
  · rw [if_pos hc] at h_3
    refine lv_iconst (v := (-1:Int32)) C.1 C.2.1 dX5_unseal_9 (by decide) ?_
    exact cl_iret ⟨rfl, rfl⟩ rfl C G_6 h_3 dX5_unseal_10
noncomputable def fc_X5_unseal (a : Nat) (x1 : (Option Nat)) (x2 : Int32) (σ : cl_S) : Option (Int32 × cl_S) := bc_X5_unseal_0 a x1 x2 σ
theorem kc_X5_unseal (l : Launch) (D : cl_D) (c0 : Nat) {r : Int32} {a : Nat} {x1 : (Option Nat)} {x2 : Int32} {σ σ' : cl_S} (ha : (σ.2.2.2.1 a).1 = 21) (h : fc_X5_unseal a x1 x2 σ = some (r, σ')) (f1 : cl_RT σ.2.2.2.1 x1 22) : cl_Met true l D c0 yX5_unseal cX5_unseal 4 (some .int) 3 73 [.ref (c0 + a), cl_rf c0 x1, .int x2] σ (some (.int r)) cl_no σ' :=
  by cases x1 <;> exact cl_of (by decide) (Nat.le_of_ble_eq_true rfl) (fun p e s m args below meth c ls C hn G hl => wc_X5_unseal_0 C h G ha f1 hl)
abbrev cX5_versionThatCounts : ByteArray := prog_7_method_28_code
def yX5_versionThatCounts : MethodName := ⟨RX5, "versionThatCounts", "(LPartHouse$Partition;I)I"⟩
theorem dX5_versionThatCounts_0 : decode cX5_versionThatCounts 0 = .ok (.aload_n 0, 1) := by decide +kernel
theorem dX5_versionThatCounts_1 : decode cX5_versionThatCounts 1 = .ok (.aload_n 1, 1) := by decide +kernel
theorem dX5_versionThatCounts_2 : decode cX5_versionThatCounts 2 = .ok (.iload_n 2, 1) := by decide +kernel
theorem dX5_versionThatCounts_3 : decode cX5_versionThatCounts 3 = .ok (.invokevirtual 372, 3) := by decide +kernel
theorem dX5_versionThatCounts_6 : decode cX5_versionThatCounts 6 = .ok (.ifCond .ne 5, 3) := by decide +kernel
theorem dX5_versionThatCounts_9 : decode cX5_versionThatCounts 9 = .ok (.iconst (-1), 1) := by decide +kernel
theorem dX5_versionThatCounts_10 : decode cX5_versionThatCounts 10 = .ok (.ireturn, 1) := by decide +kernel
theorem dX5_versionThatCounts_11 : decode cX5_versionThatCounts 11 = .ok (.aload_n 0, 1) := by decide +kernel
theorem dX5_versionThatCounts_12 : decode cX5_versionThatCounts 12 = .ok (.aload_n 1, 1) := by decide +kernel
theorem dX5_versionThatCounts_13 : decode cX5_versionThatCounts 13 = .ok (.iload_n 2, 1) := by decide +kernel
theorem dX5_versionThatCounts_14 : decode cX5_versionThatCounts 14 = .ok (.invokevirtual 375, 3) := by decide +kernel
theorem dX5_versionThatCounts_17 : decode cX5_versionThatCounts 17 = .ok (.istore_n 3, 1) := by decide +kernel
theorem dX5_versionThatCounts_18 : decode cX5_versionThatCounts 18 = .ok (.iload_n 3, 1) := by decide +kernel
theorem dX5_versionThatCounts_19 : decode cX5_versionThatCounts 19 = .ok (.ifCond .ge 7, 3) := by decide +kernel
theorem dX5_versionThatCounts_22 : decode cX5_versionThatCounts 22 = .ok (.iconst 0, 1) := by decide +kernel
theorem dX5_versionThatCounts_23 : decode cX5_versionThatCounts 23 = .ok (.goto 12, 3) := by decide +kernel
theorem dX5_versionThatCounts_26 : decode cX5_versionThatCounts 26 = .ok (.aload_n 0, 1) := by decide +kernel
theorem dX5_versionThatCounts_27 : decode cX5_versionThatCounts 27 = .ok (.getfield 55, 3) := by decide +kernel
theorem dX5_versionThatCounts_30 : decode cX5_versionThatCounts 30 = .ok (.getfield 378, 3) := by decide +kernel
theorem dX5_versionThatCounts_33 : decode cX5_versionThatCounts 33 = .ok (.iload_n 3, 1) := by decide +kernel
theorem dX5_versionThatCounts_34 : decode cX5_versionThatCounts 34 = .ok (.iaload, 1) := by decide +kernel
theorem dX5_versionThatCounts_35 : decode cX5_versionThatCounts 35 = .ok (.ireturn, 1) := by decide +kernel
theorem cc_X5_versionThatCounts : Cond.code yX5_versionThatCounts cX5_versionThatCounts 4 (some .int) ∈ rf_tb := rf_at 1325 (by decide +kernel) (by decide +kernel)
noncomputable def bc_X5_versionThatCounts_0 (a : Nat) (x1 : (Option Nat)) (x2 : Int32) (σ : cl_S) : Option (Int32 × cl_S) := bd2 (fc_X5_hasBlob a x1 x2 σ) (fun r_2 σ_1 => (if r_2 = 0 then some ((-1:Int32), σ_1) else bd2 (fc_X5_countingBlock a x1 x2 σ_1) (fun r_8 σ_7 => (if 0 ≤ r_8 then vl (σ_7.2.2.1 a 1) (fun r_15 => nn r_15 (fun a_18 => ix r_8 64 (some ((σ_7.1 (a_18 + 1) r_8.toNatClampNeg), σ_7)))) else some ((0:Int32), σ_7)))))
set_option maxHeartbeats 4000000 in
theorem wc_X5_versionThatCounts_0 (C : cl_C D p s m args meth c cX5_versionThatCounts 4 (some .int) RX5) {r : Int32} {a : Nat} {x1 : (Option Nat)} {x2 : Int32} {σ0 σ σ' : cl_S} {T : Nat → Nat × Nat} {H : Heap} {locs : List Loc} {ls : Array Slot} {cells slots : Nat} (h : bc_X5_versionThatCounts_0 a x1 x2 σ = some (r, σ')) (G : cl_G true D c0 ({ frames := 3, cells := σ0.2.2.2.2.2.1, slots := σ0.2.2.2.2.2.2, locals := 73 }) s σ0.2.2.2.1 T σ H locs cells slots) (ha : (T a).1 = 21) (f1 : cl_RT T x1 22) (hl : lv_has ls 4 [(0, .ref (c0 + a)), (1, cl_rf c0 x1), (2, .int x2)]) : W p l e ({ frames := 3, cells := σ0.2.2.2.2.2.1, slots := σ0.2.2.2.2.2.2, locals := 73 }) s m args below meth c H locs cells slots (MQ below (cl_Q true D c0 (some (.int r)) cl_no σ0 σ') args s (σ0.2.2.2.2.2.1 - σ'.2.2.2.2.2.1) (σ0.2.2.2.2.2.2 - σ'.2.2.2.2.2.2) (cl_A c0 σ0.2.2.2.1 s.heap.size)) (F0 m 0 ls []) := by
  unfold bc_X5_versionThatCounts_0 at h
  refine lv_aload_n C.1 C.2.1 dX5_versionThatCounts_0 rfl (lv_at hl 0 rfl) ?_
  refine cl_aload_n C.1 C.2.1 dX5_versionThatCounts_1 rfl (lv_at hl 1 rfl) ?_
  refine lv_iload_n C.1 C.2.1 dX5_versionThatCounts_2 rfl (lv_at hl 2 rfl) ?_
  obtain ⟨r_2, σ_1, hq, h_3⟩ := bd2_some h
  refine cl_callV (ci := 5) (rest := []) C G rfl ha cw_RX5_372 [cl_rf c0 x1, .int x2] _ (kc_X5_hasBlob l D c0 (by rw [G.1]; exact ha) hq (by rw [G.1]; exact f1)) (Nat.le_of_ble_eq_true rfl) (Nat.le_of_ble_eq_true rfl) rfl rfl hl.1 (Nat.le_of_ble_eq_true rfl) dX5_versionThatCounts_3 (fun T_4 H locs cells slots t_5 hu G_6 => ?_)
  have ha := hu.kind ha (by decide)
  have f1 := f1.up hu (by decide)
  refine W.eq (g2 := F0 m 6 ls [.int r_2]) rfl ?_
  refine lv_if_ne (tgt := 11) C.1 C.2.1 dX5_versionThatCounts_6 (by decide) (fun hc => ?_) (fun hc => ?_)
  · rw [if_neg hc] at h_3
    refine lv_aload_n C.1 C.2.1 dX5_versionThatCounts_11 rfl (lv_at hl 0 rfl) ?_
    refine cl_aload_n C.1 C.2.1 dX5_versionThatCounts_12 rfl (lv_at hl 1 rfl) ?_
    refine lv_iload_n C.1 C.2.1 dX5_versionThatCounts_13 rfl (lv_at hl 2 rfl) ?_
    obtain ⟨r_8, σ_7, hq, h_9⟩ := bd2_some h_3
    refine cl_callV (ci := 5) (rest := []) C G_6 rfl ha cw_RX5_375 [cl_rf c0 x1, .int x2] _ (kc_X5_countingBlock l D c0 (by rw [G_6.1]; exact ha) hq (by rw [G_6.1]; exact f1)) (Nat.le_of_ble_eq_true rfl) (Nat.le_of_ble_eq_true rfl) rfl rfl hl.1 (Nat.le_of_ble_eq_true rfl) dX5_versionThatCounts_14 (fun T_10 H locs cells slots t_11 hu G_12 => ?_)
    have ha := hu.kind ha (by decide)
    have f1 := f1.up hu (by decide)
    refine W.eq (g2 := F0 m 17 ls [.int r_8]) rfl ?_
    refine lv_istore_n (lv' := [(3, .int r_8), (0, .ref (c0 + a)), (1, cl_rf c0 x1), (2, .int x2)]) C.1 C.2.1 dX5_versionThatCounts_17 rfl hl (by decide) (by first | rfl | (cases x1 <;> rfl)) (fun ls hl_13 => ?_)
    refine lv_iload_n C.1 C.2.1 dX5_versionThatCounts_18 rfl (lv_at hl_13 0 rfl) ?_
    refine lv_if_ge (tgt := 26) C.1 C.2.1 dX5_versionThatCounts_19 (by decide) (fun hc => ?_) (fun hc => ?_)
    · rw [if_pos hc] at h_9
      refine lv_aload_n C.1 C.2.1 dX5_versionThatCounts_26 rfl (lv_at hl_13 1 rfl) ?_
      refine cg_5_55 C G_12 ha dX5_versionThatCounts_27 (fun t_14 => ?_)
      refine vt_r (K := 19) t_14 h_9 (fun r_15 t_16 h_17 => ?_)
      obtain ⟨a_18, rfl, h_20⟩ := nn_some h_17
      have t_19 := t_16 _ rfl
      refine cg_5_378 C G_12 t_19 dX5_versionThatCounts_30 (fun t_21 => ?_)
      refine lv_iload_n C.1 C.2.1 dX5_versionThatCounts_33 rfl (lv_at hl_13 0 rfl) ?_
      obtain ⟨hi, h_22⟩ := ix_some h_20
      refine cl_iald C G_12 t_21 hi dX5_versionThatCounts_34 ?_
      exact cl_iret ⟨rfl, rfl⟩ rfl C G_12 h_22 dX5_versionThatCounts_35
    · rw [if_neg hc] at h_9
      refine lv_iconst (v := (0:Int32)) C.1 C.2.1 dX5_versionThatCounts_22 (by decide) ?_
      refine lv_goto (tgt := 35) C.1 C.2.1 dX5_versionThatCounts_23 (by decide) ?_
      exact cl_iret ⟨rfl, rfl⟩ rfl C G_12 h_9 dX5_versionThatCounts_35
  · rw [if_pos hc] at h_3
    refine lv_iconst (v := (-1:Int32)) C.1 C.2.1 dX5_versionThatCounts_9 (by decide) ?_
    exact cl_iret ⟨rfl, rfl⟩ rfl C G_6 h_3 dX5_versionThatCounts_10
noncomputable def fc_X5_versionThatCounts (a : Nat) (x1 : (Option Nat)) (x2 : Int32) (σ : cl_S) : Option (Int32 × cl_S) := bc_X5_versionThatCounts_0 a x1 x2 σ
theorem kc_X5_versionThatCounts (l : Launch) (D : cl_D) (c0 : Nat) {r : Int32} {a : Nat} {x1 : (Option Nat)} {x2 : Int32} {σ σ' : cl_S} (ha : (σ.2.2.2.1 a).1 = 21) (h : fc_X5_versionThatCounts a x1 x2 σ = some (r, σ')) (f1 : cl_RT σ.2.2.2.1 x1 22) : cl_Met true l D c0 yX5_versionThatCounts cX5_versionThatCounts 4 (some .int) 3 73 [.ref (c0 + a), cl_rf c0 x1, .int x2] σ (some (.int r)) cl_no σ' :=
  by cases x1 <;> exact cl_of (by decide) (Nat.le_of_ble_eq_true rfl) (fun p e s m args below meth c ls C hn G hl => wc_X5_versionThatCounts_0 C h G ha f1 hl)
abbrev cX5_answer : ByteArray := prog_7_method_11_code
def yX5_answer : MethodName := ⟨RX5, "answer", "(LPartHouse$Partition;I)I"⟩
theorem dX5_answer_0 : decode cX5_answer 0 = .ok (.aload_n 1, 1) := by decide +kernel
theorem dX5_answer_1 : decode cX5_answer 1 = .ok (.getfield 121, 3) := by decide +kernel
theorem dX5_answer_4 : decode cX5_answer 4 = .ok (.getfield 193, 3) := by decide +kernel
theorem dX5_answer_7 : decode cX5_answer 7 = .ok (.iconst 1, 1) := by decide +kernel
theorem dX5_answer_8 : decode cX5_answer 8 = .ok (.iaload, 1) := by decide +kernel
theorem dX5_answer_9 : decode cX5_answer 9 = .ok (.istore_n 3, 1) := by decide +kernel
theorem dX5_answer_10 : decode cX5_answer 10 = .ok (.aload_n 1, 1) := by decide +kernel
theorem dX5_answer_11 : decode cX5_answer 11 = .ok (.getfield 199, 3) := by decide +kernel
theorem dX5_answer_14 : decode cX5_answer 14 = .ok (.iload_n 3, 1) := by decide +kernel
theorem dX5_answer_15 : decode cX5_answer 15 = .ok (.invokevirtual 203, 3) := by decide +kernel
theorem dX5_answer_18 : decode cX5_answer 18 = .ok (.astore 4, 2) := by decide +kernel
theorem dX5_answer_20 : decode cX5_answer 20 = .ok (.iload_n 2, 1) := by decide +kernel
theorem dX5_answer_21 : decode cX5_answer 21 = .ok (.tableswitch 473 0 33 #[151, 156, 165, 173, 181, 186, 191, 204, 211, 218, 225, 232, 240, 245, 276, 283, 290, 297, 305, 313, 321, 329, 334, 357, 365, 379, 393, 408, 416, 424, 436, 444, 459, 466], 151) := by decide +kernel
theorem dX5_answer_172 : decode cX5_answer 172 = .ok (.aload_n 0, 1) := by decide +kernel
theorem dX5_answer_173 : decode cX5_answer 173 = .ok (.invokevirtual 209, 3) := by decide +kernel
theorem dX5_answer_176 : decode cX5_answer 176 = .ok (.ireturn, 1) := by decide +kernel
theorem dX5_answer_177 : decode cX5_answer 177 = .ok (.aload_n 1, 1) := by decide +kernel
theorem dX5_answer_178 : decode cX5_answer 178 = .ok (.getfield 121, 3) := by decide +kernel
theorem dX5_answer_181 : decode cX5_answer 181 = .ok (.iload_n 3, 1) := by decide +kernel
theorem dX5_answer_182 : decode cX5_answer 182 = .ok (.invokevirtual 212, 3) := by decide +kernel
theorem dX5_answer_185 : decode cX5_answer 185 = .ok (.ireturn, 1) := by decide +kernel
theorem dX5_answer_186 : decode cX5_answer 186 = .ok (.aload_n 1, 1) := by decide +kernel
theorem dX5_answer_187 : decode cX5_answer 187 = .ok (.getfield 121, 3) := by decide +kernel
theorem dX5_answer_190 : decode cX5_answer 190 = .ok (.getfield 215, 3) := by decide +kernel
theorem dX5_answer_193 : decode cX5_answer 193 = .ok (.ireturn, 1) := by decide +kernel
theorem dX5_answer_194 : decode cX5_answer 194 = .ok (.aload_n 1, 1) := by decide +kernel
theorem dX5_answer_195 : decode cX5_answer 195 = .ok (.getfield 121, 3) := by decide +kernel
theorem dX5_answer_198 : decode cX5_answer 198 = .ok (.getfield 218, 3) := by decide +kernel
theorem dX5_answer_201 : decode cX5_answer 201 = .ok (.ireturn, 1) := by decide +kernel
theorem dX5_answer_202 : decode cX5_answer 202 = .ok (.aload_n 0, 1) := by decide +kernel
theorem dX5_answer_203 : decode cX5_answer 203 = .ok (.getfield 89, 3) := by decide +kernel
theorem dX5_answer_206 : decode cX5_answer 206 = .ok (.ireturn, 1) := by decide +kernel
theorem dX5_answer_207 : decode cX5_answer 207 = .ok (.aload_n 1, 1) := by decide +kernel
theorem dX5_answer_208 : decode cX5_answer 208 = .ok (.invokevirtual 221, 3) := by decide +kernel
theorem dX5_answer_211 : decode cX5_answer 211 = .ok (.ireturn, 1) := by decide +kernel
theorem dX5_answer_212 : decode cX5_answer 212 = .ok (.aload_n 1, 1) := by decide +kernel
theorem dX5_answer_213 : decode cX5_answer 213 = .ok (.iload_n 3, 1) := by decide +kernel
theorem dX5_answer_214 : decode cX5_answer 214 = .ok (.aload_n 0, 1) := by decide +kernel
theorem dX5_answer_215 : decode cX5_answer 215 = .ok (.getfield 51, 3) := by decide +kernel
theorem dX5_answer_218 : decode cX5_answer 218 = .ok (.getfield 83, 3) := by decide +kernel
theorem dX5_answer_221 : decode cX5_answer 221 = .ok (.invokevirtual 224, 3) := by decide +kernel
theorem dX5_answer_224 : decode cX5_answer 224 = .ok (.ireturn, 1) := by decide +kernel
theorem dX5_answer_225 : decode cX5_answer 225 = .ok (.aload_n 0, 1) := by decide +kernel
theorem dX5_answer_226 : decode cX5_answer 226 = .ok (.aload_n 1, 1) := by decide +kernel
theorem dX5_answer_227 : decode cX5_answer 227 = .ok (.iload_n 3, 1) := by decide +kernel
theorem dX5_answer_228 : decode cX5_answer 228 = .ok (.invokevirtual 228, 3) := by decide +kernel
theorem dX5_answer_231 : decode cX5_answer 231 = .ok (.ireturn, 1) := by decide +kernel
theorem dX5_answer_232 : decode cX5_answer 232 = .ok (.aload_n 0, 1) := by decide +kernel
theorem dX5_answer_233 : decode cX5_answer 233 = .ok (.aload_n 1, 1) := by decide +kernel
theorem dX5_answer_234 : decode cX5_answer 234 = .ok (.iload_n 3, 1) := by decide +kernel
theorem dX5_answer_235 : decode cX5_answer 235 = .ok (.invokevirtual 231, 3) := by decide +kernel
theorem dX5_answer_238 : decode cX5_answer 238 = .ok (.ireturn, 1) := by decide +kernel
theorem dX5_answer_239 : decode cX5_answer 239 = .ok (.aload_n 0, 1) := by decide +kernel
theorem dX5_answer_240 : decode cX5_answer 240 = .ok (.aload_n 1, 1) := by decide +kernel
theorem dX5_answer_241 : decode cX5_answer 241 = .ok (.iload_n 3, 1) := by decide +kernel
theorem dX5_answer_242 : decode cX5_answer 242 = .ok (.invokevirtual 234, 3) := by decide +kernel
theorem dX5_answer_245 : decode cX5_answer 245 = .ok (.ireturn, 1) := by decide +kernel
theorem dX5_answer_246 : decode cX5_answer 246 = .ok (.aload_n 0, 1) := by decide +kernel
theorem dX5_answer_247 : decode cX5_answer 247 = .ok (.aload_n 1, 1) := by decide +kernel
theorem dX5_answer_248 : decode cX5_answer 248 = .ok (.iload_n 3, 1) := by decide +kernel
theorem dX5_answer_249 : decode cX5_answer 249 = .ok (.invokevirtual 237, 3) := by decide +kernel
theorem dX5_answer_252 : decode cX5_answer 252 = .ok (.ireturn, 1) := by decide +kernel
theorem dX5_answer_253 : decode cX5_answer 253 = .ok (.aload_n 0, 1) := by decide +kernel
theorem dX5_answer_254 : decode cX5_answer 254 = .ok (.aload_n 1, 1) := by decide +kernel
theorem dX5_answer_255 : decode cX5_answer 255 = .ok (.aload 4, 2) := by decide +kernel
theorem dX5_answer_257 : decode cX5_answer 257 = .ok (.invokevirtual 240, 3) := by decide +kernel
theorem dX5_answer_260 : decode cX5_answer 260 = .ok (.ireturn, 1) := by decide +kernel
theorem dX5_answer_261 : decode cX5_answer 261 = .ok (.aload_n 1, 1) := by decide +kernel
theorem dX5_answer_262 : decode cX5_answer 262 = .ok (.invokevirtual 244, 3) := by decide +kernel
theorem dX5_answer_265 : decode cX5_answer 265 = .ok (.ireturn, 1) := by decide +kernel
theorem dX5_answer_266 : decode cX5_answer 266 = .ok (.aload_n 1, 1) := by decide +kernel
theorem dX5_answer_267 : decode cX5_answer 267 = .ok (.getfield 199, 3) := by decide +kernel
theorem dX5_answer_270 : decode cX5_answer 270 = .ok (.iconst 0, 1) := by decide +kernel
theorem dX5_answer_271 : decode cX5_answer 271 = .ok (.iload_n 3, 1) := by decide +kernel
theorem dX5_answer_272 : decode cX5_answer 272 = .ok (.aload_n 0, 1) := by decide +kernel
theorem dX5_answer_273 : decode cX5_answer 273 = .ok (.getfield 51, 3) := by decide +kernel
theorem dX5_answer_276 : decode cX5_answer 276 = .ok (.getfield 83, 3) := by decide +kernel
theorem dX5_answer_279 : decode cX5_answer 279 = .ok (.aload_n 0, 1) := by decide +kernel
theorem dX5_answer_280 : decode cX5_answer 280 = .ok (.getfield 51, 3) := by decide +kernel
theorem dX5_answer_283 : decode cX5_answer 283 = .ok (.getfield 83, 3) := by decide +kernel
theorem dX5_answer_286 : decode cX5_answer 286 = .ok (.aload_n 0, 1) := by decide +kernel
theorem dX5_answer_287 : decode cX5_answer 287 = .ok (.getfield 51, 3) := by decide +kernel
theorem dX5_answer_290 : decode cX5_answer 290 = .ok (.getfield 83, 3) := by decide +kernel
theorem dX5_answer_293 : decode cX5_answer 293 = .ok (.invokevirtual 247, 3) := by decide +kernel
theorem dX5_answer_296 : decode cX5_answer 296 = .ok (.ireturn, 1) := by decide +kernel
theorem dX5_answer_297 : decode cX5_answer 297 = .ok (.aload_n 0, 1) := by decide +kernel
theorem dX5_answer_298 : decode cX5_answer 298 = .ok (.aload_n 1, 1) := by decide +kernel
theorem dX5_answer_299 : decode cX5_answer 299 = .ok (.iconst 3, 1) := by decide +kernel
theorem dX5_answer_300 : decode cX5_answer 300 = .ok (.invokevirtual 251, 3) := by decide +kernel
theorem dX5_answer_303 : decode cX5_answer 303 = .ok (.ireturn, 1) := by decide +kernel
theorem dX5_answer_304 : decode cX5_answer 304 = .ok (.aload_n 0, 1) := by decide +kernel
theorem dX5_answer_305 : decode cX5_answer 305 = .ok (.aload_n 1, 1) := by decide +kernel
theorem dX5_answer_306 : decode cX5_answer 306 = .ok (.iconst 4, 1) := by decide +kernel
theorem dX5_answer_307 : decode cX5_answer 307 = .ok (.invokevirtual 251, 3) := by decide +kernel
theorem dX5_answer_310 : decode cX5_answer 310 = .ok (.ireturn, 1) := by decide +kernel
theorem dX5_answer_311 : decode cX5_answer 311 = .ok (.aload_n 0, 1) := by decide +kernel
theorem dX5_answer_312 : decode cX5_answer 312 = .ok (.aload_n 1, 1) := by decide +kernel
theorem dX5_answer_313 : decode cX5_answer 313 = .ok (.iconst 5, 1) := by decide +kernel
theorem dX5_answer_314 : decode cX5_answer 314 = .ok (.invokevirtual 251, 3) := by decide +kernel
theorem dX5_answer_317 : decode cX5_answer 317 = .ok (.ireturn, 1) := by decide +kernel
theorem dX5_answer_318 : decode cX5_answer 318 = .ok (.aload_n 0, 1) := by decide +kernel
theorem dX5_answer_319 : decode cX5_answer 319 = .ok (.aload_n 1, 1) := by decide +kernel
theorem dX5_answer_320 : decode cX5_answer 320 = .ok (.bipush 6, 2) := by decide +kernel
theorem dX5_answer_322 : decode cX5_answer 322 = .ok (.invokevirtual 251, 3) := by decide +kernel
theorem dX5_answer_325 : decode cX5_answer 325 = .ok (.ireturn, 1) := by decide +kernel
theorem dX5_answer_326 : decode cX5_answer 326 = .ok (.aload_n 0, 1) := by decide +kernel
theorem dX5_answer_327 : decode cX5_answer 327 = .ok (.aload_n 1, 1) := by decide +kernel
theorem dX5_answer_328 : decode cX5_answer 328 = .ok (.bipush 7, 2) := by decide +kernel
theorem dX5_answer_330 : decode cX5_answer 330 = .ok (.invokevirtual 251, 3) := by decide +kernel
theorem dX5_answer_333 : decode cX5_answer 333 = .ok (.ireturn, 1) := by decide +kernel
theorem dX5_answer_334 : decode cX5_answer 334 = .ok (.aload_n 0, 1) := by decide +kernel
theorem dX5_answer_335 : decode cX5_answer 335 = .ok (.aload_n 1, 1) := by decide +kernel
theorem dX5_answer_336 : decode cX5_answer 336 = .ok (.bipush 8, 2) := by decide +kernel
theorem dX5_answer_338 : decode cX5_answer 338 = .ok (.invokevirtual 251, 3) := by decide +kernel
theorem dX5_answer_341 : decode cX5_answer 341 = .ok (.ireturn, 1) := by decide +kernel
theorem dX5_answer_342 : decode cX5_answer 342 = .ok (.aload_n 0, 1) := by decide +kernel
theorem dX5_answer_343 : decode cX5_answer 343 = .ok (.aload_n 1, 1) := by decide +kernel
theorem dX5_answer_344 : decode cX5_answer 344 = .ok (.bipush 9, 2) := by decide +kernel
theorem dX5_answer_346 : decode cX5_answer 346 = .ok (.invokevirtual 251, 3) := by decide +kernel
theorem dX5_answer_349 : decode cX5_answer 349 = .ok (.ireturn, 1) := by decide +kernel
theorem dX5_answer_350 : decode cX5_answer 350 = .ok (.aload_n 1, 1) := by decide +kernel
theorem dX5_answer_351 : decode cX5_answer 351 = .ok (.invokevirtual 254, 3) := by decide +kernel
theorem dX5_answer_354 : decode cX5_answer 354 = .ok (.ireturn, 1) := by decide +kernel
theorem dX5_answer_355 : decode cX5_answer 355 = .ok (.aload 4, 2) := by decide +kernel
theorem dX5_answer_357 : decode cX5_answer 357 = .ok (.aload_n 0, 1) := by decide +kernel
theorem dX5_answer_358 : decode cX5_answer 358 = .ok (.getfield 51, 3) := by decide +kernel
theorem dX5_answer_361 : decode cX5_answer 361 = .ok (.getfield 83, 3) := by decide +kernel
theorem dX5_answer_364 : decode cX5_answer 364 = .ok (.if_acmp .ne 8, 3) := by decide +kernel
theorem dX5_answer_367 : decode cX5_answer 367 = .ok (.bipush (-2), 2) := by decide +kernel
theorem dX5_answer_369 : decode cX5_answer 369 = .ok (.goto 8, 3) := by decide +kernel
theorem dX5_answer_372 : decode cX5_answer 372 = .ok (.aload 4, 2) := by decide +kernel
theorem dX5_answer_374 : decode cX5_answer 374 = .ok (.getfield 257, 3) := by decide +kernel
theorem dX5_answer_377 : decode cX5_answer 377 = .ok (.ireturn, 1) := by decide +kernel
theorem dX5_answer_378 : decode cX5_answer 378 = .ok (.aload_n 0, 1) := by decide +kernel
theorem dX5_answer_379 : decode cX5_answer 379 = .ok (.aload_n 1, 1) := by decide +kernel
theorem dX5_answer_380 : decode cX5_answer 380 = .ok (.aload 4, 2) := by decide +kernel
theorem dX5_answer_382 : decode cX5_answer 382 = .ok (.invokevirtual 260, 3) := by decide +kernel
theorem dX5_answer_385 : decode cX5_answer 385 = .ok (.ireturn, 1) := by decide +kernel
theorem dX5_answer_386 : decode cX5_answer 386 = .ok (.aload_n 0, 1) := by decide +kernel
theorem dX5_answer_387 : decode cX5_answer 387 = .ok (.aload_n 1, 1) := by decide +kernel
theorem dX5_answer_388 : decode cX5_answer 388 = .ok (.aload 4, 2) := by decide +kernel
theorem dX5_answer_390 : decode cX5_answer 390 = .ok (.iconst 3, 1) := by decide +kernel
theorem dX5_answer_391 : decode cX5_answer 391 = .ok (.aload 4, 2) := by decide +kernel
theorem dX5_answer_393 : decode cX5_answer 393 = .ok (.getfield 263, 3) := by decide +kernel
theorem dX5_answer_396 : decode cX5_answer 396 = .ok (.invokevirtual 266, 3) := by decide +kernel
theorem dX5_answer_399 : decode cX5_answer 399 = .ok (.ireturn, 1) := by decide +kernel
theorem dX5_answer_400 : decode cX5_answer 400 = .ok (.aload_n 0, 1) := by decide +kernel
theorem dX5_answer_401 : decode cX5_answer 401 = .ok (.aload_n 1, 1) := by decide +kernel
theorem dX5_answer_402 : decode cX5_answer 402 = .ok (.aload 4, 2) := by decide +kernel
theorem dX5_answer_404 : decode cX5_answer 404 = .ok (.iconst 3, 1) := by decide +kernel
theorem dX5_answer_405 : decode cX5_answer 405 = .ok (.aload 4, 2) := by decide +kernel
theorem dX5_answer_407 : decode cX5_answer 407 = .ok (.getfield 270, 3) := by decide +kernel
theorem dX5_answer_410 : decode cX5_answer 410 = .ok (.invokevirtual 266, 3) := by decide +kernel
theorem dX5_answer_413 : decode cX5_answer 413 = .ok (.ireturn, 1) := by decide +kernel
theorem dX5_answer_414 : decode cX5_answer 414 = .ok (.aload_n 0, 1) := by decide +kernel
theorem dX5_answer_415 : decode cX5_answer 415 = .ok (.aload_n 1, 1) := by decide +kernel
theorem dX5_answer_416 : decode cX5_answer 416 = .ok (.aload 4, 2) := by decide +kernel
theorem dX5_answer_418 : decode cX5_answer 418 = .ok (.bipush 7, 2) := by decide +kernel
theorem dX5_answer_420 : decode cX5_answer 420 = .ok (.aload 4, 2) := by decide +kernel
theorem dX5_answer_422 : decode cX5_answer 422 = .ok (.getfield 270, 3) := by decide +kernel
theorem dX5_answer_425 : decode cX5_answer 425 = .ok (.invokevirtual 266, 3) := by decide +kernel
theorem dX5_answer_428 : decode cX5_answer 428 = .ok (.ireturn, 1) := by decide +kernel
theorem dX5_answer_429 : decode cX5_answer 429 = .ok (.aload_n 0, 1) := by decide +kernel
theorem dX5_answer_430 : decode cX5_answer 430 = .ok (.aload_n 1, 1) := by decide +kernel
theorem dX5_answer_431 : decode cX5_answer 431 = .ok (.aload 4, 2) := by decide +kernel
theorem dX5_answer_433 : decode cX5_answer 433 = .ok (.invokevirtual 273, 3) := by decide +kernel
theorem dX5_answer_436 : decode cX5_answer 436 = .ok (.ireturn, 1) := by decide +kernel
theorem dX5_answer_437 : decode cX5_answer 437 = .ok (.aload_n 0, 1) := by decide +kernel
theorem dX5_answer_438 : decode cX5_answer 438 = .ok (.aload_n 1, 1) := by decide +kernel
theorem dX5_answer_439 : decode cX5_answer 439 = .ok (.aload 4, 2) := by decide +kernel
theorem dX5_answer_441 : decode cX5_answer 441 = .ok (.invokevirtual 276, 3) := by decide +kernel
theorem dX5_answer_444 : decode cX5_answer 444 = .ok (.ireturn, 1) := by decide +kernel
theorem dX5_answer_445 : decode cX5_answer 445 = .ok (.aload_n 1, 1) := by decide +kernel
theorem dX5_answer_446 : decode cX5_answer 446 = .ok (.getfield 199, 3) := by decide +kernel
theorem dX5_answer_449 : decode cX5_answer 449 = .ok (.aload_n 1, 1) := by decide +kernel
theorem dX5_answer_450 : decode cX5_answer 450 = .ok (.getfield 279, 3) := by decide +kernel
theorem dX5_answer_453 : decode cX5_answer 453 = .ok (.invokevirtual 282, 3) := by decide +kernel
theorem dX5_answer_456 : decode cX5_answer 456 = .ok (.ireturn, 1) := by decide +kernel
theorem dX5_answer_457 : decode cX5_answer 457 = .ok (.aload_n 0, 1) := by decide +kernel
theorem dX5_answer_458 : decode cX5_answer 458 = .ok (.aload_n 1, 1) := by decide +kernel
theorem dX5_answer_459 : decode cX5_answer 459 = .ok (.aload 4, 2) := by decide +kernel
theorem dX5_answer_461 : decode cX5_answer 461 = .ok (.invokevirtual 285, 3) := by decide +kernel
theorem dX5_answer_464 : decode cX5_answer 464 = .ok (.ireturn, 1) := by decide +kernel
theorem dX5_answer_465 : decode cX5_answer 465 = .ok (.aload_n 1, 1) := by decide +kernel
theorem dX5_answer_466 : decode cX5_answer 466 = .ok (.getfield 199, 3) := by decide +kernel
theorem dX5_answer_469 : decode cX5_answer 469 = .ok (.aload_n 0, 1) := by decide +kernel
theorem dX5_answer_470 : decode cX5_answer 470 = .ok (.getfield 51, 3) := by decide +kernel
theorem dX5_answer_473 : decode cX5_answer 473 = .ok (.getfield 288, 3) := by decide +kernel
theorem dX5_answer_476 : decode cX5_answer 476 = .ok (.invokevirtual 282, 3) := by decide +kernel
theorem dX5_answer_479 : decode cX5_answer 479 = .ok (.ireturn, 1) := by decide +kernel
theorem dX5_answer_480 : decode cX5_answer 480 = .ok (.aload_n 0, 1) := by decide +kernel
theorem dX5_answer_481 : decode cX5_answer 481 = .ok (.aload_n 1, 1) := by decide +kernel
theorem dX5_answer_482 : decode cX5_answer 482 = .ok (.iload_n 3, 1) := by decide +kernel
theorem dX5_answer_483 : decode cX5_answer 483 = .ok (.invokevirtual 291, 3) := by decide +kernel
theorem dX5_answer_486 : decode cX5_answer 486 = .ok (.ireturn, 1) := by decide +kernel
theorem dX5_answer_487 : decode cX5_answer 487 = .ok (.aload_n 0, 1) := by decide +kernel
theorem dX5_answer_488 : decode cX5_answer 488 = .ok (.aload_n 1, 1) := by decide +kernel
theorem dX5_answer_489 : decode cX5_answer 489 = .ok (.iload_n 3, 1) := by decide +kernel
theorem dX5_answer_490 : decode cX5_answer 490 = .ok (.invokevirtual 294, 3) := by decide +kernel
theorem dX5_answer_493 : decode cX5_answer 493 = .ok (.ireturn, 1) := by decide +kernel
theorem dX5_answer_494 : decode cX5_answer 494 = .ok (.aload_n 0, 1) := by decide +kernel
theorem dX5_answer_495 : decode cX5_answer 495 = .ok (.aload_n 1, 1) := by decide +kernel
theorem dX5_answer_496 : decode cX5_answer 496 = .ok (.iload_n 3, 1) := by decide +kernel
theorem dX5_answer_497 : decode cX5_answer 497 = .ok (.invokevirtual 297, 3) := by decide +kernel
theorem dX5_answer_500 : decode cX5_answer 500 = .ok (.ireturn, 1) := by decide +kernel
theorem cc_X5_answer : Cond.code yX5_answer cX5_answer 5 (some .int) ∈ rf_tb := rf_at 1158 (by decide +kernel) (by decide +kernel)
theorem cw_RX5_209 : cl_wV RX5 RX5 yX5_yieldTurn cX5_yieldTurn 1 (some .int) 209 0 := ⟨⟨rf_at 1167 (by decide +kernel) (by decide +kernel), rf_at 1169 (by decide +kernel) (by decide +kernel), rf_sel (q := (yX5_yieldTurn, 20)) 42 (by decide +kernel) (by decide +kernel), cc_X5_yieldTurn, rf_at 13 (by decide +kernel) (by decide +kernel)⟩, ⟨by decide, by decide, by decide +kernel⟩⟩
theorem cw_RX5_212 : cl_wV RX5 RX2 yX2_setHandler cX2_setHandler 2 (some .int) 212 1 := ⟨⟨rf_at 1171 (by decide +kernel) (by decide +kernel), rf_at 1172 (by decide +kernel) (by decide +kernel), rf_at 1173 (by decide +kernel) (by decide +kernel), cc_X2_setHandler, rf_at 16 (by decide +kernel) (by decide +kernel)⟩, ⟨by decide, by decide, by decide +kernel⟩⟩
theorem cw_RX5_221 : cl_wV RX5 RX6 yX6_askWord cX6_askWord 3 (some .int) 221 0 := ⟨⟨rf_at 1175 (by decide +kernel) (by decide +kernel), rf_at 1176 (by decide +kernel) (by decide +kernel), rf_at 1177 (by decide +kernel) (by decide +kernel), cc_X6_askWord, rf_at 15 (by decide +kernel) (by decide +kernel)⟩, ⟨by decide, by decide, by decide +kernel⟩⟩
theorem cw_RX5_228 : cl_wV RX5 RX5 yX5_send cX5_send 4 (some .int) 228 2 := ⟨⟨rf_at 1183 (by decide +kernel) (by decide +kernel), rf_at 1185 (by decide +kernel) (by decide +kernel), rf_sel (q := (yX5_send, 20)) 43 (by decide +kernel) (by decide +kernel), cc_X5_send, rf_at 13 (by decide +kernel) (by decide +kernel)⟩, ⟨by decide, by decide, by decide +kernel⟩⟩
theorem cw_RX5_231 : cl_wV RX5 RX5 yX5_receive cX5_receive 5 (some .int) 231 2 := ⟨⟨rf_at 1196 (by decide +kernel) (by decide +kernel), rf_at 1198 (by decide +kernel) (by decide +kernel), rf_sel (q := (yX5_receive, 20)) 45 (by decide +kernel) (by decide +kernel), cc_X5_receive, rf_at 13 (by decide +kernel) (by decide +kernel)⟩, ⟨by decide, by decide, by decide +kernel⟩⟩
theorem cw_RX5_234 : cl_wV RX5 RX5 yX5_sendTerm cX5_sendTerm 4 (some .int) 234 2 := ⟨⟨rf_at 1204 (by decide +kernel) (by decide +kernel), rf_at 1206 (by decide +kernel) (by decide +kernel), rf_sel (q := (yX5_sendTerm, 20)) 47 (by decide +kernel) (by decide +kernel), cc_X5_sendTerm, rf_at 13 (by decide +kernel) (by decide +kernel)⟩, ⟨by decide, by decide, by decide +kernel⟩⟩
theorem cw_RX5_237 : cl_wV RX5 RX5 yX5_receiveTerm cX5_receiveTerm 3 (some .int) 237 2 := ⟨⟨rf_at 1209 (by decide +kernel) (by decide +kernel), rf_at 1211 (by decide +kernel) (by decide +kernel), rf_sel (q := (yX5_receiveTerm, 20)) 48 (by decide +kernel) (by decide +kernel), cc_X5_receiveTerm, rf_at 13 (by decide +kernel) (by decide +kernel)⟩, ⟨by decide, by decide, by decide +kernel⟩⟩
theorem cw_RX5_240 : cl_wV RX5 RX5 yX5_outTerm cX5_outTerm 4 (some .int) 240 2 := ⟨⟨rf_at 1226 (by decide +kernel) (by decide +kernel), rf_at 1228 (by decide +kernel) (by decide +kernel), rf_sel (q := (yX5_outTerm, 20)) 50 (by decide +kernel) (by decide +kernel), cc_X5_outTerm, rf_at 13 (by decide +kernel) (by decide +kernel)⟩, ⟨by decide, by decide, by decide +kernel⟩⟩
theorem cw_RX5_244 : cl_wV RX5 RX6 yX6_askTerm cX6_askTerm 3 (some .int) 244 0 := ⟨⟨rf_at 1231 (by decide +kernel) (by decide +kernel), rf_at 1232 (by decide +kernel) (by decide +kernel), rf_at 1233 (by decide +kernel) (by decide +kernel), cc_X6_askTerm, rf_at 15 (by decide +kernel) (by decide +kernel)⟩, ⟨by decide, by decide, by decide +kernel⟩⟩
theorem cw_RX5_251 : cl_wV RX5 RX5 yX5_makeOf cX5_makeOf 7 (some .int) 251 2 := ⟨⟨rf_at 1243 (by decide +kernel) (by decide +kernel), rf_at 1245 (by decide +kernel) (by decide +kernel), rf_sel (q := (yX5_makeOf, 20)) 51 (by decide +kernel) (by decide +kernel), cc_X5_makeOf, rf_at 13 (by decide +kernel) (by decide +kernel)⟩, ⟨by decide, by decide, by decide +kernel⟩⟩
theorem cw_RX5_254 : cl_wV RX5 RX6 yX6_askSecret cX6_askSecret 1 (some .int) 254 0 := ⟨⟨rf_at 1250 (by decide +kernel) (by decide +kernel), rf_at 1251 (by decide +kernel) (by decide +kernel), rf_at 1252 (by decide +kernel) (by decide +kernel), cc_X6_askSecret, rf_at 15 (by decide +kernel) (by decide +kernel)⟩, ⟨by decide, by decide, by decide +kernel⟩⟩
theorem cw_RX5_260 : cl_wV RX5 RX5 yX5_lookAtNumber cX5_lookAtNumber 4 (some .int) 260 2 := ⟨⟨rf_at 1256 (by decide +kernel) (by decide +kernel), rf_at 1258 (by decide +kernel) (by decide +kernel), rf_sel (q := (yX5_lookAtNumber, 20)) 52 (by decide +kernel) (by decide +kernel), cc_X5_lookAtNumber, rf_at 13 (by decide +kernel) (by decide +kernel)⟩, ⟨by decide, by decide, by decide +kernel⟩⟩
theorem cw_RX5_273 : cl_wV RX5 RX5 yX5_checkSigned cX5_checkSigned 4 (some .int) 273 2 := ⟨⟨rf_at 1264 (by decide +kernel) (by decide +kernel), rf_at 1266 (by decide +kernel) (by decide +kernel), rf_sel (q := (yX5_checkSigned, 20)) 54 (by decide +kernel) (by decide +kernel), cc_X5_checkSigned, rf_at 13 (by decide +kernel) (by decide +kernel)⟩, ⟨by decide, by decide, by decide +kernel⟩⟩
theorem cw_RX5_276 : cl_wV RX5 RX5 yX5_openClosed cX5_openClosed 4 (some .int) 276 2 := ⟨⟨rf_at 1268 (by decide +kernel) (by decide +kernel), rf_at 1270 (by decide +kernel) (by decide +kernel), rf_sel (q := (yX5_openClosed, 20)) 55 (by decide +kernel) (by decide +kernel), cc_X5_openClosed, rf_at 13 (by decide +kernel) (by decide +kernel)⟩, ⟨by decide, by decide, by decide +kernel⟩⟩
theorem cw_RX5_285 : cl_wV RX5 RX5 yX5_quote cX5_quote 4 (some .int) 285 2 := ⟨⟨rf_at 1272 (by decide +kernel) (by decide +kernel), rf_at 1274 (by decide +kernel) (by decide +kernel), rf_sel (q := (yX5_quote, 20)) 56 (by decide +kernel) (by decide +kernel), cc_X5_quote, rf_at 13 (by decide +kernel) (by decide +kernel)⟩, ⟨by decide, by decide, by decide +kernel⟩⟩
theorem cw_RX5_291 : cl_wV RX5 RX5 yX5_seal cX5_seal 9 (some .int) 291 2 := ⟨⟨rf_at 1279 (by decide +kernel) (by decide +kernel), rf_at 1281 (by decide +kernel) (by decide +kernel), rf_sel (q := (yX5_seal, 20)) 57 (by decide +kernel) (by decide +kernel), cc_X5_seal, rf_at 13 (by decide +kernel) (by decide +kernel)⟩, ⟨by decide, by decide, by decide +kernel⟩⟩
theorem cw_RX5_294 : cl_wV RX5 RX5 yX5_unseal cX5_unseal 4 (some .int) 294 2 := ⟨⟨rf_at 1318 (by decide +kernel) (by decide +kernel), rf_at 1320 (by decide +kernel) (by decide +kernel), rf_sel (q := (yX5_unseal, 20)) 63 (by decide +kernel) (by decide +kernel), cc_X5_unseal, rf_at 13 (by decide +kernel) (by decide +kernel)⟩, ⟨by decide, by decide, by decide +kernel⟩⟩
theorem cw_RX5_297 : cl_wV RX5 RX5 yX5_versionThatCounts cX5_versionThatCounts 4 (some .int) 297 2 := ⟨⟨rf_at 1322 (by decide +kernel) (by decide +kernel), rf_at 1324 (by decide +kernel) (by decide +kernel), rf_sel (q := (yX5_versionThatCounts, 20)) 64 (by decide +kernel) (by decide +kernel), cc_X5_versionThatCounts, rf_at 13 (by decide +kernel) (by decide +kernel)⟩, ⟨by decide, by decide, by decide +kernel⟩⟩
noncomputable def bc_X5_answer_0 (a : Nat) (x1 : (Option Nat)) (x2 : Int32) (σ : cl_S) : Option (Int32 × cl_S) := nn x1 (fun a_1 => ix (1:Int32) 16 (vl (σ.1 ((a_1 + 1) + 2) (1:Int32).toNatClampNeg) (fun x3_7 => bd2 (fc_X8_at (a_1 + 9) x3_7 σ) (fun r_12 σ_11 => (if x2 = (0:Int32) then bd2 (fc_X5_yieldTurn a σ_11) (fun r_19 σ_18 => some (r_19, σ_18)) else if x2 = (1:Int32) then bd2 (fc_X2_setHandler (a_1 + 1) x3_7 σ_11) (fun r_26 σ_25 => some (r_26, σ_25)) else if x2 = (2:Int32) then some ((σ_11.1 (a_1 + 1) 5), σ_11) else if x2 = (3:Int32) then some ((σ_11.1 (a_1 + 1) 6), σ_11) else if x2 = (4:Int32) then some ((σ_11.1 a 9), σ_11) else if x2 = (5:Int32) then bd2 (fc_X6_askWord a_1 σ_11) (fun r_34 σ_33 => some (r_34, σ_33)) else if x2 = (6:Int32) then vl (σ_11.2.2.1 31 4) (fun r_41 => bd2 (fc_X6_putOut a_1 x3_7 r_41 σ_11) (fun r_45 σ_44 => some (r_45, σ_44))) else if x2 = (7:Int32) then bd2 (fc_X5_send a (some a_1) x3_7 σ_11) (fun r_51 σ_50 => some (r_51, σ_50)) else if x2 = (8:Int32) then bd2 (fc_X5_receive a (some a_1) x3_7 σ_11) (fun r_57 σ_56 => some (r_57, σ_56)) else if x2 = (9:Int32) then bd2 (fc_X5_sendTerm a (some a_1) x3_7 σ_11) (fun r_63 σ_62 => some (r_63, σ_62)) else if x2 = (10:Int32) then bd2 (fc_X5_receiveTerm a (some a_1) x3_7 σ_11) (fun r_69 σ_68 => some (r_69, σ_68)) else if x2 = (11:Int32) then bd2 (fc_X5_outTerm a (some a_1) r_12 σ_11) (fun r_75 σ_74 => some (r_75, σ_74)) else if x2 = (12:Int32) then bd2 (fc_X6_askTerm a_1 σ_11) (fun r_81 σ_80 => some (r_81, σ_80)) else if x2 = (13:Int32) then vl (σ_11.2.2.1 31 4) (fun r_89 => vl (σ_11.2.2.1 31 4) (fun r_94 => vl (σ_11.2.2.1 31 4) (fun r_99 => bd2 (fc_X8_comeInMade (a_1 + 9) (0:Int32) x3_7 r_89 r_94 r_99 σ_11) (fun r_103 σ_102 => some (r_103, σ_102))))) else if x2 = (14:Int32) then bd2 (fc_X5_makeOf a (some a_1) (3:Int32) σ_11) (fun r_109 σ_108 => some (r_109, σ_108)) else if x2 = (15:Int32) then bd2 (fc_X5_makeOf a (some a_1) (4:Int32) σ_11) (fun r_115 σ_114 => some (r_115, σ_114)) else if x2 = (16:Int32) then bd2 (fc_X5_makeOf a (some a_1) (5:Int32) σ_11) (fun r_121 σ_120 => some (r_121, σ_120)) else if x2 = (17:Int32) then bd2 (fc_X5_makeOf a (some a_1) (6:Int32) σ_11) (fun r_127 σ_126 => some (r_127, σ_126)) else if x2 = (18:Int32) then bd2 (fc_X5_makeOf a (some a_1) (7:Int32) σ_11) (fun r_133 σ_132 => some (r_133, σ_132)) else if x2 = (19:Int32) then bd2 (fc_X5_makeOf a (some a_1) (8:Int32) σ_11) (fun r_139 σ_138 => some (r_139, σ_138)) else if x2 = (20:Int32) then bd2 (fc_X5_makeOf a (some a_1) (9:Int32) σ_11) (fun r_145 σ_144 => some (r_145, σ_144)) else if x2 = (21:Int32) then bd2 (fc_X6_askSecret a_1 σ_11) (fun r_151 σ_150 => some (r_151, σ_150)) else if x2 = (22:Int32) then vl (σ_11.2.2.1 31 4) (fun r_158 => (if r_12 = r_158 then some ((-2:Int32), σ_11) else nn r_12 (fun a_161 => some ((σ_11.1 a_161 0), σ_11)))) else if x2 = (23:Int32) then bd2 (fc_X5_lookAtNumber a (some a_1) r_12 σ_11) (fun r_165 σ_164 => some (r_165, σ_164)) else if x2 = (24:Int32) then nn r_12 (fun a_170 => vl (σ_11.2.2.1 a_170 3) (fun r_174 => bd2 (fc_X5_lookInto a (some a_1) (some a_170) (3:Int32) r_174 σ_11) (fun r_178 σ_177 => some (r_178, σ_177)))) else if x2 = (25:Int32) then nn r_12 (fun a_183 => vl (σ_11.2.2.1 a_183 4) (fun r_187 => bd2 (fc_X5_lookInto a (some a_1) (some a_183) (3:Int32) r_187 σ_11) (fun r_191 σ_190 => some (r_191, σ_190)))) else if x2 = (26:Int32) then nn r_12 (fun a_196 => vl (σ_11.2.2.1 a_196 4) (fun r_200 => bd2 (fc_X5_lookInto a (some a_1) (some a_196) (7:Int32) r_200 σ_11) (fun r_204 σ_203 => some (r_204, σ_203)))) else if x2 = (27:Int32) then bd2 (fc_X5_checkSigned a (some a_1) r_12 σ_11) (fun r_210 σ_209 => some (r_210, σ_209)) else if x2 = (28:Int32) then bd2 (fc_X5_openClosed a (some a_1) r_12 σ_11) (fun r_216 σ_215 => some (r_216, σ_215)) else if x2 = (29:Int32) then vl (σ_11.2.2.1 a_1 16) (fun r_223 => bd2 (fc_X8_comeIn (a_1 + 9) r_223 σ_11) (fun r_227 σ_226 => some (r_227, σ_226))) else if x2 = (30:Int32) then bd2 (fc_X5_quote a (some a_1) r_12 σ_11) (fun r_233 σ_232 => some (r_233, σ_232)) else if x2 = (31:Int32) then vl (σ_11.2.2.1 31 7) (fun r_241 => bd2 (fc_X8_comeIn (a_1 + 9) r_241 σ_11) (fun r_245 σ_244 => some (r_245, σ_244))) else if x2 = (32:Int32) then bd2 (fc_X5_seal a (some a_1) x3_7 σ_11) (fun r_251 σ_250 => some (r_251, σ_250)) else if x2 = (33:Int32) then bd2 (fc_X5_unseal a (some a_1) x3_7 σ_11) (fun r_257 σ_256 => some (r_257, σ_256)) else bd2 (fc_X5_versionThatCounts a (some a_1) x3_7 σ_11) (fun r_263 σ_262 => some (r_263, σ_262)))))))
set_option maxHeartbeats 4000000 in
theorem wc_X5_answer_0 (C : cl_C D p s m args meth c cX5_answer 5 (some .int) RX5) {r : Int32} {a : Nat} {x1 : (Option Nat)} {x2 : Int32} {σ0 σ σ' : cl_S} {T : Nat → Nat × Nat} {H : Heap} {locs : List Loc} {ls : Array Slot} {cells slots : Nat} (h : bc_X5_answer_0 a x1 x2 σ = some (r, σ')) (G : cl_G true D c0 ({ frames := 5, cells := σ0.2.2.2.2.2.1, slots := σ0.2.2.2.2.2.2, locals := 124 }) s σ0.2.2.2.1 T σ H locs cells slots) (ha : (T a).1 = 21) (f1 : cl_RT T x1 22) (hl : lv_has ls 5 [(0, .ref (c0 + a)), (1, cl_rf c0 x1), (2, .int x2)]) : W p l e ({ frames := 5, cells := σ0.2.2.2.2.2.1, slots := σ0.2.2.2.2.2.2, locals := 124 }) s m args below meth c H locs cells slots (MQ below (cl_Q true D c0 (some (.int r)) cl_no σ0 σ') args s (σ0.2.2.2.2.2.1 - σ'.2.2.2.2.2.1) (σ0.2.2.2.2.2.2 - σ'.2.2.2.2.2.2) (cl_A c0 σ0.2.2.2.1 s.heap.size)) (F0 m 0 ls []) := by
  unfold bc_X5_answer_0 at h
  refine cl_aload_n C.1 C.2.1 dX5_answer_0 rfl (lv_at hl 1 rfl) ?_
  obtain ⟨a_1, rfl, h_3⟩ := nn_some h
  have t_2 := f1 _ rfl
  refine cg_5_121 C G t_2 dX5_answer_1 (fun t_4 => ?_)
  have t_4 : (T (a_1 + 1)).1 = 18 := by rw [t_4]
  refine cg_5_193 C G t_4 dX5_answer_4 (fun t_5 => ?_)
  refine lv_iconst (v := (1:Int32)) C.1 C.2.1 dX5_answer_7 (by decide) ?_
  obtain ⟨hi, h_6⟩ := ix_some h_3
  refine cl_iald C G t_5 hi dX5_answer_8 ?_
  refine vt_i h_6 (fun x3_7 h_8 => ?_)
  refine lv_istore_n (lv' := [(3, .int x3_7), (0, .ref (c0 + a)), (1, .ref (c0 + a_1)), (2, .int x2)]) C.1 C.2.1 dX5_answer_9 rfl hl (by decide) rfl (fun ls hl_9 => ?_)
  refine lv_aload_n C.1 C.2.1 dX5_answer_10 rfl (lv_at hl_9 2 rfl) ?_
  refine cg_5_199 C G t_2 dX5_answer_11 (fun t_10 => ?_)
  have t_10 : (T (a_1 + 9)).1 = 24 := by rw [t_10]
  refine lv_iload_n C.1 C.2.1 dX5_answer_14 rfl (lv_at hl_9 0 rfl) ?_
  obtain ⟨r_12, σ_11, hq, h_13⟩ := bd2_some h_8
  refine cl_callV (ci := 8) (rest := []) C G rfl t_10 cw_RX5_203 [.int x3_7] _ (kc_X8_at l D c0 (by rw [G.1]; exact t_10) hq) (Nat.le_of_ble_eq_true rfl) (Nat.le_of_ble_eq_true rfl) rfl rfl hl_9.1 (Nat.le_of_ble_eq_true rfl) dX5_answer_15 (fun T_14 H locs cells slots t_15 hu G_16 => ?_)
  have ha := hu.kind ha (by decide)
  have t_2 := hu.kind t_2 (by decide)
  refine W.eq (g2 := F0 m 18 ls [cl_rf c0 r_12]) rfl ?_
  refine cl_astore (lv' := [(4, cl_rf c0 r_12), (3, .int x3_7), (0, .ref (c0 + a)), (1, .ref (c0 + a_1)), (2, .int x2)]) C.1 C.2.1 dX5_answer_18 hl_9 (by decide) rfl (fun ls hl_17 => ?_)
  refine lv_iload_n C.1 C.2.1 dX5_answer_20 rfl (lv_at hl_17 4 rfl) ?_
  by_cases hk0 : x2 = (0:Int32)
  · rw [if_pos hk0] at h_13
    refine lv_tableIn (tgt := 172) C.1 C.2.1 dX5_answer_21 (by rw [hk0]; decide) (by rw [hk0]; decide) (by rw [hk0]; rfl) (by decide) ?_
    refine lv_aload_n C.1 C.2.1 dX5_answer_172 rfl (lv_at hl_17 2 rfl) ?_
    obtain ⟨r_19, σ_18, hq, h_20⟩ := bd2_some h_13
    refine cl_callV (ci := 5) (rest := []) C G_16 rfl ha cw_RX5_209 [] _ (kc_X5_yieldTurn l D c0 (by rw [G_16.1]; exact ha) hq) (Nat.le_of_ble_eq_true rfl) (Nat.le_of_ble_eq_true rfl) rfl rfl hl_17.1 (Nat.le_of_ble_eq_true rfl) dX5_answer_173 (fun T_21 H locs cells slots t_22 hu G_23 => ?_)
    have t_15 := t_15.up hu (by decide)
    have ha := hu.kind ha (by decide)
    have t_2 := hu.kind t_2 (by decide)
    refine W.eq (g2 := F0 m 176 ls [.int r_19]) rfl ?_
    exact cl_iret ⟨rfl, rfl⟩ rfl C G_23 h_20 dX5_answer_176
  rw [if_neg hk0] at h_13
  by_cases hk1 : x2 = (1:Int32)
  · rw [if_pos hk1] at h_13
    refine lv_tableIn (tgt := 177) C.1 C.2.1 dX5_answer_21 (by rw [hk1]; decide) (by rw [hk1]; decide) (by rw [hk1]; rfl) (by decide) ?_
    refine lv_aload_n C.1 C.2.1 dX5_answer_177 rfl (lv_at hl_17 3 rfl) ?_
    refine cg_5_121 C G_16 t_2 dX5_answer_178 (fun t_24 => ?_)
    have t_24 : (T_14 (a_1 + 1)).1 = 18 := by rw [t_24]
    refine lv_iload_n C.1 C.2.1 dX5_answer_181 rfl (lv_at hl_17 1 rfl) ?_
    obtain ⟨r_26, σ_25, hq, h_27⟩ := bd2_some h_13
    refine cl_callV (ci := 2) (rest := []) C G_16 rfl t_24 cw_RX5_212 [.int x3_7] _ (kc_X2_setHandler l D c0 (by rw [G_16.1]; exact t_24) hq) (Nat.le_of_ble_eq_true rfl) (Nat.le_of_ble_eq_true rfl) rfl rfl hl_17.1 (Nat.le_of_ble_eq_true rfl) dX5_answer_182 (fun T_28 H locs cells slots t_29 hu G_30 => ?_)
    have t_15 := t_15.up hu (by decide)
    have ha := hu.kind ha (by decide)
    have t_2 := hu.kind t_2 (by decide)
    refine W.eq (g2 := F0 m 185 ls [.int r_26]) rfl ?_
    exact cl_iret ⟨rfl, rfl⟩ rfl C G_30 h_27 dX5_answer_185
  rw [if_neg hk1] at h_13
  by_cases hk2 : x2 = (2:Int32)
  · rw [if_pos hk2] at h_13
    refine lv_tableIn (tgt := 186) C.1 C.2.1 dX5_answer_21 (by rw [hk2]; decide) (by rw [hk2]; decide) (by rw [hk2]; rfl) (by decide) ?_
    refine lv_aload_n C.1 C.2.1 dX5_answer_186 rfl (lv_at hl_17 3 rfl) ?_
    refine cg_5_121 C G_16 t_2 dX5_answer_187 (fun t_31 => ?_)
    have t_31 : (T_14 (a_1 + 1)).1 = 18 := by rw [t_31]
    refine cg_5_215 C G_16 t_31 dX5_answer_190 ?_
    exact cl_iret ⟨rfl, rfl⟩ rfl C G_16 h_13 dX5_answer_193
  rw [if_neg hk2] at h_13
  by_cases hk3 : x2 = (3:Int32)
  · rw [if_pos hk3] at h_13
    refine lv_tableIn (tgt := 194) C.1 C.2.1 dX5_answer_21 (by rw [hk3]; decide) (by rw [hk3]; decide) (by rw [hk3]; rfl) (by decide) ?_
    refine lv_aload_n C.1 C.2.1 dX5_answer_194 rfl (lv_at hl_17 3 rfl) ?_
    refine cg_5_121 C G_16 t_2 dX5_answer_195 (fun t_32 => ?_)
    have t_32 : (T_14 (a_1 + 1)).1 = 18 := by rw [t_32]
    refine cg_5_218 C G_16 t_32 dX5_answer_198 ?_
    exact cl_iret ⟨rfl, rfl⟩ rfl C G_16 h_13 dX5_answer_201
  rw [if_neg hk3] at h_13
  by_cases hk4 : x2 = (4:Int32)
  · rw [if_pos hk4] at h_13
    refine lv_tableIn (tgt := 202) C.1 C.2.1 dX5_answer_21 (by rw [hk4]; decide) (by rw [hk4]; decide) (by rw [hk4]; rfl) (by decide) ?_
    refine lv_aload_n C.1 C.2.1 dX5_answer_202 rfl (lv_at hl_17 2 rfl) ?_
    refine cg_5_89 C G_16 ha dX5_answer_203 ?_
    exact cl_iret ⟨rfl, rfl⟩ rfl C G_16 h_13 dX5_answer_206
  rw [if_neg hk4] at h_13
  by_cases hk5 : x2 = (5:Int32)
  · rw [if_pos hk5] at h_13
    refine lv_tableIn (tgt := 207) C.1 C.2.1 dX5_answer_21 (by rw [hk5]; decide) (by rw [hk5]; decide) (by rw [hk5]; rfl) (by decide) ?_
    refine lv_aload_n C.1 C.2.1 dX5_answer_207 rfl (lv_at hl_17 3 rfl) ?_
    obtain ⟨r_34, σ_33, hq, h_35⟩ := bd2_some h_13
    refine cl_callV (ci := 6) (rest := []) C G_16 rfl t_2 cw_RX5_221 [] _ (kc_X6_askWord l D c0 (by rw [G_16.1]; exact t_2) hq) (Nat.le_of_ble_eq_true rfl) (Nat.le_of_ble_eq_true rfl) rfl rfl hl_17.1 (Nat.le_of_ble_eq_true rfl) dX5_answer_208 (fun T_36 H locs cells slots t_37 hu G_38 => ?_)
    have t_15 := t_15.up hu (by decide)
    have ha := hu.kind ha (by decide)
    have t_2 := hu.kind t_2 (by decide)
    refine W.eq (g2 := F0 m 211 ls [.int r_34]) rfl ?_
    exact cl_iret ⟨rfl, rfl⟩ rfl C G_38 h_35 dX5_answer_211
  rw [if_neg hk5] at h_13
  by_cases hk6 : x2 = (6:Int32)
  · rw [if_pos hk6] at h_13
    refine lv_tableIn (tgt := 212) C.1 C.2.1 dX5_answer_21 (by rw [hk6]; decide) (by rw [hk6]; decide) (by rw [hk6]; rfl) (by decide) ?_
    refine lv_aload_n C.1 C.2.1 dX5_answer_212 rfl (lv_at hl_17 3 rfl) ?_
    refine lv_iload_n C.1 C.2.1 dX5_answer_213 rfl (lv_at hl_17 1 rfl) ?_
    refine lv_aload_n C.1 C.2.1 dX5_answer_214 rfl (lv_at hl_17 2 rfl) ?_
    refine cg_5_51 C G_16 ha dX5_answer_215 (fun t_39 => ?_)
    have t_39 : (T_14 31).1 = 26 := by rw [t_39]
    refine cg_5_83 C G_16 t_39 dX5_answer_218 (fun t_40 => ?_)
    refine vt_r (K := 25) t_40 h_13 (fun r_41 t_42 h_43 => ?_)
    obtain ⟨r_45, σ_44, hq, h_46⟩ := bd2_some h_43
    refine cl_callV (ci := 6) (rest := []) C G_16 rfl t_2 cw_RX5_224 [.int x3_7, cl_rf c0 r_41] _ (kc_X6_putOut l D c0 (by rw [G_16.1]; exact t_2) hq (by rw [G_16.1]; exact t_42)) (Nat.le_of_ble_eq_true rfl) (Nat.le_of_ble_eq_true rfl) rfl rfl hl_17.1 (Nat.le_of_ble_eq_true rfl) dX5_answer_221 (fun T_47 H locs cells slots t_48 hu G_49 => ?_)
    have t_15 := t_15.up hu (by decide)
    have ha := hu.kind ha (by decide)
    have t_2 := hu.kind t_2 (by decide)
    refine W.eq (g2 := F0 m 224 ls [.int r_45]) rfl ?_
    exact cl_iret ⟨rfl, rfl⟩ rfl C G_49 h_46 dX5_answer_224
  rw [if_neg hk6] at h_13
  by_cases hk7 : x2 = (7:Int32)
  · rw [if_pos hk7] at h_13
    refine lv_tableIn (tgt := 225) C.1 C.2.1 dX5_answer_21 (by rw [hk7]; decide) (by rw [hk7]; decide) (by rw [hk7]; rfl) (by decide) ?_
    refine lv_aload_n C.1 C.2.1 dX5_answer_225 rfl (lv_at hl_17 2 rfl) ?_
    refine lv_aload_n C.1 C.2.1 dX5_answer_226 rfl (lv_at hl_17 3 rfl) ?_
    refine lv_iload_n C.1 C.2.1 dX5_answer_227 rfl (lv_at hl_17 1 rfl) ?_
    obtain ⟨r_51, σ_50, hq, h_52⟩ := bd2_some h_13
    refine cl_callV (ci := 5) (rest := []) C G_16 rfl ha cw_RX5_228 [.ref (c0 + a_1), .int x3_7] _ (kc_X5_send l D c0 (by rw [G_16.1]; exact ha) hq (by rw [G_16.1]; exact (cl_RTs t_2))) (Nat.le_of_ble_eq_true rfl) (Nat.le_of_ble_eq_true rfl) rfl rfl hl_17.1 (Nat.le_of_ble_eq_true rfl) dX5_answer_228 (fun T_53 H locs cells slots t_54 hu G_55 => ?_)
    have t_15 := t_15.up hu (by decide)
    have ha := hu.kind ha (by decide)
    have t_2 := hu.kind t_2 (by decide)
    refine W.eq (g2 := F0 m 231 ls [.int r_51]) rfl ?_
    exact cl_iret ⟨rfl, rfl⟩ rfl C G_55 h_52 dX5_answer_231
  rw [if_neg hk7] at h_13
  by_cases hk8 : x2 = (8:Int32)
  · rw [if_pos hk8] at h_13
    refine lv_tableIn (tgt := 232) C.1 C.2.1 dX5_answer_21 (by rw [hk8]; decide) (by rw [hk8]; decide) (by rw [hk8]; rfl) (by decide) ?_
    refine lv_aload_n C.1 C.2.1 dX5_answer_232 rfl (lv_at hl_17 2 rfl) ?_
    refine lv_aload_n C.1 C.2.1 dX5_answer_233 rfl (lv_at hl_17 3 rfl) ?_
    refine lv_iload_n C.1 C.2.1 dX5_answer_234 rfl (lv_at hl_17 1 rfl) ?_
    obtain ⟨r_57, σ_56, hq, h_58⟩ := bd2_some h_13
    refine cl_callV (ci := 5) (rest := []) C G_16 rfl ha cw_RX5_231 [.ref (c0 + a_1), .int x3_7] _ (kc_X5_receive l D c0 (by rw [G_16.1]; exact ha) hq (by rw [G_16.1]; exact (cl_RTs t_2))) (Nat.le_of_ble_eq_true rfl) (Nat.le_of_ble_eq_true rfl) rfl rfl hl_17.1 (Nat.le_of_ble_eq_true rfl) dX5_answer_235 (fun T_59 H locs cells slots t_60 hu G_61 => ?_)
    have t_15 := t_15.up hu (by decide)
    have ha := hu.kind ha (by decide)
    have t_2 := hu.kind t_2 (by decide)
    refine W.eq (g2 := F0 m 238 ls [.int r_57]) rfl ?_
    exact cl_iret ⟨rfl, rfl⟩ rfl C G_61 h_58 dX5_answer_238
  rw [if_neg hk8] at h_13
  by_cases hk9 : x2 = (9:Int32)
  · rw [if_pos hk9] at h_13
    refine lv_tableIn (tgt := 239) C.1 C.2.1 dX5_answer_21 (by rw [hk9]; decide) (by rw [hk9]; decide) (by rw [hk9]; rfl) (by decide) ?_
    refine lv_aload_n C.1 C.2.1 dX5_answer_239 rfl (lv_at hl_17 2 rfl) ?_
    refine lv_aload_n C.1 C.2.1 dX5_answer_240 rfl (lv_at hl_17 3 rfl) ?_
    refine lv_iload_n C.1 C.2.1 dX5_answer_241 rfl (lv_at hl_17 1 rfl) ?_
    obtain ⟨r_63, σ_62, hq, h_64⟩ := bd2_some h_13
    refine cl_callV (ci := 5) (rest := []) C G_16 rfl ha cw_RX5_234 [.ref (c0 + a_1), .int x3_7] _ (kc_X5_sendTerm l D c0 (by rw [G_16.1]; exact ha) hq (by rw [G_16.1]; exact (cl_RTs t_2))) (Nat.le_of_ble_eq_true rfl) (Nat.le_of_ble_eq_true rfl) rfl rfl hl_17.1 (Nat.le_of_ble_eq_true rfl) dX5_answer_242 (fun T_65 H locs cells slots t_66 hu G_67 => ?_)
    have t_15 := t_15.up hu (by decide)
    have ha := hu.kind ha (by decide)
    have t_2 := hu.kind t_2 (by decide)
    refine W.eq (g2 := F0 m 245 ls [.int r_63]) rfl ?_
    exact cl_iret ⟨rfl, rfl⟩ rfl C G_67 h_64 dX5_answer_245
  rw [if_neg hk9] at h_13
  by_cases hk10 : x2 = (10:Int32)
  · rw [if_pos hk10] at h_13
    refine lv_tableIn (tgt := 246) C.1 C.2.1 dX5_answer_21 (by rw [hk10]; decide) (by rw [hk10]; decide) (by rw [hk10]; rfl) (by decide) ?_
    refine lv_aload_n C.1 C.2.1 dX5_answer_246 rfl (lv_at hl_17 2 rfl) ?_
    refine lv_aload_n C.1 C.2.1 dX5_answer_247 rfl (lv_at hl_17 3 rfl) ?_
    refine lv_iload_n C.1 C.2.1 dX5_answer_248 rfl (lv_at hl_17 1 rfl) ?_
    obtain ⟨r_69, σ_68, hq, h_70⟩ := bd2_some h_13
    refine cl_callV (ci := 5) (rest := []) C G_16 rfl ha cw_RX5_237 [.ref (c0 + a_1), .int x3_7] _ (kc_X5_receiveTerm l D c0 (by rw [G_16.1]; exact ha) hq (by rw [G_16.1]; exact (cl_RTs t_2))) (Nat.le_of_ble_eq_true rfl) (Nat.le_of_ble_eq_true rfl) rfl rfl hl_17.1 (Nat.le_of_ble_eq_true rfl) dX5_answer_249 (fun T_71 H locs cells slots t_72 hu G_73 => ?_)
    have t_15 := t_15.up hu (by decide)
    have ha := hu.kind ha (by decide)
    have t_2 := hu.kind t_2 (by decide)
    refine W.eq (g2 := F0 m 252 ls [.int r_69]) rfl ?_
    exact cl_iret ⟨rfl, rfl⟩ rfl C G_73 h_70 dX5_answer_252
  rw [if_neg hk10] at h_13
  by_cases hk11 : x2 = (11:Int32)
  · rw [if_pos hk11] at h_13
    refine lv_tableIn (tgt := 253) C.1 C.2.1 dX5_answer_21 (by rw [hk11]; decide) (by rw [hk11]; decide) (by rw [hk11]; rfl) (by decide) ?_
    refine lv_aload_n C.1 C.2.1 dX5_answer_253 rfl (lv_at hl_17 2 rfl) ?_
    refine lv_aload_n C.1 C.2.1 dX5_answer_254 rfl (lv_at hl_17 3 rfl) ?_
    refine cl_aload C.1 C.2.1 dX5_answer_255 (lv_at hl_17 0 rfl) ?_
    obtain ⟨r_75, σ_74, hq, h_76⟩ := bd2_some h_13
    refine cl_callV (ci := 5) (rest := []) C G_16 rfl ha cw_RX5_240 [.ref (c0 + a_1), cl_rf c0 r_12] _ (kc_X5_outTerm l D c0 (by rw [G_16.1]; exact ha) hq (by rw [G_16.1]; exact (cl_RTs t_2)) (by rw [G_16.1]; exact t_15)) (Nat.le_of_ble_eq_true rfl) (Nat.le_of_ble_eq_true rfl) rfl rfl hl_17.1 (Nat.le_of_ble_eq_true rfl) dX5_answer_257 (fun T_77 H locs cells slots t_78 hu G_79 => ?_)
    have t_15 := t_15.up hu (by decide)
    have ha := hu.kind ha (by decide)
    have t_2 := hu.kind t_2 (by decide)
    refine W.eq (g2 := F0 m 260 ls [.int r_75]) rfl ?_
    exact cl_iret ⟨rfl, rfl⟩ rfl C G_79 h_76 dX5_answer_260
  rw [if_neg hk11] at h_13
  by_cases hk12 : x2 = (12:Int32)
  · rw [if_pos hk12] at h_13
    refine lv_tableIn (tgt := 261) C.1 C.2.1 dX5_answer_21 (by rw [hk12]; decide) (by rw [hk12]; decide) (by rw [hk12]; rfl) (by decide) ?_
    refine lv_aload_n C.1 C.2.1 dX5_answer_261 rfl (lv_at hl_17 3 rfl) ?_
    obtain ⟨r_81, σ_80, hq, h_82⟩ := bd2_some h_13
    refine cl_callV (ci := 6) (rest := []) C G_16 rfl t_2 cw_RX5_244 [] _ (kc_X6_askTerm l D c0 (by rw [G_16.1]; exact t_2) hq) (Nat.le_of_ble_eq_true rfl) (Nat.le_of_ble_eq_true rfl) rfl rfl hl_17.1 (Nat.le_of_ble_eq_true rfl) dX5_answer_262 (fun T_83 H locs cells slots t_84 hu G_85 => ?_)
    have t_15 := t_15.up hu (by decide)
    have ha := hu.kind ha (by decide)
    have t_2 := hu.kind t_2 (by decide)
    refine W.eq (g2 := F0 m 265 ls [.int r_81]) rfl ?_
    exact cl_iret ⟨rfl, rfl⟩ rfl C G_85 h_82 dX5_answer_265
  rw [if_neg hk12] at h_13
  by_cases hk13 : x2 = (13:Int32)
  · rw [if_pos hk13] at h_13
    refine lv_tableIn (tgt := 266) C.1 C.2.1 dX5_answer_21 (by rw [hk13]; decide) (by rw [hk13]; decide) (by rw [hk13]; rfl) (by decide) ?_
    refine lv_aload_n C.1 C.2.1 dX5_answer_266 rfl (lv_at hl_17 3 rfl) ?_
    refine cg_5_199 C G_16 t_2 dX5_answer_267 (fun t_86 => ?_)
    have t_86 : (T_14 (a_1 + 9)).1 = 24 := by rw [t_86]
    refine lv_iconst (v := (0:Int32)) C.1 C.2.1 dX5_answer_270 (by decide) ?_
    refine lv_iload_n C.1 C.2.1 dX5_answer_271 rfl (lv_at hl_17 1 rfl) ?_
    refine lv_aload_n C.1 C.2.1 dX5_answer_272 rfl (lv_at hl_17 2 rfl) ?_
    refine cg_5_51 C G_16 ha dX5_answer_273 (fun t_87 => ?_)
    have t_87 : (T_14 31).1 = 26 := by rw [t_87]
    refine cg_5_83 C G_16 t_87 dX5_answer_276 (fun t_88 => ?_)
    refine vt_r (K := 25) t_88 h_13 (fun r_89 t_90 h_91 => ?_)
    refine lv_aload_n C.1 C.2.1 dX5_answer_279 rfl (lv_at hl_17 2 rfl) ?_
    refine cg_5_51 C G_16 ha dX5_answer_280 (fun t_92 => ?_)
    have t_92 : (T_14 31).1 = 26 := by rw [t_92]
    refine cg_5_83 C G_16 t_92 dX5_answer_283 (fun t_93 => ?_)
    refine vt_r (K := 25) t_93 h_91 (fun r_94 t_95 h_96 => ?_)
    refine lv_aload_n C.1 C.2.1 dX5_answer_286 rfl (lv_at hl_17 2 rfl) ?_
    refine cg_5_51 C G_16 ha dX5_answer_287 (fun t_97 => ?_)
    have t_97 : (T_14 31).1 = 26 := by rw [t_97]
    refine cg_5_83 C G_16 t_97 dX5_answer_290 (fun t_98 => ?_)
    refine vt_r (K := 25) t_98 h_96 (fun r_99 t_100 h_101 => ?_)
    obtain ⟨r_103, σ_102, hq, h_104⟩ := bd2_some h_101
    refine cl_callV (ci := 8) (rest := []) C G_16 rfl t_86 cw_RX5_247 [.int (0:Int32), .int x3_7, cl_rf c0 r_89, cl_rf c0 r_94, cl_rf c0 r_99] _ (kc_X8_comeInMade l D c0 (by rw [G_16.1]; exact t_86) hq (by rw [G_16.1]; exact t_90) (by rw [G_16.1]; exact t_95) (by rw [G_16.1]; exact t_100)) (Nat.le_of_ble_eq_true rfl) (Nat.le_of_ble_eq_true rfl) rfl rfl hl_17.1 (Nat.le_of_ble_eq_true rfl) dX5_answer_293 (fun T_105 H locs cells slots t_106 hu G_107 => ?_)
    have t_15 := t_15.up hu (by decide)
    have ha := hu.kind ha (by decide)
    have t_2 := hu.kind t_2 (by decide)
    refine W.eq (g2 := F0 m 296 ls [.int r_103]) rfl ?_
    exact cl_iret ⟨rfl, rfl⟩ rfl C G_107 h_104 dX5_answer_296
  rw [if_neg hk13] at h_13
  by_cases hk14 : x2 = (14:Int32)
  · rw [if_pos hk14] at h_13
    refine lv_tableIn (tgt := 297) C.1 C.2.1 dX5_answer_21 (by rw [hk14]; decide) (by rw [hk14]; decide) (by rw [hk14]; rfl) (by decide) ?_
    refine lv_aload_n C.1 C.2.1 dX5_answer_297 rfl (lv_at hl_17 2 rfl) ?_
    refine lv_aload_n C.1 C.2.1 dX5_answer_298 rfl (lv_at hl_17 3 rfl) ?_
    refine lv_iconst (v := (3:Int32)) C.1 C.2.1 dX5_answer_299 (by decide) ?_
    obtain ⟨r_109, σ_108, hq, h_110⟩ := bd2_some h_13
    refine cl_callV (ci := 5) (rest := []) C G_16 rfl ha cw_RX5_251 [.ref (c0 + a_1), .int (3:Int32)] _ (kc_X5_makeOf l D c0 (by rw [G_16.1]; exact ha) hq (by rw [G_16.1]; exact (cl_RTs t_2))) (Nat.le_of_ble_eq_true rfl) (Nat.le_of_ble_eq_true rfl) rfl rfl hl_17.1 (Nat.le_of_ble_eq_true rfl) dX5_answer_300 (fun T_111 H locs cells slots t_112 hu G_113 => ?_)
    have t_15 := t_15.up hu (by decide)
    have ha := hu.kind ha (by decide)
    have t_2 := hu.kind t_2 (by decide)
    refine W.eq (g2 := F0 m 303 ls [.int r_109]) rfl ?_
    exact cl_iret ⟨rfl, rfl⟩ rfl C G_113 h_110 dX5_answer_303
  rw [if_neg hk14] at h_13
  by_cases hk15 : x2 = (15:Int32)
  · rw [if_pos hk15] at h_13
    refine lv_tableIn (tgt := 304) C.1 C.2.1 dX5_answer_21 (by rw [hk15]; decide) (by rw [hk15]; decide) (by rw [hk15]; rfl) (by decide) ?_
    refine lv_aload_n C.1 C.2.1 dX5_answer_304 rfl (lv_at hl_17 2 rfl) ?_
    refine lv_aload_n C.1 C.2.1 dX5_answer_305 rfl (lv_at hl_17 3 rfl) ?_
    refine lv_iconst (v := (4:Int32)) C.1 C.2.1 dX5_answer_306 (by decide) ?_
    obtain ⟨r_115, σ_114, hq, h_116⟩ := bd2_some h_13
    refine cl_callV (ci := 5) (rest := []) C G_16 rfl ha cw_RX5_251 [.ref (c0 + a_1), .int (4:Int32)] _ (kc_X5_makeOf l D c0 (by rw [G_16.1]; exact ha) hq (by rw [G_16.1]; exact (cl_RTs t_2))) (Nat.le_of_ble_eq_true rfl) (Nat.le_of_ble_eq_true rfl) rfl rfl hl_17.1 (Nat.le_of_ble_eq_true rfl) dX5_answer_307 (fun T_117 H locs cells slots t_118 hu G_119 => ?_)
    have t_15 := t_15.up hu (by decide)
    have ha := hu.kind ha (by decide)
    have t_2 := hu.kind t_2 (by decide)
    refine W.eq (g2 := F0 m 310 ls [.int r_115]) rfl ?_
    exact cl_iret ⟨rfl, rfl⟩ rfl C G_119 h_116 dX5_answer_310
  rw [if_neg hk15] at h_13
  by_cases hk16 : x2 = (16:Int32)
  · rw [if_pos hk16] at h_13
    refine lv_tableIn (tgt := 311) C.1 C.2.1 dX5_answer_21 (by rw [hk16]; decide) (by rw [hk16]; decide) (by rw [hk16]; rfl) (by decide) ?_
    refine lv_aload_n C.1 C.2.1 dX5_answer_311 rfl (lv_at hl_17 2 rfl) ?_
    refine lv_aload_n C.1 C.2.1 dX5_answer_312 rfl (lv_at hl_17 3 rfl) ?_
    refine lv_iconst (v := (5:Int32)) C.1 C.2.1 dX5_answer_313 (by decide) ?_
    obtain ⟨r_121, σ_120, hq, h_122⟩ := bd2_some h_13
    refine cl_callV (ci := 5) (rest := []) C G_16 rfl ha cw_RX5_251 [.ref (c0 + a_1), .int (5:Int32)] _ (kc_X5_makeOf l D c0 (by rw [G_16.1]; exact ha) hq (by rw [G_16.1]; exact (cl_RTs t_2))) (Nat.le_of_ble_eq_true rfl) (Nat.le_of_ble_eq_true rfl) rfl rfl hl_17.1 (Nat.le_of_ble_eq_true rfl) dX5_answer_314 (fun T_123 H locs cells slots t_124 hu G_125 => ?_)
    have t_15 := t_15.up hu (by decide)
    have ha := hu.kind ha (by decide)
    have t_2 := hu.kind t_2 (by decide)
    refine W.eq (g2 := F0 m 317 ls [.int r_121]) rfl ?_
    exact cl_iret ⟨rfl, rfl⟩ rfl C G_125 h_122 dX5_answer_317
  rw [if_neg hk16] at h_13
  by_cases hk17 : x2 = (17:Int32)
  · rw [if_pos hk17] at h_13
    refine lv_tableIn (tgt := 318) C.1 C.2.1 dX5_answer_21 (by rw [hk17]; decide) (by rw [hk17]; decide) (by rw [hk17]; rfl) (by decide) ?_
    refine lv_aload_n C.1 C.2.1 dX5_answer_318 rfl (lv_at hl_17 2 rfl) ?_
    refine lv_aload_n C.1 C.2.1 dX5_answer_319 rfl (lv_at hl_17 3 rfl) ?_
    refine lv_bipush (v := (6:Int32)) C.1 C.2.1 dX5_answer_320 (by decide) ?_
    obtain ⟨r_127, σ_126, hq, h_128⟩ := bd2_some h_13
    refine cl_callV (ci := 5) (rest := []) C G_16 rfl ha cw_RX5_251 [.ref (c0 + a_1), .int (6:Int32)] _ (kc_X5_makeOf l D c0 (by rw [G_16.1]; exact ha) hq (by rw [G_16.1]; exact (cl_RTs t_2))) (Nat.le_of_ble_eq_true rfl) (Nat.le_of_ble_eq_true rfl) rfl rfl hl_17.1 (Nat.le_of_ble_eq_true rfl) dX5_answer_322 (fun T_129 H locs cells slots t_130 hu G_131 => ?_)
    have t_15 := t_15.up hu (by decide)
    have ha := hu.kind ha (by decide)
    have t_2 := hu.kind t_2 (by decide)
    refine W.eq (g2 := F0 m 325 ls [.int r_127]) rfl ?_
    exact cl_iret ⟨rfl, rfl⟩ rfl C G_131 h_128 dX5_answer_325
  rw [if_neg hk17] at h_13
  by_cases hk18 : x2 = (18:Int32)
  · rw [if_pos hk18] at h_13
    refine lv_tableIn (tgt := 326) C.1 C.2.1 dX5_answer_21 (by rw [hk18]; decide) (by rw [hk18]; decide) (by rw [hk18]; rfl) (by decide) ?_
    refine lv_aload_n C.1 C.2.1 dX5_answer_326 rfl (lv_at hl_17 2 rfl) ?_
    refine lv_aload_n C.1 C.2.1 dX5_answer_327 rfl (lv_at hl_17 3 rfl) ?_
    refine lv_bipush (v := (7:Int32)) C.1 C.2.1 dX5_answer_328 (by decide) ?_
    obtain ⟨r_133, σ_132, hq, h_134⟩ := bd2_some h_13
    refine cl_callV (ci := 5) (rest := []) C G_16 rfl ha cw_RX5_251 [.ref (c0 + a_1), .int (7:Int32)] _ (kc_X5_makeOf l D c0 (by rw [G_16.1]; exact ha) hq (by rw [G_16.1]; exact (cl_RTs t_2))) (Nat.le_of_ble_eq_true rfl) (Nat.le_of_ble_eq_true rfl) rfl rfl hl_17.1 (Nat.le_of_ble_eq_true rfl) dX5_answer_330 (fun T_135 H locs cells slots t_136 hu G_137 => ?_)
    have t_15 := t_15.up hu (by decide)
    have ha := hu.kind ha (by decide)
    have t_2 := hu.kind t_2 (by decide)
    refine W.eq (g2 := F0 m 333 ls [.int r_133]) rfl ?_
    exact cl_iret ⟨rfl, rfl⟩ rfl C G_137 h_134 dX5_answer_333
  rw [if_neg hk18] at h_13
  by_cases hk19 : x2 = (19:Int32)
  · rw [if_pos hk19] at h_13
    refine lv_tableIn (tgt := 334) C.1 C.2.1 dX5_answer_21 (by rw [hk19]; decide) (by rw [hk19]; decide) (by rw [hk19]; rfl) (by decide) ?_
    refine lv_aload_n C.1 C.2.1 dX5_answer_334 rfl (lv_at hl_17 2 rfl) ?_
    refine lv_aload_n C.1 C.2.1 dX5_answer_335 rfl (lv_at hl_17 3 rfl) ?_
    refine lv_bipush (v := (8:Int32)) C.1 C.2.1 dX5_answer_336 (by decide) ?_
    obtain ⟨r_139, σ_138, hq, h_140⟩ := bd2_some h_13
    refine cl_callV (ci := 5) (rest := []) C G_16 rfl ha cw_RX5_251 [.ref (c0 + a_1), .int (8:Int32)] _ (kc_X5_makeOf l D c0 (by rw [G_16.1]; exact ha) hq (by rw [G_16.1]; exact (cl_RTs t_2))) (Nat.le_of_ble_eq_true rfl) (Nat.le_of_ble_eq_true rfl) rfl rfl hl_17.1 (Nat.le_of_ble_eq_true rfl) dX5_answer_338 (fun T_141 H locs cells slots t_142 hu G_143 => ?_)
    have t_15 := t_15.up hu (by decide)
    have ha := hu.kind ha (by decide)
    have t_2 := hu.kind t_2 (by decide)
    refine W.eq (g2 := F0 m 341 ls [.int r_139]) rfl ?_
    exact cl_iret ⟨rfl, rfl⟩ rfl C G_143 h_140 dX5_answer_341
  rw [if_neg hk19] at h_13
  by_cases hk20 : x2 = (20:Int32)
  · rw [if_pos hk20] at h_13
    refine lv_tableIn (tgt := 342) C.1 C.2.1 dX5_answer_21 (by rw [hk20]; decide) (by rw [hk20]; decide) (by rw [hk20]; rfl) (by decide) ?_
    refine lv_aload_n C.1 C.2.1 dX5_answer_342 rfl (lv_at hl_17 2 rfl) ?_
    refine lv_aload_n C.1 C.2.1 dX5_answer_343 rfl (lv_at hl_17 3 rfl) ?_
    refine lv_bipush (v := (9:Int32)) C.1 C.2.1 dX5_answer_344 (by decide) ?_
    obtain ⟨r_145, σ_144, hq, h_146⟩ := bd2_some h_13
    refine cl_callV (ci := 5) (rest := []) C G_16 rfl ha cw_RX5_251 [.ref (c0 + a_1), .int (9:Int32)] _ (kc_X5_makeOf l D c0 (by rw [G_16.1]; exact ha) hq (by rw [G_16.1]; exact (cl_RTs t_2))) (Nat.le_of_ble_eq_true rfl) (Nat.le_of_ble_eq_true rfl) rfl rfl hl_17.1 (Nat.le_of_ble_eq_true rfl) dX5_answer_346 (fun T_147 H locs cells slots t_148 hu G_149 => ?_)
    have t_15 := t_15.up hu (by decide)
    have ha := hu.kind ha (by decide)
    have t_2 := hu.kind t_2 (by decide)
    refine W.eq (g2 := F0 m 349 ls [.int r_145]) rfl ?_
    exact cl_iret ⟨rfl, rfl⟩ rfl C G_149 h_146 dX5_answer_349
  rw [if_neg hk20] at h_13
  by_cases hk21 : x2 = (21:Int32)
  · rw [if_pos hk21] at h_13
    refine lv_tableIn (tgt := 350) C.1 C.2.1 dX5_answer_21 (by rw [hk21]; decide) (by rw [hk21]; decide) (by rw [hk21]; rfl) (by decide) ?_
    refine lv_aload_n C.1 C.2.1 dX5_answer_350 rfl (lv_at hl_17 3 rfl) ?_
    obtain ⟨r_151, σ_150, hq, h_152⟩ := bd2_some h_13
    refine cl_callV (ci := 6) (rest := []) C G_16 rfl t_2 cw_RX5_254 [] _ (kc_X6_askSecret l D c0 (by rw [G_16.1]; exact t_2) hq) (Nat.le_of_ble_eq_true rfl) (Nat.le_of_ble_eq_true rfl) rfl rfl hl_17.1 (Nat.le_of_ble_eq_true rfl) dX5_answer_351 (fun T_153 H locs cells slots t_154 hu G_155 => ?_)
    have t_15 := t_15.up hu (by decide)
    have ha := hu.kind ha (by decide)
    have t_2 := hu.kind t_2 (by decide)
    refine W.eq (g2 := F0 m 354 ls [.int r_151]) rfl ?_
    exact cl_iret ⟨rfl, rfl⟩ rfl C G_155 h_152 dX5_answer_354
  rw [if_neg hk21] at h_13
  by_cases hk22 : x2 = (22:Int32)
  · rw [if_pos hk22] at h_13
    refine lv_tableIn (tgt := 355) C.1 C.2.1 dX5_answer_21 (by rw [hk22]; decide) (by rw [hk22]; decide) (by rw [hk22]; rfl) (by decide) ?_
    refine cl_aload C.1 C.2.1 dX5_answer_355 (lv_at hl_17 0 rfl) ?_
    refine lv_aload_n C.1 C.2.1 dX5_answer_357 rfl (lv_at hl_17 2 rfl) ?_
    refine cg_5_51 C G_16 ha dX5_answer_358 (fun t_156 => ?_)
    have t_156 : (T_14 31).1 = 26 := by rw [t_156]
    refine cg_5_83 C G_16 t_156 dX5_answer_361 (fun t_157 => ?_)
    refine vt_r (K := 25) t_157 h_13 (fun r_158 t_159 h_160 => ?_)
    refine cl_acmp_ne (rx := r_12) (ry := r_158) (tgt := 372) C.1 C.2.1 dX5_answer_364 (by decide) (fun hc => ?_) (fun hc => ?_)
    · rw [if_neg hc] at h_160
      refine cl_aload C.1 C.2.1 dX5_answer_372 (lv_at hl_17 0 rfl) ?_
      obtain ⟨a_161, rfl, h_163⟩ := nn_some h_160
      have t_162 := t_15 _ rfl
      refine cg_5_257 C G_16 t_162 dX5_answer_374 ?_
      exact cl_iret ⟨rfl, rfl⟩ rfl C G_16 h_163 dX5_answer_377
    · rw [if_pos hc] at h_160
      refine lv_bipush (v := (-2:Int32)) C.1 C.2.1 dX5_answer_367 (by decide) ?_
      refine lv_goto (tgt := 377) C.1 C.2.1 dX5_answer_369 (by decide) ?_
      exact cl_iret ⟨rfl, rfl⟩ rfl C G_16 h_160 dX5_answer_377
  rw [if_neg hk22] at h_13
  by_cases hk23 : x2 = (23:Int32)
  · rw [if_pos hk23] at h_13
    refine lv_tableIn (tgt := 378) C.1 C.2.1 dX5_answer_21 (by rw [hk23]; decide) (by rw [hk23]; decide) (by rw [hk23]; rfl) (by decide) ?_
    refine lv_aload_n C.1 C.2.1 dX5_answer_378 rfl (lv_at hl_17 2 rfl) ?_
    refine lv_aload_n C.1 C.2.1 dX5_answer_379 rfl (lv_at hl_17 3 rfl) ?_
    refine cl_aload C.1 C.2.1 dX5_answer_380 (lv_at hl_17 0 rfl) ?_
    obtain ⟨r_165, σ_164, hq, h_166⟩ := bd2_some h_13
    refine cl_callV (ci := 5) (rest := []) C G_16 rfl ha cw_RX5_260 [.ref (c0 + a_1), cl_rf c0 r_12] _ (kc_X5_lookAtNumber l D c0 (by rw [G_16.1]; exact ha) hq (by rw [G_16.1]; exact (cl_RTs t_2)) (by rw [G_16.1]; exact t_15)) (Nat.le_of_ble_eq_true rfl) (Nat.le_of_ble_eq_true rfl) rfl rfl hl_17.1 (Nat.le_of_ble_eq_true rfl) dX5_answer_382 (fun T_167 H locs cells slots t_168 hu G_169 => ?_)
    have t_15 := t_15.up hu (by decide)
    have ha := hu.kind ha (by decide)
    have t_2 := hu.kind t_2 (by decide)
    refine W.eq (g2 := F0 m 385 ls [.int r_165]) rfl ?_
    exact cl_iret ⟨rfl, rfl⟩ rfl C G_169 h_166 dX5_answer_385
  rw [if_neg hk23] at h_13
  by_cases hk24 : x2 = (24:Int32)
  · rw [if_pos hk24] at h_13
    refine lv_tableIn (tgt := 386) C.1 C.2.1 dX5_answer_21 (by rw [hk24]; decide) (by rw [hk24]; decide) (by rw [hk24]; rfl) (by decide) ?_
    refine lv_aload_n C.1 C.2.1 dX5_answer_386 rfl (lv_at hl_17 2 rfl) ?_
    refine lv_aload_n C.1 C.2.1 dX5_answer_387 rfl (lv_at hl_17 3 rfl) ?_
    refine cl_aload C.1 C.2.1 dX5_answer_388 (lv_at hl_17 0 rfl) ?_
    refine lv_iconst (v := (3:Int32)) C.1 C.2.1 dX5_answer_390 (by decide) ?_
    refine cl_aload C.1 C.2.1 dX5_answer_391 (lv_at hl_17 0 rfl) ?_
    obtain ⟨a_170, rfl, h_172⟩ := nn_some h_13
    have t_171 := t_15 _ rfl
    refine cg_5_263 C G_16 t_171 dX5_answer_393 (fun t_173 => ?_)
    refine vt_r (K := 25) t_173 h_172 (fun r_174 t_175 h_176 => ?_)
    obtain ⟨r_178, σ_177, hq, h_179⟩ := bd2_some h_176
    refine cl_callV (ci := 5) (rest := []) C G_16 rfl ha cw_RX5_266 [.ref (c0 + a_1), .ref (c0 + a_170), .int (3:Int32), cl_rf c0 r_174] _ (kc_X5_lookInto l D c0 (by rw [G_16.1]; exact ha) hq (by rw [G_16.1]; exact (cl_RTs t_2)) (by rw [G_16.1]; exact (cl_RTs t_171)) (by rw [G_16.1]; exact t_175)) (Nat.le_of_ble_eq_true rfl) (Nat.le_of_ble_eq_true rfl) rfl rfl hl_17.1 (Nat.le_of_ble_eq_true rfl) dX5_answer_396 (fun T_180 H locs cells slots t_181 hu G_182 => ?_)
    have t_171 := hu.kind t_171 (by decide)
    have ha := hu.kind ha (by decide)
    have t_2 := hu.kind t_2 (by decide)
    refine W.eq (g2 := F0 m 399 ls [.int r_178]) rfl ?_
    exact cl_iret ⟨rfl, rfl⟩ rfl C G_182 h_179 dX5_answer_399
  rw [if_neg hk24] at h_13
  by_cases hk25 : x2 = (25:Int32)
  · rw [if_pos hk25] at h_13
    refine lv_tableIn (tgt := 400) C.1 C.2.1 dX5_answer_21 (by rw [hk25]; decide) (by rw [hk25]; decide) (by rw [hk25]; rfl) (by decide) ?_
    refine lv_aload_n C.1 C.2.1 dX5_answer_400 rfl (lv_at hl_17 2 rfl) ?_
    refine lv_aload_n C.1 C.2.1 dX5_answer_401 rfl (lv_at hl_17 3 rfl) ?_
    refine cl_aload C.1 C.2.1 dX5_answer_402 (lv_at hl_17 0 rfl) ?_
    refine lv_iconst (v := (3:Int32)) C.1 C.2.1 dX5_answer_404 (by decide) ?_
    refine cl_aload C.1 C.2.1 dX5_answer_405 (lv_at hl_17 0 rfl) ?_
    obtain ⟨a_183, rfl, h_185⟩ := nn_some h_13
    have t_184 := t_15 _ rfl
    refine cg_5_270 C G_16 t_184 dX5_answer_407 (fun t_186 => ?_)
    refine vt_r (K := 25) t_186 h_185 (fun r_187 t_188 h_189 => ?_)
    obtain ⟨r_191, σ_190, hq, h_192⟩ := bd2_some h_189
    refine cl_callV (ci := 5) (rest := []) C G_16 rfl ha cw_RX5_266 [.ref (c0 + a_1), .ref (c0 + a_183), .int (3:Int32), cl_rf c0 r_187] _ (kc_X5_lookInto l D c0 (by rw [G_16.1]; exact ha) hq (by rw [G_16.1]; exact (cl_RTs t_2)) (by rw [G_16.1]; exact (cl_RTs t_184)) (by rw [G_16.1]; exact t_188)) (Nat.le_of_ble_eq_true rfl) (Nat.le_of_ble_eq_true rfl) rfl rfl hl_17.1 (Nat.le_of_ble_eq_true rfl) dX5_answer_410 (fun T_193 H locs cells slots t_194 hu G_195 => ?_)
    have t_184 := hu.kind t_184 (by decide)
    have ha := hu.kind ha (by decide)
    have t_2 := hu.kind t_2 (by decide)
    refine W.eq (g2 := F0 m 413 ls [.int r_191]) rfl ?_
    exact cl_iret ⟨rfl, rfl⟩ rfl C G_195 h_192 dX5_answer_413
  rw [if_neg hk25] at h_13
  by_cases hk26 : x2 = (26:Int32)
  · rw [if_pos hk26] at h_13
    refine lv_tableIn (tgt := 414) C.1 C.2.1 dX5_answer_21 (by rw [hk26]; decide) (by rw [hk26]; decide) (by rw [hk26]; rfl) (by decide) ?_
    refine lv_aload_n C.1 C.2.1 dX5_answer_414 rfl (lv_at hl_17 2 rfl) ?_
    refine lv_aload_n C.1 C.2.1 dX5_answer_415 rfl (lv_at hl_17 3 rfl) ?_
    refine cl_aload C.1 C.2.1 dX5_answer_416 (lv_at hl_17 0 rfl) ?_
    refine lv_bipush (v := (7:Int32)) C.1 C.2.1 dX5_answer_418 (by decide) ?_
    refine cl_aload C.1 C.2.1 dX5_answer_420 (lv_at hl_17 0 rfl) ?_
    obtain ⟨a_196, rfl, h_198⟩ := nn_some h_13
    have t_197 := t_15 _ rfl
    refine cg_5_270 C G_16 t_197 dX5_answer_422 (fun t_199 => ?_)
    refine vt_r (K := 25) t_199 h_198 (fun r_200 t_201 h_202 => ?_)
    obtain ⟨r_204, σ_203, hq, h_205⟩ := bd2_some h_202
    refine cl_callV (ci := 5) (rest := []) C G_16 rfl ha cw_RX5_266 [.ref (c0 + a_1), .ref (c0 + a_196), .int (7:Int32), cl_rf c0 r_200] _ (kc_X5_lookInto l D c0 (by rw [G_16.1]; exact ha) hq (by rw [G_16.1]; exact (cl_RTs t_2)) (by rw [G_16.1]; exact (cl_RTs t_197)) (by rw [G_16.1]; exact t_201)) (Nat.le_of_ble_eq_true rfl) (Nat.le_of_ble_eq_true rfl) rfl rfl hl_17.1 (Nat.le_of_ble_eq_true rfl) dX5_answer_425 (fun T_206 H locs cells slots t_207 hu G_208 => ?_)
    have t_197 := hu.kind t_197 (by decide)
    have ha := hu.kind ha (by decide)
    have t_2 := hu.kind t_2 (by decide)
    refine W.eq (g2 := F0 m 428 ls [.int r_204]) rfl ?_
    exact cl_iret ⟨rfl, rfl⟩ rfl C G_208 h_205 dX5_answer_428
  rw [if_neg hk26] at h_13
  by_cases hk27 : x2 = (27:Int32)
  · rw [if_pos hk27] at h_13
    refine lv_tableIn (tgt := 429) C.1 C.2.1 dX5_answer_21 (by rw [hk27]; decide) (by rw [hk27]; decide) (by rw [hk27]; rfl) (by decide) ?_
    refine lv_aload_n C.1 C.2.1 dX5_answer_429 rfl (lv_at hl_17 2 rfl) ?_
    refine lv_aload_n C.1 C.2.1 dX5_answer_430 rfl (lv_at hl_17 3 rfl) ?_
    refine cl_aload C.1 C.2.1 dX5_answer_431 (lv_at hl_17 0 rfl) ?_
    obtain ⟨r_210, σ_209, hq, h_211⟩ := bd2_some h_13
    refine cl_callV (ci := 5) (rest := []) C G_16 rfl ha cw_RX5_273 [.ref (c0 + a_1), cl_rf c0 r_12] _ (kc_X5_checkSigned l D c0 (by rw [G_16.1]; exact ha) hq (by rw [G_16.1]; exact (cl_RTs t_2)) (by rw [G_16.1]; exact t_15)) (Nat.le_of_ble_eq_true rfl) (Nat.le_of_ble_eq_true rfl) rfl rfl hl_17.1 (Nat.le_of_ble_eq_true rfl) dX5_answer_433 (fun T_212 H locs cells slots t_213 hu G_214 => ?_)
    have t_15 := t_15.up hu (by decide)
    have ha := hu.kind ha (by decide)
    have t_2 := hu.kind t_2 (by decide)
    refine W.eq (g2 := F0 m 436 ls [.int r_210]) rfl ?_
    exact cl_iret ⟨rfl, rfl⟩ rfl C G_214 h_211 dX5_answer_436
  rw [if_neg hk27] at h_13
  by_cases hk28 : x2 = (28:Int32)
  · rw [if_pos hk28] at h_13
    refine lv_tableIn (tgt := 437) C.1 C.2.1 dX5_answer_21 (by rw [hk28]; decide) (by rw [hk28]; decide) (by rw [hk28]; rfl) (by decide) ?_
    refine lv_aload_n C.1 C.2.1 dX5_answer_437 rfl (lv_at hl_17 2 rfl) ?_
    refine lv_aload_n C.1 C.2.1 dX5_answer_438 rfl (lv_at hl_17 3 rfl) ?_
    refine cl_aload C.1 C.2.1 dX5_answer_439 (lv_at hl_17 0 rfl) ?_
    obtain ⟨r_216, σ_215, hq, h_217⟩ := bd2_some h_13
    refine cl_callV (ci := 5) (rest := []) C G_16 rfl ha cw_RX5_276 [.ref (c0 + a_1), cl_rf c0 r_12] _ (kc_X5_openClosed l D c0 (by rw [G_16.1]; exact ha) hq (by rw [G_16.1]; exact (cl_RTs t_2)) (by rw [G_16.1]; exact t_15)) (Nat.le_of_ble_eq_true rfl) (Nat.le_of_ble_eq_true rfl) rfl rfl hl_17.1 (Nat.le_of_ble_eq_true rfl) dX5_answer_441 (fun T_218 H locs cells slots t_219 hu G_220 => ?_)
    have t_15 := t_15.up hu (by decide)
    have ha := hu.kind ha (by decide)
    have t_2 := hu.kind t_2 (by decide)
    refine W.eq (g2 := F0 m 444 ls [.int r_216]) rfl ?_
    exact cl_iret ⟨rfl, rfl⟩ rfl C G_220 h_217 dX5_answer_444
  rw [if_neg hk28] at h_13
  by_cases hk29 : x2 = (29:Int32)
  · rw [if_pos hk29] at h_13
    refine lv_tableIn (tgt := 445) C.1 C.2.1 dX5_answer_21 (by rw [hk29]; decide) (by rw [hk29]; decide) (by rw [hk29]; rfl) (by decide) ?_
    refine lv_aload_n C.1 C.2.1 dX5_answer_445 rfl (lv_at hl_17 3 rfl) ?_
    refine cg_5_199 C G_16 t_2 dX5_answer_446 (fun t_221 => ?_)
    have t_221 : (T_14 (a_1 + 9)).1 = 24 := by rw [t_221]
    refine lv_aload_n C.1 C.2.1 dX5_answer_449 rfl (lv_at hl_17 3 rfl) ?_
    refine cg_5_279 C G_16 t_2 dX5_answer_450 (fun t_222 => ?_)
    refine vt_r (K := 25) t_222 h_13 (fun r_223 t_224 h_225 => ?_)
    obtain ⟨r_227, σ_226, hq, h_228⟩ := bd2_some h_225
    refine cl_callV (ci := 8) (rest := []) C G_16 rfl t_221 cw_RX5_282 [cl_rf c0 r_223] _ (kc_X8_comeIn l D c0 (by rw [G_16.1]; exact t_221) hq (by rw [G_16.1]; exact t_224)) (Nat.le_of_ble_eq_true rfl) (Nat.le_of_ble_eq_true rfl) rfl rfl hl_17.1 (Nat.le_of_ble_eq_true rfl) dX5_answer_453 (fun T_229 H locs cells slots t_230 hu G_231 => ?_)
    have t_15 := t_15.up hu (by decide)
    have ha := hu.kind ha (by decide)
    have t_2 := hu.kind t_2 (by decide)
    refine W.eq (g2 := F0 m 456 ls [.int r_227]) rfl ?_
    exact cl_iret ⟨rfl, rfl⟩ rfl C G_231 h_228 dX5_answer_456
  rw [if_neg hk29] at h_13
  by_cases hk30 : x2 = (30:Int32)
  · rw [if_pos hk30] at h_13
    refine lv_tableIn (tgt := 457) C.1 C.2.1 dX5_answer_21 (by rw [hk30]; decide) (by rw [hk30]; decide) (by rw [hk30]; rfl) (by decide) ?_
    refine lv_aload_n C.1 C.2.1 dX5_answer_457 rfl (lv_at hl_17 2 rfl) ?_
    refine lv_aload_n C.1 C.2.1 dX5_answer_458 rfl (lv_at hl_17 3 rfl) ?_
    refine cl_aload C.1 C.2.1 dX5_answer_459 (lv_at hl_17 0 rfl) ?_
    obtain ⟨r_233, σ_232, hq, h_234⟩ := bd2_some h_13
    refine cl_callV (ci := 5) (rest := []) C G_16 rfl ha cw_RX5_285 [.ref (c0 + a_1), cl_rf c0 r_12] _ (kc_X5_quote l D c0 (by rw [G_16.1]; exact ha) hq (by rw [G_16.1]; exact (cl_RTs t_2)) (by rw [G_16.1]; exact t_15)) (Nat.le_of_ble_eq_true rfl) (Nat.le_of_ble_eq_true rfl) rfl rfl hl_17.1 (Nat.le_of_ble_eq_true rfl) dX5_answer_461 (fun T_235 H locs cells slots t_236 hu G_237 => ?_)
    have t_15 := t_15.up hu (by decide)
    have ha := hu.kind ha (by decide)
    have t_2 := hu.kind t_2 (by decide)
    refine W.eq (g2 := F0 m 464 ls [.int r_233]) rfl ?_
    exact cl_iret ⟨rfl, rfl⟩ rfl C G_237 h_234 dX5_answer_464
  rw [if_neg hk30] at h_13
  by_cases hk31 : x2 = (31:Int32)
  · rw [if_pos hk31] at h_13
    refine lv_tableIn (tgt := 465) C.1 C.2.1 dX5_answer_21 (by rw [hk31]; decide) (by rw [hk31]; decide) (by rw [hk31]; rfl) (by decide) ?_
    refine lv_aload_n C.1 C.2.1 dX5_answer_465 rfl (lv_at hl_17 3 rfl) ?_
    refine cg_5_199 C G_16 t_2 dX5_answer_466 (fun t_238 => ?_)
    have t_238 : (T_14 (a_1 + 9)).1 = 24 := by rw [t_238]
    refine lv_aload_n C.1 C.2.1 dX5_answer_469 rfl (lv_at hl_17 2 rfl) ?_
    refine cg_5_51 C G_16 ha dX5_answer_470 (fun t_239 => ?_)
    have t_239 : (T_14 31).1 = 26 := by rw [t_239]
    refine cg_5_288 C G_16 t_239 dX5_answer_473 (fun t_240 => ?_)
    refine vt_r (K := 25) t_240 h_13 (fun r_241 t_242 h_243 => ?_)
    obtain ⟨r_245, σ_244, hq, h_246⟩ := bd2_some h_243
    refine cl_callV (ci := 8) (rest := []) C G_16 rfl t_238 cw_RX5_282 [cl_rf c0 r_241] _ (kc_X8_comeIn l D c0 (by rw [G_16.1]; exact t_238) hq (by rw [G_16.1]; exact t_242)) (Nat.le_of_ble_eq_true rfl) (Nat.le_of_ble_eq_true rfl) rfl rfl hl_17.1 (Nat.le_of_ble_eq_true rfl) dX5_answer_476 (fun T_247 H locs cells slots t_248 hu G_249 => ?_)
    have t_15 := t_15.up hu (by decide)
    have ha := hu.kind ha (by decide)
    have t_2 := hu.kind t_2 (by decide)
    refine W.eq (g2 := F0 m 479 ls [.int r_245]) rfl ?_
    exact cl_iret ⟨rfl, rfl⟩ rfl C G_249 h_246 dX5_answer_479
  rw [if_neg hk31] at h_13
  by_cases hk32 : x2 = (32:Int32)
  · rw [if_pos hk32] at h_13
    refine lv_tableIn (tgt := 480) C.1 C.2.1 dX5_answer_21 (by rw [hk32]; decide) (by rw [hk32]; decide) (by rw [hk32]; rfl) (by decide) ?_
    refine lv_aload_n C.1 C.2.1 dX5_answer_480 rfl (lv_at hl_17 2 rfl) ?_
    refine lv_aload_n C.1 C.2.1 dX5_answer_481 rfl (lv_at hl_17 3 rfl) ?_
    refine lv_iload_n C.1 C.2.1 dX5_answer_482 rfl (lv_at hl_17 1 rfl) ?_
    obtain ⟨r_251, σ_250, hq, h_252⟩ := bd2_some h_13
    refine cl_callV (ci := 5) (rest := []) C G_16 rfl ha cw_RX5_291 [.ref (c0 + a_1), .int x3_7] _ (kc_X5_seal l D c0 (by rw [G_16.1]; exact ha) hq (by rw [G_16.1]; exact (cl_RTs t_2))) (Nat.le_of_ble_eq_true rfl) (Nat.le_of_ble_eq_true rfl) rfl rfl hl_17.1 (Nat.le_of_ble_eq_true rfl) dX5_answer_483 (fun T_253 H locs cells slots t_254 hu G_255 => ?_)
    have t_15 := t_15.up hu (by decide)
    have ha := hu.kind ha (by decide)
    have t_2 := hu.kind t_2 (by decide)
    refine W.eq (g2 := F0 m 486 ls [.int r_251]) rfl ?_
    exact cl_iret ⟨rfl, rfl⟩ rfl C G_255 h_252 dX5_answer_486
  rw [if_neg hk32] at h_13
  by_cases hk33 : x2 = (33:Int32)
  · rw [if_pos hk33] at h_13
    refine lv_tableIn (tgt := 487) C.1 C.2.1 dX5_answer_21 (by rw [hk33]; decide) (by rw [hk33]; decide) (by rw [hk33]; rfl) (by decide) ?_
    refine lv_aload_n C.1 C.2.1 dX5_answer_487 rfl (lv_at hl_17 2 rfl) ?_
    refine lv_aload_n C.1 C.2.1 dX5_answer_488 rfl (lv_at hl_17 3 rfl) ?_
    refine lv_iload_n C.1 C.2.1 dX5_answer_489 rfl (lv_at hl_17 1 rfl) ?_
    obtain ⟨r_257, σ_256, hq, h_258⟩ := bd2_some h_13
    refine cl_callV (ci := 5) (rest := []) C G_16 rfl ha cw_RX5_294 [.ref (c0 + a_1), .int x3_7] _ (kc_X5_unseal l D c0 (by rw [G_16.1]; exact ha) hq (by rw [G_16.1]; exact (cl_RTs t_2))) (Nat.le_of_ble_eq_true rfl) (Nat.le_of_ble_eq_true rfl) rfl rfl hl_17.1 (Nat.le_of_ble_eq_true rfl) dX5_answer_490 (fun T_259 H locs cells slots t_260 hu G_261 => ?_)
    have t_15 := t_15.up hu (by decide)
    have ha := hu.kind ha (by decide)
    have t_2 := hu.kind t_2 (by decide)
    refine W.eq (g2 := F0 m 493 ls [.int r_257]) rfl ?_
    exact cl_iret ⟨rfl, rfl⟩ rfl C G_261 h_258 dX5_answer_493
  rw [if_neg hk33] at h_13
  refine lv_tableOut (tgt := 494) C.1 C.2.1 dX5_answer_21 ?_ (by decide) ?_
  · rcases Int.lt_or_le x2.toInt 0 with q | q
    · exact Or.inl q
    · rcases Int.lt_or_le 33 x2.toInt with q2 | q2
      · exact Or.inr q2
      · exfalso
        have hd : x2.toInt = (0 : Int) ∨ x2.toInt = (1 : Int) ∨ x2.toInt = (2 : Int) ∨ x2.toInt = (3 : Int) ∨ x2.toInt = (4 : Int) ∨ x2.toInt = (5 : Int) ∨ x2.toInt = (6 : Int) ∨ x2.toInt = (7 : Int) ∨ x2.toInt = (8 : Int) ∨ x2.toInt = (9 : Int) ∨ x2.toInt = (10 : Int) ∨ x2.toInt = (11 : Int) ∨ x2.toInt = (12 : Int) ∨ x2.toInt = (13 : Int) ∨ x2.toInt = (14 : Int) ∨ x2.toInt = (15 : Int) ∨ x2.toInt = (16 : Int) ∨ x2.toInt = (17 : Int) ∨ x2.toInt = (18 : Int) ∨ x2.toInt = (19 : Int) ∨ x2.toInt = (20 : Int) ∨ x2.toInt = (21 : Int) ∨ x2.toInt = (22 : Int) ∨ x2.toInt = (23 : Int) ∨ x2.toInt = (24 : Int) ∨ x2.toInt = (25 : Int) ∨ x2.toInt = (26 : Int) ∨ x2.toInt = (27 : Int) ∨ x2.toInt = (28 : Int) ∨ x2.toInt = (29 : Int) ∨ x2.toInt = (30 : Int) ∨ x2.toInt = (31 : Int) ∨ x2.toInt = (32 : Int) ∨ x2.toInt = (33 : Int) := by omega
        rcases hd with e | e | e | e | e | e | e | e | e | e | e | e | e | e | e | e | e | e | e | e | e | e | e | e | e | e | e | e | e | e | e | e | e | e
        · exact hk0 (Int32.toInt_inj.mp (e.trans (by decide)))
        · exact hk1 (Int32.toInt_inj.mp (e.trans (by decide)))
        · exact hk2 (Int32.toInt_inj.mp (e.trans (by decide)))
        · exact hk3 (Int32.toInt_inj.mp (e.trans (by decide)))
        · exact hk4 (Int32.toInt_inj.mp (e.trans (by decide)))
        · exact hk5 (Int32.toInt_inj.mp (e.trans (by decide)))
        · exact hk6 (Int32.toInt_inj.mp (e.trans (by decide)))
        · exact hk7 (Int32.toInt_inj.mp (e.trans (by decide)))
        · exact hk8 (Int32.toInt_inj.mp (e.trans (by decide)))
        · exact hk9 (Int32.toInt_inj.mp (e.trans (by decide)))
        · exact hk10 (Int32.toInt_inj.mp (e.trans (by decide)))
        · exact hk11 (Int32.toInt_inj.mp (e.trans (by decide)))
        · exact hk12 (Int32.toInt_inj.mp (e.trans (by decide)))
        · exact hk13 (Int32.toInt_inj.mp (e.trans (by decide)))
        · exact hk14 (Int32.toInt_inj.mp (e.trans (by decide)))
        · exact hk15 (Int32.toInt_inj.mp (e.trans (by decide)))
        · exact hk16 (Int32.toInt_inj.mp (e.trans (by decide)))
        · exact hk17 (Int32.toInt_inj.mp (e.trans (by decide)))
        · exact hk18 (Int32.toInt_inj.mp (e.trans (by decide)))
        · exact hk19 (Int32.toInt_inj.mp (e.trans (by decide)))
        · exact hk20 (Int32.toInt_inj.mp (e.trans (by decide)))
        · exact hk21 (Int32.toInt_inj.mp (e.trans (by decide)))
        · exact hk22 (Int32.toInt_inj.mp (e.trans (by decide)))
        · exact hk23 (Int32.toInt_inj.mp (e.trans (by decide)))
        · exact hk24 (Int32.toInt_inj.mp (e.trans (by decide)))
        · exact hk25 (Int32.toInt_inj.mp (e.trans (by decide)))
        · exact hk26 (Int32.toInt_inj.mp (e.trans (by decide)))
        · exact hk27 (Int32.toInt_inj.mp (e.trans (by decide)))
        · exact hk28 (Int32.toInt_inj.mp (e.trans (by decide)))
        · exact hk29 (Int32.toInt_inj.mp (e.trans (by decide)))
        · exact hk30 (Int32.toInt_inj.mp (e.trans (by decide)))
        · exact hk31 (Int32.toInt_inj.mp (e.trans (by decide)))
        · exact hk32 (Int32.toInt_inj.mp (e.trans (by decide)))
        · exact hk33 (Int32.toInt_inj.mp (e.trans (by decide)))
  · refine lv_aload_n C.1 C.2.1 dX5_answer_494 rfl (lv_at hl_17 2 rfl) ?_
    refine lv_aload_n C.1 C.2.1 dX5_answer_495 rfl (lv_at hl_17 3 rfl) ?_
    refine lv_iload_n C.1 C.2.1 dX5_answer_496 rfl (lv_at hl_17 1 rfl) ?_
    obtain ⟨r_263, σ_262, hq, h_264⟩ := bd2_some h_13
    refine cl_callV (ci := 5) (rest := []) C G_16 rfl ha cw_RX5_297 [.ref (c0 + a_1), .int x3_7] _ (kc_X5_versionThatCounts l D c0 (by rw [G_16.1]; exact ha) hq (by rw [G_16.1]; exact (cl_RTs t_2))) (Nat.le_of_ble_eq_true rfl) (Nat.le_of_ble_eq_true rfl) rfl rfl hl_17.1 (Nat.le_of_ble_eq_true rfl) dX5_answer_497 (fun T_265 H locs cells slots t_266 hu G_267 => ?_)
    have t_15 := t_15.up hu (by decide)
    have ha := hu.kind ha (by decide)
    have t_2 := hu.kind t_2 (by decide)
    refine W.eq (g2 := F0 m 500 ls [.int r_263]) rfl ?_
    exact cl_iret ⟨rfl, rfl⟩ rfl C G_267 h_264 dX5_answer_500
noncomputable def fc_X5_answer (a : Nat) (x1 : (Option Nat)) (x2 : Int32) (σ : cl_S) : Option (Int32 × cl_S) := bc_X5_answer_0 a x1 x2 σ
theorem kc_X5_answer (l : Launch) (D : cl_D) (c0 : Nat) {r : Int32} {a : Nat} {x1 : (Option Nat)} {x2 : Int32} {σ σ' : cl_S} (ha : (σ.2.2.2.1 a).1 = 21) (h : fc_X5_answer a x1 x2 σ = some (r, σ')) (f1 : cl_RT σ.2.2.2.1 x1 22) : cl_Met true l D c0 yX5_answer cX5_answer 5 (some .int) 5 124 [.ref (c0 + a), cl_rf c0 x1, .int x2] σ (some (.int r)) cl_no σ' :=
  by cases x1 <;> exact cl_of (by decide) (Nat.le_of_ble_eq_true rfl) (fun p e s m args below meth c ls C hn G hl => wc_X5_answer_0 C h G ha f1 hl)
abbrev cX5_endAsk : ByteArray := prog_7_method_10_code
def yX5_endAsk : MethodName := ⟨RX5, "endAsk", "(LPartHouse$Core;I)V"⟩
theorem dX5_endAsk_0 : decode cX5_endAsk 0 = .ok (.aload_n 0, 1) := by decide +kernel
theorem dX5_endAsk_1 : decode cX5_endAsk 1 = .ok (.getfield 133, 3) := by decide +kernel
theorem dX5_endAsk_4 : decode cX5_endAsk 4 = .ok (.ifCond .eq 20, 3) := by decide +kernel
theorem dX5_endAsk_7 : decode cX5_endAsk 7 = .ok (.aload_n 1, 1) := by decide +kernel
theorem dX5_endAsk_8 : decode cX5_endAsk 8 = .ok (.getfield 193, 3) := by decide +kernel
theorem dX5_endAsk_11 : decode cX5_endAsk 11 = .ok (.iconst 1, 1) := by decide +kernel
theorem dX5_endAsk_12 : decode cX5_endAsk 12 = .ok (.iload_n 2, 1) := by decide +kernel
theorem dX5_endAsk_13 : decode cX5_endAsk 13 = .ok (.iastore, 1) := by decide +kernel
theorem dX5_endAsk_14 : decode cX5_endAsk 14 = .ok (.aload_n 1, 1) := by decide +kernel
theorem dX5_endAsk_15 : decode cX5_endAsk 15 = .ok (.dup, 1) := by decide +kernel
theorem dX5_endAsk_16 : decode cX5_endAsk 16 = .ok (.getfield 196, 3) := by decide +kernel
theorem dX5_endAsk_19 : decode cX5_endAsk 19 = .ok (.iconst 4, 1) := by decide +kernel
theorem dX5_endAsk_20 : decode cX5_endAsk 20 = .ok (.iadd, 1) := by decide +kernel
theorem dX5_endAsk_21 : decode cX5_endAsk 21 = .ok (.putfield 196, 3) := by decide +kernel
theorem dX5_endAsk_24 : decode cX5_endAsk 24 = .ok (.return_, 1) := by decide +kernel
theorem cc_X5_endAsk : Cond.code yX5_endAsk cX5_endAsk 3 none ∈ rf_tb := rf_at 1329 (by decide +kernel) (by decide +kernel)
noncomputable def bc_X5_endAsk_0 (a : Nat) (x1 : (Option Nat)) (x2 : Int32) (σ : cl_S) : Option (cl_S) := (if (σ.1 a 8) = 0 then some σ else nn x1 (fun a_1 => ix (1:Int32) 16 (vl (cl_w σ (a_1 + 2) (1:Int32).toNatClampNeg x2) (fun σ_5 => vl (cl_w σ_5 a_1 3 ((σ_5.1 a_1 3) + (4:Int32))) (fun σ_10 => some σ_10)))))
set_option maxHeartbeats 4000000 in
theorem wc_X5_endAsk_0 (C : cl_C D p s m args meth c cX5_endAsk 3 none RX5) {a : Nat} {x1 : (Option Nat)} {x2 : Int32} {σ0 σ σ' : cl_S} {T : Nat → Nat × Nat} {H : Heap} {locs : List Loc} {ls : Array Slot} {cells slots : Nat} (h : bc_X5_endAsk_0 a x1 x2 σ = some σ') (G : cl_G true D c0 ({ frames := 0, cells := σ0.2.2.2.2.2.1, slots := σ0.2.2.2.2.2.2, locals := 0 }) s σ0.2.2.2.1 T σ H locs cells slots) (ha : (T a).1 = 21) (f1 : cl_RT T x1 18) (hl : lv_has ls 3 [(0, .ref (c0 + a)), (1, cl_rf c0 x1), (2, .int x2)]) : W p l e ({ frames := 0, cells := σ0.2.2.2.2.2.1, slots := σ0.2.2.2.2.2.2, locals := 0 }) s m args below meth c H locs cells slots (MQ below (cl_Q true D c0 none cl_no σ0 σ') args s (σ0.2.2.2.2.2.1 - σ'.2.2.2.2.2.1) (σ0.2.2.2.2.2.2 - σ'.2.2.2.2.2.2) (cl_A c0 σ0.2.2.2.1 s.heap.size)) (F0 m 0 ls []) := by
  unfold bc_X5_endAsk_0 at h
  refine lv_aload_n C.1 C.2.1 dX5_endAsk_0 rfl (lv_at hl 0 rfl) ?_
  refine cg_5_133 C G ha dX5_endAsk_1 ?_
  refine lv_if_eq (tgt := 24) C.1 C.2.1 dX5_endAsk_4 (by decide) (fun hc => ?_) (fun hc => ?_)
  · rw [if_pos hc] at h
    exact cl_vret ⟨rfl, rfl⟩ rfl C G h dX5_endAsk_24
  · rw [if_neg hc] at h
    refine cl_aload_n C.1 C.2.1 dX5_endAsk_7 rfl (lv_at hl 1 rfl) ?_
    obtain ⟨a_1, rfl, h_3⟩ := nn_some h
    have t_2 := f1 _ rfl
    refine cg_5_193 C G t_2 dX5_endAsk_8 (fun t_4 => ?_)
    refine lv_iconst (v := (1:Int32)) C.1 C.2.1 dX5_endAsk_11 (by decide) ?_
    refine lv_iload_n C.1 C.2.1 dX5_endAsk_12 rfl (lv_at hl 2 rfl) ?_
    obtain ⟨hi, h_6⟩ := ix_some h_3
    refine cl_iast C G t_4 hi dX5_endAsk_13 (fun H locs G_7 => ?_)
    refine cl_nm G_7 h_6 (fun σ_5 G_8 h_9 => ?_)
    refine lv_aload_n C.1 C.2.1 dX5_endAsk_14 rfl (lv_at hl 1 rfl) ?_
    refine lv_dup C.1 C.2.1 dX5_endAsk_15 rfl ?_
    refine cg_5_196 C G_8 t_2 dX5_endAsk_16 ?_
    refine lv_iconst (v := (4:Int32)) C.1 C.2.1 dX5_endAsk_19 (by decide) ?_
    refine lv_iadd C.1 C.2.1 dX5_endAsk_20 ?_
    refine cp_5_196 C G_8 t_2 dX5_endAsk_21 (fun H locs G_11 => ?_)
    refine cl_nm G_11 h_9 (fun σ_10 G_12 h_13 => ?_)
    exact cl_vret ⟨rfl, rfl⟩ rfl C G_12 h_13 dX5_endAsk_24
noncomputable def fc_X5_endAsk (a : Nat) (x1 : (Option Nat)) (x2 : Int32) (σ : cl_S) : Option (cl_S) := bc_X5_endAsk_0 a x1 x2 σ
theorem kc_X5_endAsk (l : Launch) (D : cl_D) (c0 : Nat) {a : Nat} {x1 : (Option Nat)} {x2 : Int32} {σ σ' : cl_S} (ha : (σ.2.2.2.1 a).1 = 21) (h : fc_X5_endAsk a x1 x2 σ = some σ') (f1 : cl_RT σ.2.2.2.1 x1 18) : cl_Met true l D c0 yX5_endAsk cX5_endAsk 3 none 0 0 [.ref (c0 + a), cl_rf c0 x1, .int x2] σ none cl_no σ' :=
  by cases x1 <;> exact cl_of (by decide) (Nat.le_of_ble_eq_true rfl) (fun p e s m args below meth c ls C hn G hl => wc_X5_endAsk_0 C h G ha f1 hl)
end CQ10
