section CQ6
variable {p : Program} {l : Launch} {e : Env} {s : State} {m : MethodId} {args : Array Value} {below : List Frame} {meth : Method} {c : Code} {D : cl_D} {c0 : Nat}
abbrev cX3_init : ByteArray := prog_5_method_1_code
def yX3_init : MethodName := ⟨RX3, "<init>", "(LPartHouse$Term;)V"⟩
theorem dX3_init_0 : decode cX3_init 0 = .ok (.aload_n 0, 1) := by decide +kernel
theorem dX3_init_1 : decode cX3_init 1 = .ok (.invokespecial 3, 3) := by decide +kernel
theorem dX3_init_4 : decode cX3_init 4 = .ok (.aload_n 0, 1) := by decide +kernel
theorem dX3_init_5 : decode cX3_init 5 = .ok (.bipush 64, 2) := by decide +kernel
theorem dX3_init_7 : decode cX3_init 7 = .ok (.newarray .int, 2) := by decide +kernel
theorem dX3_init_9 : decode cX3_init 9 = .ok (.putfield 11, 3) := by decide +kernel
theorem dX3_init_12 : decode cX3_init 12 = .ok (.aload_n 0, 1) := by decide +kernel
theorem dX3_init_13 : decode cX3_init 13 = .ok (.bipush 64, 2) := by decide +kernel
theorem dX3_init_15 : decode cX3_init 15 = .ok (.anewarray 15, 3) := by decide +kernel
theorem dX3_init_18 : decode cX3_init 18 = .ok (.putfield 17, 3) := by decide +kernel
theorem dX3_init_21 : decode cX3_init 21 = .ok (.aload_n 0, 1) := by decide +kernel
theorem dX3_init_22 : decode cX3_init 22 = .ok (.aload_n 1, 1) := by decide +kernel
theorem dX3_init_23 : decode cX3_init 23 = .ok (.putfield 21, 3) := by decide +kernel
theorem dX3_init_26 : decode cX3_init 26 = .ok (.iconst 0, 1) := by decide +kernel
theorem dX3_init_27 : decode cX3_init 27 = .ok (.istore_n 2, 1) := by decide +kernel
theorem dX3_init_28 : decode cX3_init 28 = .ok (.iload_n 2, 1) := by decide +kernel
theorem dX3_init_29 : decode cX3_init 29 = .ok (.bipush 64, 2) := by decide +kernel
theorem dX3_init_31 : decode cX3_init 31 = .ok (.if_icmp .ge 16, 3) := by decide +kernel
theorem dX3_init_34 : decode cX3_init 34 = .ok (.aload_n 0, 1) := by decide +kernel
theorem dX3_init_35 : decode cX3_init 35 = .ok (.getfield 17, 3) := by decide +kernel
theorem dX3_init_38 : decode cX3_init 38 = .ok (.iload_n 2, 1) := by decide +kernel
theorem dX3_init_39 : decode cX3_init 39 = .ok (.aload_n 1, 1) := by decide +kernel
theorem dX3_init_40 : decode cX3_init 40 = .ok (.aastore, 1) := by decide +kernel
theorem dX3_init_41 : decode cX3_init 41 = .ok (.iinc 2 1, 3) := by decide +kernel
theorem dX3_init_44 : decode cX3_init 44 = .ok (.goto (-16), 3) := by decide +kernel
theorem dX3_init_47 : decode cX3_init 47 = .ok (.return_, 1) := by decide +kernel
theorem cc_X3_init : Cond.code yX3_init cX3_init 3 none ∈ rf_tb := rf_at 390 (by decide +kernel) (by decide +kernel)
theorem cl_RX3_15 : Cond.classLink RX3 15 "PartHouse$Term" ∈ rf_tb := rf_at 392 (by decide +kernel) (by decide +kernel)
theorem oi_RX3_3 : Cond.methodLink RX3 3 Lib.objectInit ∈ rf_tb := rf_at 391 (by decide +kernel) (by decide +kernel)
noncomputable def lc_X3_init_28 (a : Nat) (x1 : (Option Nat)) (x2 : Int32) (σ : cl_S) : Option ((Int32 × cl_S) ⊕ (Int32 × cl_S)) := (if (64:Int32) ≤ x2 then some (.inr (x2, σ)) else vl (σ.2.2.1 a 2) (fun r_35 => nn r_35 (fun a_38 => ix x2 (σ.2.2.2.1 a_38).2 (vl (cl_wr σ a_38 x2.toNatClampNeg x1) (fun σ_42 => vl (x2 + (1:Int32)) (fun x2_47 => some (.inl (x2_47, σ_42))))))))
noncomputable def ec_X3_init_28 (a : Nat) (x1 : (Option Nat)) (x2 : Int32) (σ : cl_S) : Option (cl_S) := some σ
noncomputable def bc_X3_init_28 (a : Nat) (x1 : (Option Nat)) (x2 : Int32) (σ : cl_S) : Option (cl_S) := (lp (fun z : (Int32 × cl_S) => lc_X3_init_28 a x1 z.1 z.2) (x2, σ)).bind (fun z => ec_X3_init_28 a x1 z.1 z.2)
set_option maxHeartbeats 4000000 in
theorem wc_X3_init_28 (C : cl_C D p s m args meth c cX3_init 3 none RX3) (hn9 : meth.name = "<init>") {a : Nat} {x1 : (Option Nat)} {x2 : Int32} {σ0 σ σ' : cl_S} {T : Nat → Nat × Nat} {H : Heap} {locs : List Loc} {ls : Array Slot} {cells slots : Nat} (h : bc_X3_init_28 a x1 x2 σ = some σ') (G : cl_G true D c0 ({ frames := 1, cells := σ0.2.2.2.2.2.1, slots := σ0.2.2.2.2.2.2, locals := 20 }) s σ0.2.2.2.1 T σ H locs cells slots) (ha : (T a).1 = 119) (f1 : cl_RT T x1 25) (hl : lv_has ls 3 [(0, .ref (c0 + a)), (1, cl_rf c0 x1), (2, .int x2)]) : W p l e ({ frames := 1, cells := σ0.2.2.2.2.2.1, slots := σ0.2.2.2.2.2.2, locals := 20 }) s m args below meth c H locs cells slots (MQ below (cl_Q true D c0 none cl_no σ0 σ') args s (σ0.2.2.2.2.2.1 - σ'.2.2.2.2.2.1) (σ0.2.2.2.2.2.2 - σ'.2.2.2.2.2.2) (cl_A c0 σ0.2.2.2.1 s.heap.size)) (F0 m 28 ls []) := by
  unfold bc_X3_init_28 at h
  obtain ⟨y, hy, h⟩ := bd_some h
  have hE : (fun z : (Int32 × cl_S) => ∀ (T : Nat → Nat × Nat) (H : Heap) (locs : List Loc) (ls : Array Slot) (cells slots : Nat), cl_G true D c0 ({ frames := 1, cells := σ0.2.2.2.2.2.1, slots := σ0.2.2.2.2.2.2, locals := 20 }) s σ0.2.2.2.1 T z.2 H locs cells slots → (T a).1 = 119 → cl_RT T x1 25 → lv_has ls 3 [(0, .ref (c0 + a)), (1, cl_rf c0 x1), (2, .int (z.1))] → W p l e ({ frames := 1, cells := σ0.2.2.2.2.2.1, slots := σ0.2.2.2.2.2.2, locals := 20 }) s m args below meth c H locs cells slots (MQ below (cl_Q true D c0 none cl_no σ0 σ') args s (σ0.2.2.2.2.2.1 - σ'.2.2.2.2.2.1) (σ0.2.2.2.2.2.2 - σ'.2.2.2.2.2.2) (cl_A c0 σ0.2.2.2.1 s.heap.size)) (F0 m 47 ls [])) y := by
    clear hy G ha f1 hl
    intro T H locs ls cells slots G ha f1 hl
    obtain ⟨x2, σ⟩ := y
    dsimp only at h G ha f1 hl
    unfold ec_X3_init_28 at h
    exact cl_vret ⟨rfl, rfl⟩ rfl C G h dX3_init_47
  refine lp_recE (fun z : (Int32 × cl_S) => ∀ (T : Nat → Nat × Nat) (H : Heap) (locs : List Loc) (ls : Array Slot) (cells slots : Nat), cl_G true D c0 ({ frames := 1, cells := σ0.2.2.2.2.2.1, slots := σ0.2.2.2.2.2.2, locals := 20 }) s σ0.2.2.2.1 T z.2 H locs cells slots → (T a).1 = 119 → cl_RT T x1 25 → lv_has ls 3 [(0, .ref (c0 + a)), (1, cl_rf c0 x1), (2, .int (z.1))] → W p l e ({ frames := 1, cells := σ0.2.2.2.2.2.1, slots := σ0.2.2.2.2.2.2, locals := 20 }) s m args below meth c H locs cells slots (MQ below (cl_Q true D c0 none cl_no σ0 σ') args s (σ0.2.2.2.2.2.1 - σ'.2.2.2.2.2.1) (σ0.2.2.2.2.2.2 - σ'.2.2.2.2.2.2) (cl_A c0 σ0.2.2.2.1 s.heap.size)) (F0 m 28 ls [])) (fun z : (Int32 × cl_S) => ∀ (T : Nat → Nat × Nat) (H : Heap) (locs : List Loc) (ls : Array Slot) (cells slots : Nat), cl_G true D c0 ({ frames := 1, cells := σ0.2.2.2.2.2.1, slots := σ0.2.2.2.2.2.2, locals := 20 }) s σ0.2.2.2.1 T z.2 H locs cells slots → (T a).1 = 119 → cl_RT T x1 25 → lv_has ls 3 [(0, .ref (c0 + a)), (1, cl_rf c0 x1), (2, .int (z.1))] → W p l e ({ frames := 1, cells := σ0.2.2.2.2.2.1, slots := σ0.2.2.2.2.2.2, locals := 20 }) s m args below meth c H locs cells slots (MQ below (cl_Q true D c0 none cl_no σ0 σ') args s (σ0.2.2.2.2.2.1 - σ'.2.2.2.2.2.1) (σ0.2.2.2.2.2.2 - σ'.2.2.2.2.2.2) (cl_A c0 σ0.2.2.2.1 s.heap.size)) (F0 m 47 ls [])) ?_ _ _ hy hE _ _ _ _ _ _ G ha f1 hl
  clear hE hy G ha f1 hl h
  intro z o h hP T H locs ls cells slots G ha f1 hl
  obtain ⟨x2, σ⟩ := z
  dsimp only at h G ha f1 hl
  unfold lc_X3_init_28 at h
  refine lv_iload_n C.1 C.2.1 dX3_init_28 rfl (lv_at hl 2 rfl) ?_
  refine lv_bipush (v := (64:Int32)) C.1 C.2.1 dX3_init_29 (by decide) ?_
  refine lv_icmp_ge (tgt := 47) C.1 C.2.1 dX3_init_31 (by decide) (fun hc => ?_) (fun hc => ?_)
  · rw [if_pos hc] at h
    cases h
    exact hP _ _ _ _ _ _ G ha f1 (lv_sub hl [0, 1, 2] rfl)
  · rw [if_neg hc] at h
    refine lv_aload_n C.1 C.2.1 dX3_init_34 rfl (lv_at hl 0 rfl) ?_
    refine rg_3_17 C G ha dX3_init_35 (fun t_34 => ?_)
    refine vt_r (K := 4) t_34 h (fun r_35 t_36 h_37 => ?_)
    refine lv_iload_n C.1 C.2.1 dX3_init_38 rfl (lv_at hl 2 rfl) ?_
    refine cl_aload_n C.1 C.2.1 dX3_init_39 rfl (lv_at hl 1 rfl) ?_
    obtain ⟨a_38, rfl, h_40⟩ := nn_some h_37
    have t_39 := t_36 _ rfl
    have t_41 : T a_38 = (4, (σ.2.2.2.1 a_38).2) := by rw [G.1]; exact Prod.ext t_39 rfl
    obtain ⟨hi, h_43⟩ := ix_some h_40
    refine cl_aast (ci := 9) (x := x1) C G rfl rfl rfl t_41 (by decide) (by decide) f1 hi dX3_init_40 (fun H locs G_44 => ?_)
    refine cl_nm G_44 h_43 (fun σ_42 G_45 h_46 => ?_)
    refine vl_ex h_46 (fun x2_47 ey h_48 => ?_)
    refine lv_iinc (v := x2_47) (lv' := [(2, .int x2_47), (0, .ref (c0 + a)), (1, cl_rf c0 x1)]) C.1 C.2.1 dX3_init_41 hl (k := 2) rfl (by rw [ey]; rfl) (by decide) (by first | rfl | (cases x1 <;> rfl)) (fun ls hl_49 => ?_)
    refine lv_goto (tgt := 28) C.1 C.2.1 dX3_init_44 (by decide) ?_
    cases h_48
    exact hP _ _ _ _ _ _ G_45 ha f1 (lv_sub hl_49 [1, 2, 0] rfl)
noncomputable def bc_X3_init_0 (a : Nat) (x1 : (Option Nat)) (σ : cl_S) : Option (cl_S) := nag (64:Int32) (al σ (64:Int32).toNatClampNeg (vl σ.2.2.2.2.1 (fun a_1 => vl (cl_nw σ 1 (64:Int32).toNatClampNeg (64:Int32).toNatClampNeg) (fun σ_2 => vl (cl_wr σ_2 a 1 (some a_1)) (fun σ_11 => nag (64:Int32) (al σ_11 (64:Int32).toNatClampNeg (vl σ_11.2.2.2.2.1 (fun a_15 => vl (cl_nw σ_11 4 (64:Int32).toNatClampNeg (64:Int32).toNatClampNeg) (fun σ_16 => vl (cl_wr σ_16 a 2 (some a_15)) (fun σ_25 => vl (cl_wr σ_25 a 0 x1) (fun σ_29 => bc_X3_init_28 a x1 (0:Int32) σ_29)))))))))))
set_option maxHeartbeats 4000000 in
theorem wc_X3_init_0 (C : cl_C D p s m args meth c cX3_init 3 none RX3) (hn9 : meth.name = "<init>") {a : Nat} {x1 : (Option Nat)} {σ0 σ σ' : cl_S} {T : Nat → Nat × Nat} {H : Heap} {locs : List Loc} {ls : Array Slot} {cells slots : Nat} (h : bc_X3_init_0 a x1 σ = some σ') (G : cl_G true D c0 ({ frames := 1, cells := σ0.2.2.2.2.2.1, slots := σ0.2.2.2.2.2.2, locals := 20 }) s σ0.2.2.2.1 T σ H locs cells slots) (ha : (T a).1 = 119) (f1 : cl_RT T x1 25) (hl : lv_has ls 3 [(0, .ref (c0 + a)), (1, cl_rf c0 x1)]) : W p l e ({ frames := 1, cells := σ0.2.2.2.2.2.1, slots := σ0.2.2.2.2.2.2, locals := 20 }) s m args below meth c H locs cells slots (MQ below (cl_Q true D c0 none cl_no σ0 σ') args s (σ0.2.2.2.2.2.1 - σ'.2.2.2.2.2.1) (σ0.2.2.2.2.2.2 - σ'.2.2.2.2.2.2) (cl_A c0 σ0.2.2.2.1 s.heap.size)) (F0 m 0 ls []) := by
  unfold bc_X3_init_0 at h
  refine lv_aload_n C.1 C.2.1 dX3_init_0 rfl (lv_at hl 0 rfl) ?_
  refine W.objInit (rest := []) C.1 C.2.1 C.2.2.2.1 (C.2.2.2.2.1 _ oi_RX3_3) (C.2.2.2.2.1 _ oi_i) (C.2.2.2.2.1 _ oi_c) rfl (by rw [C.2.2.1]; exact hl.1) rfl dX3_init_1 (Nat.le_of_ble_eq_true rfl) (Nat.le_of_ble_eq_true rfl) ?_
  refine W.eq (g2 := F0 m 4 ls []) rfl ?_
  refine lv_aload_n C.1 C.2.1 dX3_init_4 rfl (lv_at hl 0 rfl) ?_
  refine lv_bipush (v := (64:Int32)) C.1 C.2.1 dX3_init_5 (by decide) ?_
  obtain ⟨hng, h_5⟩ := nag_some h
  obtain ⟨hal, h_6⟩ := al_some h_5
  refine cl_newa (t := 1) C G (by decide) (by decide) .int rfl aw_1 hng.1 rfl (cl_bytes hng.2 (by decide) (by decide)) hal dX3_init_7 (fun T_4 H cells slots t_3 hu G_7 => ?_)
  have ha := hu.kind ha (by decide)
  have f1 := f1.up hu (by decide)
  refine cl_nmB h_6 t_3 (fun a_1 t_3 h_8 => ?_)
  refine cl_nm G_7 h_8 (fun σ_2 G_9 h_10 => ?_)
  refine rp_3_11 (x := (some a_1)) C hn9 G_9 ha (cl_RTs (by rw [t_3])) dX3_init_9 (fun H locs G_12 => ?_)
  refine cl_nm G_12 h_10 (fun σ_11 G_13 h_14 => ?_)
  refine lv_aload_n C.1 C.2.1 dX3_init_12 rfl (lv_at hl 0 rfl) ?_
  refine lv_bipush (v := (64:Int32)) C.1 C.2.1 dX3_init_13 (by decide) ?_
  obtain ⟨hng, h_19⟩ := nag_some h_14
  obtain ⟨hal, h_20⟩ := al_some h_19
  refine cl_newq (t := 4) C G_13 (by decide) (by decide) rfl C.2.2.2.2.2.1.2.2.2.2.1 cl_RX3_15 hng.1 rfl (by have := hng.2; omega) hal dX3_init_15 (fun T_18 H cells slots t_17 hu G_21 => ?_)
  have ha := hu.kind ha (by decide)
  have f1 := f1.up hu (by decide)
  refine cl_nmB h_20 t_17 (fun a_15 t_17 h_22 => ?_)
  refine cl_nm G_21 h_22 (fun σ_16 G_23 h_24 => ?_)
  refine rp_3_17 (x := (some a_15)) C hn9 G_23 ha (cl_RTs (by rw [t_17])) dX3_init_18 (fun H locs G_26 => ?_)
  refine cl_nm G_26 h_24 (fun σ_25 G_27 h_28 => ?_)
  refine lv_aload_n C.1 C.2.1 dX3_init_21 rfl (lv_at hl 0 rfl) ?_
  refine cl_aload_n C.1 C.2.1 dX3_init_22 rfl (lv_at hl 1 rfl) ?_
  refine rp_3_21 (x := x1) C hn9 G_27 ha f1 dX3_init_23 (fun H locs G_30 => ?_)
  refine cl_nm G_30 h_28 (fun σ_29 G_31 h_32 => ?_)
  refine lv_iconst (v := (0:Int32)) C.1 C.2.1 dX3_init_26 (by decide) ?_
  refine lv_istore_n (lv' := [(2, .int (0:Int32)), (0, .ref (c0 + a)), (1, cl_rf c0 x1)]) C.1 C.2.1 dX3_init_27 rfl hl (by decide) (by first | rfl | (cases x1 <;> rfl)) (fun ls hl_33 => ?_)
  exact wc_X3_init_28 C hn9 h_32 G_31 ha f1 (lv_sub hl_33 [1, 2, 0] rfl)
noncomputable def fc_X3_init (a : Nat) (x1 : (Option Nat)) (σ : cl_S) : Option (cl_S) := bc_X3_init_0 a x1 σ
theorem kc_X3_init (l : Launch) (D : cl_D) (c0 : Nat) {a : Nat} {x1 : (Option Nat)} {σ σ' : cl_S} (ha : (σ.2.2.2.1 a).1 = 119) (h : fc_X3_init a x1 σ = some σ') (f1 : cl_RT σ.2.2.2.1 x1 25) : cl_Met true l D c0 yX3_init cX3_init 3 none 1 20 [.ref (c0 + a), cl_rf c0 x1] σ none cl_no σ' :=
  by cases x1 <;> exact cl_of (by decide) (Nat.le_of_ble_eq_true rfl) (fun p e s m args below meth c ls C hn G hl => wc_X3_init_0 C hn h G ha f1 hl)
abbrev cX3_copyFrom : ByteArray := prog_5_method_2_code
def yX3_copyFrom : MethodName := ⟨RX3, "copyFrom", "(LPartHouse$Disk;)V"⟩
theorem dX3_copyFrom_0 : decode cX3_copyFrom 0 = .ok (.iconst 0, 1) := by decide +kernel
theorem dX3_copyFrom_1 : decode cX3_copyFrom 1 = .ok (.istore_n 2, 1) := by decide +kernel
theorem dX3_copyFrom_2 : decode cX3_copyFrom 2 = .ok (.iload_n 2, 1) := by decide +kernel
theorem dX3_copyFrom_3 : decode cX3_copyFrom 3 = .ok (.bipush 64, 2) := by decide +kernel
theorem dX3_copyFrom_5 : decode cX3_copyFrom 5 = .ok (.if_icmp .ge 33, 3) := by decide +kernel
theorem dX3_copyFrom_8 : decode cX3_copyFrom 8 = .ok (.aload_n 0, 1) := by decide +kernel
theorem dX3_copyFrom_9 : decode cX3_copyFrom 9 = .ok (.getfield 11, 3) := by decide +kernel
theorem dX3_copyFrom_12 : decode cX3_copyFrom 12 = .ok (.iload_n 2, 1) := by decide +kernel
theorem dX3_copyFrom_13 : decode cX3_copyFrom 13 = .ok (.aload_n 1, 1) := by decide +kernel
theorem dX3_copyFrom_14 : decode cX3_copyFrom 14 = .ok (.getfield 11, 3) := by decide +kernel
theorem dX3_copyFrom_17 : decode cX3_copyFrom 17 = .ok (.iload_n 2, 1) := by decide +kernel
theorem dX3_copyFrom_18 : decode cX3_copyFrom 18 = .ok (.iaload, 1) := by decide +kernel
theorem dX3_copyFrom_19 : decode cX3_copyFrom 19 = .ok (.iastore, 1) := by decide +kernel
theorem dX3_copyFrom_20 : decode cX3_copyFrom 20 = .ok (.aload_n 0, 1) := by decide +kernel
theorem dX3_copyFrom_21 : decode cX3_copyFrom 21 = .ok (.getfield 17, 3) := by decide +kernel
theorem dX3_copyFrom_24 : decode cX3_copyFrom 24 = .ok (.iload_n 2, 1) := by decide +kernel
theorem dX3_copyFrom_25 : decode cX3_copyFrom 25 = .ok (.aload_n 1, 1) := by decide +kernel
theorem dX3_copyFrom_26 : decode cX3_copyFrom 26 = .ok (.getfield 17, 3) := by decide +kernel
theorem dX3_copyFrom_29 : decode cX3_copyFrom 29 = .ok (.iload_n 2, 1) := by decide +kernel
theorem dX3_copyFrom_30 : decode cX3_copyFrom 30 = .ok (.aaload, 1) := by decide +kernel
theorem dX3_copyFrom_31 : decode cX3_copyFrom 31 = .ok (.aastore, 1) := by decide +kernel
theorem dX3_copyFrom_32 : decode cX3_copyFrom 32 = .ok (.iinc 2 1, 3) := by decide +kernel
theorem dX3_copyFrom_35 : decode cX3_copyFrom 35 = .ok (.goto (-33), 3) := by decide +kernel
theorem dX3_copyFrom_38 : decode cX3_copyFrom 38 = .ok (.return_, 1) := by decide +kernel
theorem cc_X3_copyFrom : Cond.code yX3_copyFrom cX3_copyFrom 3 none ∈ rf_tb := rf_at 1041 (by decide +kernel) (by decide +kernel)
noncomputable def lc_X3_copyFrom_2 (a : Nat) (x1 : (Option Nat)) (x2 : Int32) (σ : cl_S) : Option ((Int32 × cl_S) ⊕ (Int32 × cl_S)) := (if (64:Int32) ≤ x2 then some (.inr (x2, σ)) else nn x1 (fun a_3 => ix x2 64 (ix x2 64 (vl (cl_w σ (a + 1) x2.toNatClampNeg (σ.1 (a_3 + 1) x2.toNatClampNeg)) (fun σ_8 => ix x2 64 (vl (σ_8.2.2.1 (a_3 + 2) x2.toNatClampNeg) (fun r_17 => ix x2 64 (vl (cl_wr σ_8 (a + 2) x2.toNatClampNeg r_17) (fun σ_20 => vl (x2 + (1:Int32)) (fun x2_25 => some (.inl (x2_25, σ_20))))))))))))
noncomputable def ec_X3_copyFrom_2 (a : Nat) (x1 : (Option Nat)) (x2 : Int32) (σ : cl_S) : Option (cl_S) := some σ
noncomputable def bc_X3_copyFrom_2 (a : Nat) (x1 : (Option Nat)) (x2 : Int32) (σ : cl_S) : Option (cl_S) := (lp (fun z : (Int32 × cl_S) => lc_X3_copyFrom_2 a x1 z.1 z.2) (x2, σ)).bind (fun z => ec_X3_copyFrom_2 a x1 z.1 z.2)
set_option maxHeartbeats 4000000 in
theorem wc_X3_copyFrom_2 (C : cl_C D p s m args meth c cX3_copyFrom 3 none RX3) {a : Nat} {x1 : (Option Nat)} {x2 : Int32} {σ0 σ σ' : cl_S} {T : Nat → Nat × Nat} {H : Heap} {locs : List Loc} {ls : Array Slot} {cells slots : Nat} (h : bc_X3_copyFrom_2 a x1 x2 σ = some σ') (G : cl_G true D c0 ({ frames := 0, cells := σ0.2.2.2.2.2.1, slots := σ0.2.2.2.2.2.2, locals := 0 }) s σ0.2.2.2.1 T σ H locs cells slots) (ha : (T a).1 = 19) (f1 : cl_RT T x1 19) (hl : lv_has ls 3 [(0, .ref (c0 + a)), (1, cl_rf c0 x1), (2, .int x2)]) : W p l e ({ frames := 0, cells := σ0.2.2.2.2.2.1, slots := σ0.2.2.2.2.2.2, locals := 0 }) s m args below meth c H locs cells slots (MQ below (cl_Q true D c0 none cl_no σ0 σ') args s (σ0.2.2.2.2.2.1 - σ'.2.2.2.2.2.1) (σ0.2.2.2.2.2.2 - σ'.2.2.2.2.2.2) (cl_A c0 σ0.2.2.2.1 s.heap.size)) (F0 m 2 ls []) := by
  unfold bc_X3_copyFrom_2 at h
  obtain ⟨y, hy, h⟩ := bd_some h
  have hE : (fun z : (Int32 × cl_S) => ∀ (T : Nat → Nat × Nat) (H : Heap) (locs : List Loc) (ls : Array Slot) (cells slots : Nat), cl_G true D c0 ({ frames := 0, cells := σ0.2.2.2.2.2.1, slots := σ0.2.2.2.2.2.2, locals := 0 }) s σ0.2.2.2.1 T z.2 H locs cells slots → (T a).1 = 19 → cl_RT T x1 19 → lv_has ls 3 [(0, .ref (c0 + a)), (1, cl_rf c0 x1), (2, .int (z.1))] → W p l e ({ frames := 0, cells := σ0.2.2.2.2.2.1, slots := σ0.2.2.2.2.2.2, locals := 0 }) s m args below meth c H locs cells slots (MQ below (cl_Q true D c0 none cl_no σ0 σ') args s (σ0.2.2.2.2.2.1 - σ'.2.2.2.2.2.1) (σ0.2.2.2.2.2.2 - σ'.2.2.2.2.2.2) (cl_A c0 σ0.2.2.2.1 s.heap.size)) (F0 m 38 ls [])) y := by
    clear hy G ha f1 hl
    intro T H locs ls cells slots G ha f1 hl
    obtain ⟨x2, σ⟩ := y
    dsimp only at h G ha f1 hl
    unfold ec_X3_copyFrom_2 at h
    exact cl_vret ⟨rfl, rfl⟩ rfl C G h dX3_copyFrom_38
  refine lp_recE (fun z : (Int32 × cl_S) => ∀ (T : Nat → Nat × Nat) (H : Heap) (locs : List Loc) (ls : Array Slot) (cells slots : Nat), cl_G true D c0 ({ frames := 0, cells := σ0.2.2.2.2.2.1, slots := σ0.2.2.2.2.2.2, locals := 0 }) s σ0.2.2.2.1 T z.2 H locs cells slots → (T a).1 = 19 → cl_RT T x1 19 → lv_has ls 3 [(0, .ref (c0 + a)), (1, cl_rf c0 x1), (2, .int (z.1))] → W p l e ({ frames := 0, cells := σ0.2.2.2.2.2.1, slots := σ0.2.2.2.2.2.2, locals := 0 }) s m args below meth c H locs cells slots (MQ below (cl_Q true D c0 none cl_no σ0 σ') args s (σ0.2.2.2.2.2.1 - σ'.2.2.2.2.2.1) (σ0.2.2.2.2.2.2 - σ'.2.2.2.2.2.2) (cl_A c0 σ0.2.2.2.1 s.heap.size)) (F0 m 2 ls [])) (fun z : (Int32 × cl_S) => ∀ (T : Nat → Nat × Nat) (H : Heap) (locs : List Loc) (ls : Array Slot) (cells slots : Nat), cl_G true D c0 ({ frames := 0, cells := σ0.2.2.2.2.2.1, slots := σ0.2.2.2.2.2.2, locals := 0 }) s σ0.2.2.2.1 T z.2 H locs cells slots → (T a).1 = 19 → cl_RT T x1 19 → lv_has ls 3 [(0, .ref (c0 + a)), (1, cl_rf c0 x1), (2, .int (z.1))] → W p l e ({ frames := 0, cells := σ0.2.2.2.2.2.1, slots := σ0.2.2.2.2.2.2, locals := 0 }) s m args below meth c H locs cells slots (MQ below (cl_Q true D c0 none cl_no σ0 σ') args s (σ0.2.2.2.2.2.1 - σ'.2.2.2.2.2.1) (σ0.2.2.2.2.2.2 - σ'.2.2.2.2.2.2) (cl_A c0 σ0.2.2.2.1 s.heap.size)) (F0 m 38 ls [])) ?_ _ _ hy hE _ _ _ _ _ _ G ha f1 hl
  clear hE hy G ha f1 hl h
  intro z o h hP T H locs ls cells slots G ha f1 hl
  obtain ⟨x2, σ⟩ := z
  dsimp only at h G ha f1 hl
  unfold lc_X3_copyFrom_2 at h
  refine lv_iload_n C.1 C.2.1 dX3_copyFrom_2 rfl (lv_at hl 2 rfl) ?_
  refine lv_bipush (v := (64:Int32)) C.1 C.2.1 dX3_copyFrom_3 (by decide) ?_
  refine lv_icmp_ge (tgt := 38) C.1 C.2.1 dX3_copyFrom_5 (by decide) (fun hc => ?_) (fun hc => ?_)
  · rw [if_pos hc] at h
    cases h
    exact hP _ _ _ _ _ _ G ha f1 (lv_sub hl [0, 1, 2] rfl)
  · rw [if_neg hc] at h
    refine lv_aload_n C.1 C.2.1 dX3_copyFrom_8 rfl (lv_at hl 0 rfl) ?_
    refine cg_3_11 C G ha dX3_copyFrom_9 (fun t_2 => ?_)
    refine lv_iload_n C.1 C.2.1 dX3_copyFrom_12 rfl (lv_at hl 2 rfl) ?_
    refine cl_aload_n C.1 C.2.1 dX3_copyFrom_13 rfl (lv_at hl 1 rfl) ?_
    obtain ⟨a_3, rfl, h_5⟩ := nn_some h
    have t_4 := f1 _ rfl
    refine cg_3_11 C G t_4 dX3_copyFrom_14 (fun t_6 => ?_)
    refine lv_iload_n C.1 C.2.1 dX3_copyFrom_17 rfl (lv_at hl 2 rfl) ?_
    obtain ⟨hi, h_7⟩ := ix_some h_5
    refine cl_iald C G t_6 hi dX3_copyFrom_18 ?_
    obtain ⟨hi, h_9⟩ := ix_some h_7
    refine cl_iast C G t_2 hi dX3_copyFrom_19 (fun H locs G_10 => ?_)
    refine cl_nm G_10 h_9 (fun σ_8 G_11 h_12 => ?_)
    refine lv_aload_n C.1 C.2.1 dX3_copyFrom_20 rfl (lv_at hl 0 rfl) ?_
    refine cg_3_17 C G_11 ha dX3_copyFrom_21 (fun t_13 => ?_)
    refine lv_iload_n C.1 C.2.1 dX3_copyFrom_24 rfl (lv_at hl 2 rfl) ?_
    refine lv_aload_n C.1 C.2.1 dX3_copyFrom_25 rfl (lv_at hl 1 rfl) ?_
    refine cg_3_17 C G_11 t_4 dX3_copyFrom_26 (fun t_14 => ?_)
    refine lv_iload_n C.1 C.2.1 dX3_copyFrom_29 rfl (lv_at hl 2 rfl) ?_
    obtain ⟨hi, h_15⟩ := ix_some h_12
    refine cl_aald C G_11 t_14 (by decide) (by decide) rfl hi dX3_copyFrom_30 (fun t_16 => ?_)
    refine vt_r (K := 25) t_16 h_15 (fun r_17 t_18 h_19 => ?_)
    obtain ⟨hi, h_21⟩ := ix_some h_19
    refine cl_aast (ci := 9) (x := r_17) C G_11 rfl rfl rfl t_13 (by decide) (by decide) t_18 hi dX3_copyFrom_31 (fun H locs G_22 => ?_)
    refine cl_nm G_22 h_21 (fun σ_20 G_23 h_24 => ?_)
    refine vl_ex h_24 (fun x2_25 ey h_26 => ?_)
    refine lv_iinc (v := x2_25) (lv' := [(2, .int x2_25), (0, .ref (c0 + a)), (1, .ref (c0 + a_3))]) C.1 C.2.1 dX3_copyFrom_32 hl (k := 2) rfl (by rw [ey]; rfl) (by decide) rfl (fun ls hl_27 => ?_)
    refine lv_goto (tgt := 2) C.1 C.2.1 dX3_copyFrom_35 (by decide) ?_
    cases h_26
    exact hP _ _ _ _ _ _ G_23 ha (cl_RTs t_4) (lv_sub hl_27 [1, 2, 0] rfl)
noncomputable def bc_X3_copyFrom_0 (a : Nat) (x1 : (Option Nat)) (σ : cl_S) : Option (cl_S) := bc_X3_copyFrom_2 a x1 (0:Int32) σ
set_option maxHeartbeats 4000000 in
theorem wc_X3_copyFrom_0 (C : cl_C D p s m args meth c cX3_copyFrom 3 none RX3) {a : Nat} {x1 : (Option Nat)} {σ0 σ σ' : cl_S} {T : Nat → Nat × Nat} {H : Heap} {locs : List Loc} {ls : Array Slot} {cells slots : Nat} (h : bc_X3_copyFrom_0 a x1 σ = some σ') (G : cl_G true D c0 ({ frames := 0, cells := σ0.2.2.2.2.2.1, slots := σ0.2.2.2.2.2.2, locals := 0 }) s σ0.2.2.2.1 T σ H locs cells slots) (ha : (T a).1 = 19) (f1 : cl_RT T x1 19) (hl : lv_has ls 3 [(0, .ref (c0 + a)), (1, cl_rf c0 x1)]) : W p l e ({ frames := 0, cells := σ0.2.2.2.2.2.1, slots := σ0.2.2.2.2.2.2, locals := 0 }) s m args below meth c H locs cells slots (MQ below (cl_Q true D c0 none cl_no σ0 σ') args s (σ0.2.2.2.2.2.1 - σ'.2.2.2.2.2.1) (σ0.2.2.2.2.2.2 - σ'.2.2.2.2.2.2) (cl_A c0 σ0.2.2.2.1 s.heap.size)) (F0 m 0 ls []) := by
  unfold bc_X3_copyFrom_0 at h
  refine lv_iconst (v := (0:Int32)) C.1 C.2.1 dX3_copyFrom_0 (by decide) ?_
  refine lv_istore_n (lv' := [(2, .int (0:Int32)), (0, .ref (c0 + a)), (1, cl_rf c0 x1)]) C.1 C.2.1 dX3_copyFrom_1 rfl hl (by decide) (by first | rfl | (cases x1 <;> rfl)) (fun ls hl_1 => ?_)
  exact wc_X3_copyFrom_2 C h G ha f1 (lv_sub hl_1 [1, 2, 0] rfl)
noncomputable def fc_X3_copyFrom (a : Nat) (x1 : (Option Nat)) (σ : cl_S) : Option (cl_S) := bc_X3_copyFrom_0 a x1 σ
theorem kc_X3_copyFrom (l : Launch) (D : cl_D) (c0 : Nat) {a : Nat} {x1 : (Option Nat)} {σ σ' : cl_S} (ha : (σ.2.2.2.1 a).1 = 19) (h : fc_X3_copyFrom a x1 σ = some σ') (f1 : cl_RT σ.2.2.2.1 x1 19) : cl_Met true l D c0 yX3_copyFrom cX3_copyFrom 3 none 0 0 [.ref (c0 + a), cl_rf c0 x1] σ none cl_no σ' :=
  by cases x1 <;> exact cl_of (by decide) (Nat.le_of_ble_eq_true rfl) (fun p e s m args below meth c ls C hn G hl => wc_X3_copyFrom_0 C h G ha f1 hl)
abbrev cX3_fill : ByteArray := prog_5_method_4_code
def yX3_fill : MethodName := ⟨RX3, "fill", "(IILPartHouse$Term;)V"⟩
theorem dX3_fill_0 : decode cX3_fill 0 = .ok (.iload_n 1, 1) := by decide +kernel
theorem dX3_fill_1 : decode cX3_fill 1 = .ok (.ifCond .lt 23, 3) := by decide +kernel
theorem dX3_fill_4 : decode cX3_fill 4 = .ok (.iload_n 1, 1) := by decide +kernel
theorem dX3_fill_5 : decode cX3_fill 5 = .ok (.bipush 64, 2) := by decide +kernel
theorem dX3_fill_7 : decode cX3_fill 7 = .ok (.if_icmp .ge 17, 3) := by decide +kernel
theorem dX3_fill_10 : decode cX3_fill 10 = .ok (.aload_n 0, 1) := by decide +kernel
theorem dX3_fill_11 : decode cX3_fill 11 = .ok (.getfield 11, 3) := by decide +kernel
theorem dX3_fill_14 : decode cX3_fill 14 = .ok (.iload_n 1, 1) := by decide +kernel
theorem dX3_fill_15 : decode cX3_fill 15 = .ok (.iload_n 2, 1) := by decide +kernel
theorem dX3_fill_16 : decode cX3_fill 16 = .ok (.iastore, 1) := by decide +kernel
theorem dX3_fill_17 : decode cX3_fill 17 = .ok (.aload_n 0, 1) := by decide +kernel
theorem dX3_fill_18 : decode cX3_fill 18 = .ok (.getfield 17, 3) := by decide +kernel
theorem dX3_fill_21 : decode cX3_fill 21 = .ok (.iload_n 1, 1) := by decide +kernel
theorem dX3_fill_22 : decode cX3_fill 22 = .ok (.aload_n 3, 1) := by decide +kernel
theorem dX3_fill_23 : decode cX3_fill 23 = .ok (.aastore, 1) := by decide +kernel
theorem dX3_fill_24 : decode cX3_fill 24 = .ok (.return_, 1) := by decide +kernel
theorem cc_X3_fill : Cond.code yX3_fill cX3_fill 4 none ∈ rf_tb := rf_at 1314 (by decide +kernel) (by decide +kernel)
noncomputable def bc_X3_fill_0 (a : Nat) (x1 : Int32) (x2 : Int32) (x3 : (Option Nat)) (σ : cl_S) : Option (cl_S) := (if x1 < 0 then some σ else (if (64:Int32) ≤ x1 then some σ else ix x1 64 (vl (cl_w σ (a + 1) x1.toNatClampNeg x2) (fun σ_2 => ix x1 64 (vl (cl_wr σ_2 (a + 2) x1.toNatClampNeg x3) (fun σ_8 => some σ_8))))))
set_option maxHeartbeats 4000000 in
theorem wc_X3_fill_0 (C : cl_C D p s m args meth c cX3_fill 4 none RX3) {a : Nat} {x1 : Int32} {x2 : Int32} {x3 : (Option Nat)} {σ0 σ σ' : cl_S} {T : Nat → Nat × Nat} {H : Heap} {locs : List Loc} {ls : Array Slot} {cells slots : Nat} (h : bc_X3_fill_0 a x1 x2 x3 σ = some σ') (G : cl_G true D c0 ({ frames := 0, cells := σ0.2.2.2.2.2.1, slots := σ0.2.2.2.2.2.2, locals := 0 }) s σ0.2.2.2.1 T σ H locs cells slots) (ha : (T a).1 = 19) (f3 : cl_RT T x3 25) (hl : lv_has ls 4 [(0, .ref (c0 + a)), (1, .int x1), (2, .int x2), (3, cl_rf c0 x3)]) : W p l e ({ frames := 0, cells := σ0.2.2.2.2.2.1, slots := σ0.2.2.2.2.2.2, locals := 0 }) s m args below meth c H locs cells slots (MQ below (cl_Q true D c0 none cl_no σ0 σ') args s (σ0.2.2.2.2.2.1 - σ'.2.2.2.2.2.1) (σ0.2.2.2.2.2.2 - σ'.2.2.2.2.2.2) (cl_A c0 σ0.2.2.2.1 s.heap.size)) (F0 m 0 ls []) := by
  unfold bc_X3_fill_0 at h
  refine lv_iload_n C.1 C.2.1 dX3_fill_0 rfl (lv_at hl 1 rfl) ?_
  refine lv_if_lt (tgt := 24) C.1 C.2.1 dX3_fill_1 (by decide) (fun hc => ?_) (fun hc => ?_)
  · rw [if_pos hc] at h
    exact cl_vret ⟨rfl, rfl⟩ rfl C G h dX3_fill_24
  · rw [if_neg hc] at h
    refine lv_iload_n C.1 C.2.1 dX3_fill_4 rfl (lv_at hl 1 rfl) ?_
    refine lv_bipush (v := (64:Int32)) C.1 C.2.1 dX3_fill_5 (by decide) ?_
    refine lv_icmp_ge (tgt := 24) C.1 C.2.1 dX3_fill_7 (by decide) (fun hc => ?_) (fun hc => ?_)
    · rw [if_pos hc] at h
      exact cl_vret ⟨rfl, rfl⟩ rfl C G h dX3_fill_24
    · rw [if_neg hc] at h
      refine lv_aload_n C.1 C.2.1 dX3_fill_10 rfl (lv_at hl 0 rfl) ?_
      refine cg_3_11 C G ha dX3_fill_11 (fun t_1 => ?_)
      refine lv_iload_n C.1 C.2.1 dX3_fill_14 rfl (lv_at hl 1 rfl) ?_
      refine lv_iload_n C.1 C.2.1 dX3_fill_15 rfl (lv_at hl 2 rfl) ?_
      obtain ⟨hi, h_3⟩ := ix_some h
      refine cl_iast C G t_1 hi dX3_fill_16 (fun H locs G_4 => ?_)
      refine cl_nm G_4 h_3 (fun σ_2 G_5 h_6 => ?_)
      refine lv_aload_n C.1 C.2.1 dX3_fill_17 rfl (lv_at hl 0 rfl) ?_
      refine cg_3_17 C G_5 ha dX3_fill_18 (fun t_7 => ?_)
      refine lv_iload_n C.1 C.2.1 dX3_fill_21 rfl (lv_at hl 1 rfl) ?_
      refine cl_aload_n C.1 C.2.1 dX3_fill_22 rfl (lv_at hl 3 rfl) ?_
      obtain ⟨hi, h_9⟩ := ix_some h_6
      refine cl_aast (ci := 9) (x := x3) C G_5 rfl rfl rfl t_7 (by decide) (by decide) f3 hi dX3_fill_23 (fun H locs G_10 => ?_)
      refine cl_nm G_10 h_9 (fun σ_8 G_11 h_12 => ?_)
      exact cl_vret ⟨rfl, rfl⟩ rfl C G_11 h_12 dX3_fill_24
noncomputable def fc_X3_fill (a : Nat) (x1 : Int32) (x2 : Int32) (x3 : (Option Nat)) (σ : cl_S) : Option (cl_S) := bc_X3_fill_0 a x1 x2 x3 σ
theorem kc_X3_fill (l : Launch) (D : cl_D) (c0 : Nat) {a : Nat} {x1 : Int32} {x2 : Int32} {x3 : (Option Nat)} {σ σ' : cl_S} (ha : (σ.2.2.2.1 a).1 = 19) (h : fc_X3_fill a x1 x2 x3 σ = some σ') (f3 : cl_RT σ.2.2.2.1 x3 25) : cl_Met true l D c0 yX3_fill cX3_fill 4 none 0 0 [.ref (c0 + a), .int x1, .int x2, cl_rf c0 x3] σ none cl_no σ' :=
  by cases x3 <;> exact cl_of (by decide) (Nat.le_of_ble_eq_true rfl) (fun p e s m args below meth c ls C hn G hl => wc_X3_fill_0 C h G ha f3 hl)
abbrev cX3_empty : ByteArray := prog_5_method_3_code
def yX3_empty : MethodName := ⟨RX3, "empty", "(I)V"⟩
theorem dX3_empty_0 : decode cX3_empty 0 = .ok (.aload_n 0, 1) := by decide +kernel
theorem dX3_empty_1 : decode cX3_empty 1 = .ok (.iload_n 1, 1) := by decide +kernel
theorem dX3_empty_2 : decode cX3_empty 2 = .ok (.iconst 0, 1) := by decide +kernel
theorem dX3_empty_3 : decode cX3_empty 3 = .ok (.aload_n 0, 1) := by decide +kernel
theorem dX3_empty_4 : decode cX3_empty 4 = .ok (.getfield 21, 3) := by decide +kernel
theorem dX3_empty_7 : decode cX3_empty 7 = .ok (.invokevirtual 25, 3) := by decide +kernel
theorem dX3_empty_10 : decode cX3_empty 10 = .ok (.return_, 1) := by decide +kernel
theorem cc_X3_empty : Cond.code yX3_empty cX3_empty 2 none ∈ rf_tb := rf_at 1310 (by decide +kernel) (by decide +kernel)
theorem cw_RX3_25 : cl_wV RX3 RX3 yX3_fill cX3_fill 4 none 25 3 := ⟨⟨rf_at 1311 (by decide +kernel) (by decide +kernel), rf_at 1312 (by decide +kernel) (by decide +kernel), rf_at 1313 (by decide +kernel) (by decide +kernel), cc_X3_fill, rf_at 12 (by decide +kernel) (by decide +kernel)⟩, ⟨by decide, by decide, by decide +kernel⟩⟩
noncomputable def bc_X3_empty_0 (a : Nat) (x1 : Int32) (σ : cl_S) : Option (cl_S) := bd1 (fc_X3_fill a x1 (0:Int32) (some 33) σ) (fun σ_2 => some σ_2)
set_option maxHeartbeats 4000000 in
theorem wc_X3_empty_0 (C : cl_C D p s m args meth c cX3_empty 2 none RX3) {a : Nat} {x1 : Int32} {σ0 σ σ' : cl_S} {T : Nat → Nat × Nat} {H : Heap} {locs : List Loc} {ls : Array Slot} {cells slots : Nat} (h : bc_X3_empty_0 a x1 σ = some σ') (G : cl_G true D c0 ({ frames := 1, cells := σ0.2.2.2.2.2.1, slots := σ0.2.2.2.2.2.2, locals := 23 }) s σ0.2.2.2.1 T σ H locs cells slots) (ha : (T a).1 = 19) (hl : lv_has ls 2 [(0, .ref (c0 + a)), (1, .int x1)]) : W p l e ({ frames := 1, cells := σ0.2.2.2.2.2.1, slots := σ0.2.2.2.2.2.2, locals := 23 }) s m args below meth c H locs cells slots (MQ below (cl_Q true D c0 none cl_no σ0 σ') args s (σ0.2.2.2.2.2.1 - σ'.2.2.2.2.2.1) (σ0.2.2.2.2.2.2 - σ'.2.2.2.2.2.2) (cl_A c0 σ0.2.2.2.1 s.heap.size)) (F0 m 0 ls []) := by
  unfold bc_X3_empty_0 at h
  refine lv_aload_n C.1 C.2.1 dX3_empty_0 rfl (lv_at hl 0 rfl) ?_
  refine lv_iload_n C.1 C.2.1 dX3_empty_1 rfl (lv_at hl 1 rfl) ?_
  refine lv_iconst (v := (0:Int32)) C.1 C.2.1 dX3_empty_2 (by decide) ?_
  refine lv_aload_n C.1 C.2.1 dX3_empty_3 rfl (lv_at hl 0 rfl) ?_
  refine cg_3_21 C G ha dX3_empty_4 (fun t_1 => ?_)
  have t_1 : (T 33).1 = 25 := by rw [t_1]
  obtain ⟨σ_2, hq, h_3⟩ := bd1_some h
  refine cl_callV (ci := 3) (rest := []) C G rfl ha cw_RX3_25 [.int x1, .int (0:Int32), .ref (c0 + 33)] _ (kc_X3_fill l D c0 (by rw [G.1]; exact ha) hq (by rw [G.1]; exact (cl_RTs t_1))) (Nat.le_of_ble_eq_true rfl) (Nat.le_of_ble_eq_true rfl) rfl rfl hl.1 (Nat.le_of_ble_eq_true rfl) dX3_empty_7 (fun T_4 H locs cells slots t_5 hu G_6 => ?_)
  have ha := hu.kind ha (by decide)
  refine W.eq (g2 := F0 m 10 ls []) rfl ?_
  exact cl_vret ⟨rfl, rfl⟩ rfl C G_6 h_3 dX3_empty_10
noncomputable def fc_X3_empty (a : Nat) (x1 : Int32) (σ : cl_S) : Option (cl_S) := bc_X3_empty_0 a x1 σ
theorem kc_X3_empty (l : Launch) (D : cl_D) (c0 : Nat) {a : Nat} {x1 : Int32} {σ σ' : cl_S} (ha : (σ.2.2.2.1 a).1 = 19) (h : fc_X3_empty a x1 σ = some σ') : cl_Met true l D c0 yX3_empty cX3_empty 2 none 1 23 [.ref (c0 + a), .int x1] σ none cl_no σ' :=
  cl_of (by decide) (Nat.le_of_ble_eq_true rfl) (fun p e s m args below meth c ls C hn G hl => wc_X3_empty_0 C h G ha hl)
abbrev cX3_isRight : ByteArray := prog_5_method_6_code
def yX3_isRight : MethodName := ⟨RX3, "isRight", "(IILPartHouse$Term;)Z"⟩
theorem dX3_isRight_0 : decode cX3_isRight 0 = .ok (.iload_n 1, 1) := by decide +kernel
theorem dX3_isRight_1 : decode cX3_isRight 1 = .ok (.ifCond .lt 9, 3) := by decide +kernel
theorem dX3_isRight_4 : decode cX3_isRight 4 = .ok (.iload_n 1, 1) := by decide +kernel
theorem dX3_isRight_5 : decode cX3_isRight 5 = .ok (.bipush 64, 2) := by decide +kernel
theorem dX3_isRight_7 : decode cX3_isRight 7 = .ok (.if_icmp .lt 5, 3) := by decide +kernel
theorem dX3_isRight_10 : decode cX3_isRight 10 = .ok (.iconst 0, 1) := by decide +kernel
theorem dX3_isRight_11 : decode cX3_isRight 11 = .ok (.ireturn, 1) := by decide +kernel
theorem dX3_isRight_12 : decode cX3_isRight 12 = .ok (.aload_n 0, 1) := by decide +kernel
theorem dX3_isRight_13 : decode cX3_isRight 13 = .ok (.getfield 17, 3) := by decide +kernel
theorem dX3_isRight_16 : decode cX3_isRight 16 = .ok (.iload_n 1, 1) := by decide +kernel
theorem dX3_isRight_17 : decode cX3_isRight 17 = .ok (.aaload, 1) := by decide +kernel
theorem dX3_isRight_18 : decode cX3_isRight 18 = .ok (.astore 4, 2) := by decide +kernel
theorem dX3_isRight_20 : decode cX3_isRight 20 = .ok (.aload 4, 2) := by decide +kernel
theorem dX3_isRight_22 : decode cX3_isRight 22 = .ok (.getfield 33, 3) := by decide +kernel
theorem dX3_isRight_25 : decode cX3_isRight 25 = .ok (.bipush 8, 2) := by decide +kernel
theorem dX3_isRight_27 : decode cX3_isRight 27 = .ok (.if_icmp .ne 24, 3) := by decide +kernel
theorem dX3_isRight_30 : decode cX3_isRight 30 = .ok (.aload 4, 2) := by decide +kernel
theorem dX3_isRight_32 : decode cX3_isRight 32 = .ok (.getfield 37, 3) := by decide +kernel
theorem dX3_isRight_35 : decode cX3_isRight 35 = .ok (.aload_n 3, 1) := by decide +kernel
theorem dX3_isRight_36 : decode cX3_isRight 36 = .ok (.if_acmp .ne 15, 3) := by decide +kernel
theorem dX3_isRight_39 : decode cX3_isRight 39 = .ok (.aload 4, 2) := by decide +kernel
theorem dX3_isRight_41 : decode cX3_isRight 41 = .ok (.getfield 40, 3) := by decide +kernel
theorem dX3_isRight_44 : decode cX3_isRight 44 = .ok (.getfield 33, 3) := by decide +kernel
theorem dX3_isRight_47 : decode cX3_isRight 47 = .ok (.iconst 3, 1) := by decide +kernel
theorem dX3_isRight_48 : decode cX3_isRight 48 = .ok (.if_icmp .eq 5, 3) := by decide +kernel
theorem dX3_isRight_51 : decode cX3_isRight 51 = .ok (.iconst 0, 1) := by decide +kernel
theorem dX3_isRight_52 : decode cX3_isRight 52 = .ok (.ireturn, 1) := by decide +kernel
theorem dX3_isRight_53 : decode cX3_isRight 53 = .ok (.aload 4, 2) := by decide +kernel
theorem dX3_isRight_55 : decode cX3_isRight 55 = .ok (.getfield 40, 3) := by decide +kernel
theorem dX3_isRight_58 : decode cX3_isRight 58 = .ok (.getfield 37, 3) := by decide +kernel
theorem dX3_isRight_61 : decode cX3_isRight 61 = .ok (.astore 5, 2) := by decide +kernel
theorem dX3_isRight_63 : decode cX3_isRight 63 = .ok (.aload 4, 2) := by decide +kernel
theorem dX3_isRight_65 : decode cX3_isRight 65 = .ok (.getfield 40, 3) := by decide +kernel
theorem dX3_isRight_68 : decode cX3_isRight 68 = .ok (.getfield 40, 3) := by decide +kernel
theorem dX3_isRight_71 : decode cX3_isRight 71 = .ok (.astore 6, 2) := by decide +kernel
theorem dX3_isRight_73 : decode cX3_isRight 73 = .ok (.aload 5, 2) := by decide +kernel
theorem dX3_isRight_75 : decode cX3_isRight 75 = .ok (.getfield 33, 3) := by decide +kernel
theorem dX3_isRight_78 : decode cX3_isRight 78 = .ok (.ifCond .ne 38, 3) := by decide +kernel
theorem dX3_isRight_81 : decode cX3_isRight 81 = .ok (.aload 5, 2) := by decide +kernel
theorem dX3_isRight_83 : decode cX3_isRight 83 = .ok (.getfield 43, 3) := by decide +kernel
theorem dX3_isRight_86 : decode cX3_isRight 86 = .ok (.iload_n 2, 1) := by decide +kernel
theorem dX3_isRight_87 : decode cX3_isRight 87 = .ok (.if_icmp .ne 29, 3) := by decide +kernel
theorem dX3_isRight_90 : decode cX3_isRight 90 = .ok (.aload 6, 2) := by decide +kernel
theorem dX3_isRight_92 : decode cX3_isRight 92 = .ok (.getfield 33, 3) := by decide +kernel
theorem dX3_isRight_95 : decode cX3_isRight 95 = .ok (.ifCond .ne 21, 3) := by decide +kernel
theorem dX3_isRight_98 : decode cX3_isRight 98 = .ok (.aload 6, 2) := by decide +kernel
theorem dX3_isRight_100 : decode cX3_isRight 100 = .ok (.getfield 43, 3) := by decide +kernel
theorem dX3_isRight_103 : decode cX3_isRight 103 = .ok (.aload_n 0, 1) := by decide +kernel
theorem dX3_isRight_104 : decode cX3_isRight 104 = .ok (.getfield 11, 3) := by decide +kernel
theorem dX3_isRight_107 : decode cX3_isRight 107 = .ok (.iload_n 1, 1) := by decide +kernel
theorem dX3_isRight_108 : decode cX3_isRight 108 = .ok (.iaload, 1) := by decide +kernel
theorem dX3_isRight_109 : decode cX3_isRight 109 = .ok (.if_icmp .ne 7, 3) := by decide +kernel
theorem dX3_isRight_112 : decode cX3_isRight 112 = .ok (.iconst 1, 1) := by decide +kernel
theorem dX3_isRight_113 : decode cX3_isRight 113 = .ok (.goto 4, 3) := by decide +kernel
theorem dX3_isRight_116 : decode cX3_isRight 116 = .ok (.iconst 0, 1) := by decide +kernel
theorem dX3_isRight_117 : decode cX3_isRight 117 = .ok (.ireturn, 1) := by decide +kernel
theorem cc_X3_isRight : Cond.code yX3_isRight cX3_isRight 7 (some .boolean) ∈ rf_tb := rf_at 1302 (by decide +kernel) (by decide +kernel)
noncomputable def bc_X3_isRight_0 (a : Nat) (x1 : Int32) (x2 : Int32) (x3 : (Option Nat)) (σ : cl_S) : Option (Int32 × cl_S) := (if x1 < 0 then some ((0:Int32), σ) else (if x1 < (64:Int32) then ix x1 64 (vl (σ.2.2.1 (a + 2) x1.toNatClampNeg) (fun r_4 => nn r_4 (fun a_8 => (if (σ.1 a_8 0) = (8:Int32) then vl (σ.2.2.1 a_8 3) (fun r_12 => (if r_12 = x3 then vl (σ.2.2.1 a_8 4) (fun r_16 => nn r_16 (fun a_19 => (if (σ.1 a_19 0) = (3:Int32) then vl (σ.2.2.1 a_8 4) (fun r_23 => nn r_23 (fun a_26 => vl (σ.2.2.1 a_26 3) (fun r_30 => vl (σ.2.2.1 a_8 4) (fun r_35 => nn r_35 (fun a_38 => vl (σ.2.2.1 a_38 4) (fun r_42 => nn r_30 (fun a_46 => (if (σ.1 a_46 0) = 0 then (if (σ.1 a_46 1) = x2 then nn r_42 (fun a_49 => (if (σ.1 a_49 0) = 0 then ix x1 64 ((if (σ.1 a_49 1) = (σ.1 (a + 1) x1.toNatClampNeg) then some ((1:Int32), σ) else some ((0:Int32), σ))) else some ((0:Int32), σ))) else some ((0:Int32), σ)) else some ((0:Int32), σ))))))))) else some ((0:Int32), σ)))) else some ((0:Int32), σ))) else some ((0:Int32), σ))))) else some ((0:Int32), σ)))
set_option maxHeartbeats 4000000 in
theorem wc_X3_isRight_0 (C : cl_C D p s m args meth c cX3_isRight 7 (some .boolean) RX3) {r : Int32} {a : Nat} {x1 : Int32} {x2 : Int32} {x3 : (Option Nat)} {σ0 σ σ' : cl_S} {T : Nat → Nat × Nat} {H : Heap} {locs : List Loc} {ls : Array Slot} {cells slots : Nat} (h : bc_X3_isRight_0 a x1 x2 x3 σ = some (r, σ')) (G : cl_G true D c0 ({ frames := 0, cells := σ0.2.2.2.2.2.1, slots := σ0.2.2.2.2.2.2, locals := 0 }) s σ0.2.2.2.1 T σ H locs cells slots) (ha : (T a).1 = 19) (f3 : cl_RT T x3 25) (hl : lv_has ls 7 [(0, .ref (c0 + a)), (1, .int x1), (2, .int x2), (3, cl_rf c0 x3)]) : W p l e ({ frames := 0, cells := σ0.2.2.2.2.2.1, slots := σ0.2.2.2.2.2.2, locals := 0 }) s m args below meth c H locs cells slots (MQ below (cl_Q true D c0 (some (.int r)) cl_no σ0 σ') args s (σ0.2.2.2.2.2.1 - σ'.2.2.2.2.2.1) (σ0.2.2.2.2.2.2 - σ'.2.2.2.2.2.2) (cl_A c0 σ0.2.2.2.1 s.heap.size)) (F0 m 0 ls []) := by
  unfold bc_X3_isRight_0 at h
  refine lv_iload_n C.1 C.2.1 dX3_isRight_0 rfl (lv_at hl 1 rfl) ?_
  refine lv_if_lt (tgt := 10) C.1 C.2.1 dX3_isRight_1 (by decide) (fun hc => ?_) (fun hc => ?_)
  · rw [if_pos hc] at h
    refine lv_iconst (v := (0:Int32)) C.1 C.2.1 dX3_isRight_10 (by decide) ?_
    exact cl_zret ⟨rfl, rfl⟩ rfl C G h rfl dX3_isRight_11
  · rw [if_neg hc] at h
    refine lv_iload_n C.1 C.2.1 dX3_isRight_4 rfl (lv_at hl 1 rfl) ?_
    refine lv_bipush (v := (64:Int32)) C.1 C.2.1 dX3_isRight_5 (by decide) ?_
    refine lv_icmp_lt (tgt := 12) C.1 C.2.1 dX3_isRight_7 (by decide) (fun hc => ?_) (fun hc => ?_)
    · rw [if_pos hc] at h
      refine lv_aload_n C.1 C.2.1 dX3_isRight_12 rfl (lv_at hl 0 rfl) ?_
      refine cg_3_17 C G ha dX3_isRight_13 (fun t_1 => ?_)
      refine lv_iload_n C.1 C.2.1 dX3_isRight_16 rfl (lv_at hl 1 rfl) ?_
      obtain ⟨hi, h_2⟩ := ix_some h
      refine cl_aald C G t_1 (by decide) (by decide) rfl hi dX3_isRight_17 (fun t_3 => ?_)
      refine vt_r (K := 25) t_3 h_2 (fun r_4 t_5 h_6 => ?_)
      refine cl_astore (lv' := [(4, cl_rf c0 r_4), (0, .ref (c0 + a)), (1, .int x1), (2, .int x2), (3, cl_rf c0 x3)]) C.1 C.2.1 dX3_isRight_18 hl (by decide) (by first | rfl | (cases x3 <;> rfl)) (fun ls hl_7 => ?_)
      refine cl_aload C.1 C.2.1 dX3_isRight_20 (lv_at hl_7 0 rfl) ?_
      obtain ⟨a_8, rfl, h_10⟩ := nn_some h_6
      have t_9 := t_5 _ rfl
      refine cg_3_33 C G t_9 dX3_isRight_22 ?_
      refine lv_bipush (v := (8:Int32)) C.1 C.2.1 dX3_isRight_25 (by decide) ?_
      refine lv_icmp_ne (tgt := 51) C.1 C.2.1 dX3_isRight_27 (by decide) (fun hc => ?_) (fun hc => ?_)
      · rw [if_neg hc] at h_10
        refine lv_iconst (v := (0:Int32)) C.1 C.2.1 dX3_isRight_51 (by decide) ?_
        exact cl_zret ⟨rfl, rfl⟩ rfl C G h_10 rfl dX3_isRight_52
      · rw [if_pos hc] at h_10
        refine lv_aload C.1 C.2.1 dX3_isRight_30 (lv_at hl_7 0 rfl) ?_
        refine cg_3_37 C G t_9 dX3_isRight_32 (fun t_11 => ?_)
        refine vt_r (K := 25) t_11 h_10 (fun r_12 t_13 h_14 => ?_)
        refine cl_aload_n C.1 C.2.1 dX3_isRight_35 rfl (lv_at hl_7 4 rfl) ?_
        refine cl_acmp_ne (rx := r_12) (ry := x3) (tgt := 51) C.1 C.2.1 dX3_isRight_36 (by decide) (fun hc => ?_) (fun hc => ?_)
        · rw [if_neg hc] at h_14
          refine lv_iconst (v := (0:Int32)) C.1 C.2.1 dX3_isRight_51 (by decide) ?_
          exact cl_zret ⟨rfl, rfl⟩ rfl C G h_14 rfl dX3_isRight_52
        · rw [if_pos hc] at h_14
          refine lv_aload C.1 C.2.1 dX3_isRight_39 (lv_at hl_7 0 rfl) ?_
          refine cg_3_40 C G t_9 dX3_isRight_41 (fun t_15 => ?_)
          refine vt_r (K := 25) t_15 h_14 (fun r_16 t_17 h_18 => ?_)
          obtain ⟨a_19, rfl, h_21⟩ := nn_some h_18
          have t_20 := t_17 _ rfl
          refine cg_3_33 C G t_20 dX3_isRight_44 ?_
          refine lv_iconst (v := (3:Int32)) C.1 C.2.1 dX3_isRight_47 (by decide) ?_
          refine lv_icmp_eq (tgt := 53) C.1 C.2.1 dX3_isRight_48 (by decide) (fun hc => ?_) (fun hc => ?_)
          · rw [if_pos hc] at h_21
            refine lv_aload C.1 C.2.1 dX3_isRight_53 (lv_at hl_7 0 rfl) ?_
            refine cg_3_40 C G t_9 dX3_isRight_55 (fun t_22 => ?_)
            refine vt_r (K := 25) t_22 h_21 (fun r_23 t_24 h_25 => ?_)
            obtain ⟨a_26, rfl, h_28⟩ := nn_some h_25
            have t_27 := t_24 _ rfl
            refine cg_3_37 C G t_27 dX3_isRight_58 (fun t_29 => ?_)
            refine vt_r (K := 25) t_29 h_28 (fun r_30 t_31 h_32 => ?_)
            refine cl_astore (lv' := [(5, cl_rf c0 r_30), (4, .ref (c0 + a_8)), (0, .ref (c0 + a)), (1, .int x1), (2, .int x2), (3, cl_rf c0 x3)]) C.1 C.2.1 dX3_isRight_61 hl_7 (by decide) (by first | rfl | (cases x3 <;> rfl)) (fun ls hl_33 => ?_)
            refine lv_aload C.1 C.2.1 dX3_isRight_63 (lv_at hl_33 1 rfl) ?_
            refine cg_3_40 C G t_9 dX3_isRight_65 (fun t_34 => ?_)
            refine vt_r (K := 25) t_34 h_32 (fun r_35 t_36 h_37 => ?_)
            obtain ⟨a_38, rfl, h_40⟩ := nn_some h_37
            have t_39 := t_36 _ rfl
            refine cg_3_40 C G t_39 dX3_isRight_68 (fun t_41 => ?_)
            refine vt_r (K := 25) t_41 h_40 (fun r_42 t_43 h_44 => ?_)
            refine cl_astore (lv' := [(6, cl_rf c0 r_42), (5, cl_rf c0 r_30), (4, .ref (c0 + a_8)), (0, .ref (c0 + a)), (1, .int x1), (2, .int x2), (3, cl_rf c0 x3)]) C.1 C.2.1 dX3_isRight_71 hl_33 (by decide) (by first | rfl | (cases r_30 <;> cases x3 <;> rfl)) (fun ls hl_45 => ?_)
            refine cl_aload C.1 C.2.1 dX3_isRight_73 (lv_at hl_45 1 rfl) ?_
            obtain ⟨a_46, rfl, h_48⟩ := nn_some h_44
            have t_47 := t_31 _ rfl
            refine cg_3_33 C G t_47 dX3_isRight_75 ?_
            refine lv_if_ne (tgt := 116) C.1 C.2.1 dX3_isRight_78 (by decide) (fun hc => ?_) (fun hc => ?_)
            · rw [if_neg hc] at h_48
              refine lv_iconst (v := (0:Int32)) C.1 C.2.1 dX3_isRight_116 (by decide) ?_
              exact cl_zret ⟨rfl, rfl⟩ rfl C G h_48 rfl dX3_isRight_117
            · rw [if_pos hc] at h_48
              refine lv_aload C.1 C.2.1 dX3_isRight_81 (lv_at hl_45 1 rfl) ?_
              refine cg_3_43 C G t_47 dX3_isRight_83 ?_
              refine lv_iload_n C.1 C.2.1 dX3_isRight_86 rfl (lv_at hl_45 5 rfl) ?_
              refine lv_icmp_ne (tgt := 116) C.1 C.2.1 dX3_isRight_87 (by decide) (fun hc => ?_) (fun hc => ?_)
              · rw [if_neg hc] at h_48
                refine lv_iconst (v := (0:Int32)) C.1 C.2.1 dX3_isRight_116 (by decide) ?_
                exact cl_zret ⟨rfl, rfl⟩ rfl C G h_48 rfl dX3_isRight_117
              · rw [if_pos hc] at h_48
                refine cl_aload C.1 C.2.1 dX3_isRight_90 (lv_at hl_45 0 rfl) ?_
                obtain ⟨a_49, rfl, h_51⟩ := nn_some h_48
                have t_50 := t_43 _ rfl
                refine cg_3_33 C G t_50 dX3_isRight_92 ?_
                refine lv_if_ne (tgt := 116) C.1 C.2.1 dX3_isRight_95 (by decide) (fun hc => ?_) (fun hc => ?_)
                · rw [if_neg hc] at h_51
                  refine lv_iconst (v := (0:Int32)) C.1 C.2.1 dX3_isRight_116 (by decide) ?_
                  exact cl_zret ⟨rfl, rfl⟩ rfl C G h_51 rfl dX3_isRight_117
                · rw [if_pos hc] at h_51
                  refine lv_aload C.1 C.2.1 dX3_isRight_98 (lv_at hl_45 0 rfl) ?_
                  refine cg_3_43 C G t_50 dX3_isRight_100 ?_
                  refine lv_aload_n C.1 C.2.1 dX3_isRight_103 rfl (lv_at hl_45 3 rfl) ?_
                  refine cg_3_11 C G ha dX3_isRight_104 (fun t_52 => ?_)
                  refine lv_iload_n C.1 C.2.1 dX3_isRight_107 rfl (lv_at hl_45 4 rfl) ?_
                  obtain ⟨hi, h_53⟩ := ix_some h_51
                  refine cl_iald C G t_52 hi dX3_isRight_108 ?_
                  refine lv_icmp_ne (tgt := 116) C.1 C.2.1 dX3_isRight_109 (by decide) (fun hc => ?_) (fun hc => ?_)
                  · rw [if_neg hc] at h_53
                    refine lv_iconst (v := (0:Int32)) C.1 C.2.1 dX3_isRight_116 (by decide) ?_
                    exact cl_zret ⟨rfl, rfl⟩ rfl C G h_53 rfl dX3_isRight_117
                  · rw [if_pos hc] at h_53
                    refine lv_iconst (v := (1:Int32)) C.1 C.2.1 dX3_isRight_112 (by decide) ?_
                    refine lv_goto (tgt := 117) C.1 C.2.1 dX3_isRight_113 (by decide) ?_
                    exact cl_zret ⟨rfl, rfl⟩ rfl C G h_53 rfl dX3_isRight_117
          · rw [if_neg hc] at h_21
            refine lv_iconst (v := (0:Int32)) C.1 C.2.1 dX3_isRight_51 (by decide) ?_
            exact cl_zret ⟨rfl, rfl⟩ rfl C G h_21 rfl dX3_isRight_52
    · rw [if_neg hc] at h
      refine lv_iconst (v := (0:Int32)) C.1 C.2.1 dX3_isRight_10 (by decide) ?_
      exact cl_zret ⟨rfl, rfl⟩ rfl C G h rfl dX3_isRight_11
noncomputable def fc_X3_isRight (a : Nat) (x1 : Int32) (x2 : Int32) (x3 : (Option Nat)) (σ : cl_S) : Option (Int32 × cl_S) := bc_X3_isRight_0 a x1 x2 x3 σ
theorem kc_X3_isRight (l : Launch) (D : cl_D) (c0 : Nat) {r : Int32} {a : Nat} {x1 : Int32} {x2 : Int32} {x3 : (Option Nat)} {σ σ' : cl_S} (ha : (σ.2.2.2.1 a).1 = 19) (h : fc_X3_isRight a x1 x2 x3 σ = some (r, σ')) (f3 : cl_RT σ.2.2.2.1 x3 25) : cl_Met true l D c0 yX3_isRight cX3_isRight 7 (some .boolean) 0 0 [.ref (c0 + a), .int x1, .int x2, cl_rf c0 x3] σ (some (.int r)) cl_no σ' :=
  by cases x3 <;> exact cl_of (by decide) (Nat.le_of_ble_eq_true rfl) (fun p e s m args below meth c ls C hn G hl => wc_X3_isRight_0 C h G ha f3 hl)
abbrev cX3_counting : ByteArray := prog_5_method_5_code
def yX3_counting : MethodName := ⟨RX3, "counting", "(IILPartHouse$Term;)I"⟩
theorem dX3_counting_0 : decode cX3_counting 0 = .ok (.aload_n 0, 1) := by decide +kernel
theorem dX3_counting_1 : decode cX3_counting 1 = .ok (.iload_n 1, 1) := by decide +kernel
theorem dX3_counting_2 : decode cX3_counting 2 = .ok (.iload_n 2, 1) := by decide +kernel
theorem dX3_counting_3 : decode cX3_counting 3 = .ok (.aload_n 3, 1) := by decide +kernel
theorem dX3_counting_4 : decode cX3_counting 4 = .ok (.invokevirtual 29, 3) := by decide +kernel
theorem dX3_counting_7 : decode cX3_counting 7 = .ok (.istore 4, 2) := by decide +kernel
theorem dX3_counting_9 : decode cX3_counting 9 = .ok (.aload_n 0, 1) := by decide +kernel
theorem dX3_counting_10 : decode cX3_counting 10 = .ok (.iload_n 1, 1) := by decide +kernel
theorem dX3_counting_11 : decode cX3_counting 11 = .ok (.iconst 1, 1) := by decide +kernel
theorem dX3_counting_12 : decode cX3_counting 12 = .ok (.iadd, 1) := by decide +kernel
theorem dX3_counting_13 : decode cX3_counting 13 = .ok (.iload_n 2, 1) := by decide +kernel
theorem dX3_counting_14 : decode cX3_counting 14 = .ok (.aload_n 3, 1) := by decide +kernel
theorem dX3_counting_15 : decode cX3_counting 15 = .ok (.invokevirtual 29, 3) := by decide +kernel
theorem dX3_counting_18 : decode cX3_counting 18 = .ok (.istore 5, 2) := by decide +kernel
theorem dX3_counting_20 : decode cX3_counting 20 = .ok (.iload 4, 2) := by decide +kernel
theorem dX3_counting_22 : decode cX3_counting 22 = .ok (.ifCond .eq 33, 3) := by decide +kernel
theorem dX3_counting_25 : decode cX3_counting 25 = .ok (.iload 5, 2) := by decide +kernel
theorem dX3_counting_27 : decode cX3_counting 27 = .ok (.ifCond .eq 28, 3) := by decide +kernel
theorem dX3_counting_30 : decode cX3_counting 30 = .ok (.aload_n 0, 1) := by decide +kernel
theorem dX3_counting_31 : decode cX3_counting 31 = .ok (.getfield 11, 3) := by decide +kernel
theorem dX3_counting_34 : decode cX3_counting 34 = .ok (.iload_n 1, 1) := by decide +kernel
theorem dX3_counting_35 : decode cX3_counting 35 = .ok (.iconst 1, 1) := by decide +kernel
theorem dX3_counting_36 : decode cX3_counting 36 = .ok (.iadd, 1) := by decide +kernel
theorem dX3_counting_37 : decode cX3_counting 37 = .ok (.iaload, 1) := by decide +kernel
theorem dX3_counting_38 : decode cX3_counting 38 = .ok (.aload_n 0, 1) := by decide +kernel
theorem dX3_counting_39 : decode cX3_counting 39 = .ok (.getfield 11, 3) := by decide +kernel
theorem dX3_counting_42 : decode cX3_counting 42 = .ok (.iload_n 1, 1) := by decide +kernel
theorem dX3_counting_43 : decode cX3_counting 43 = .ok (.iaload, 1) := by decide +kernel
theorem dX3_counting_44 : decode cX3_counting 44 = .ok (.if_icmp .le 9, 3) := by decide +kernel
theorem dX3_counting_47 : decode cX3_counting 47 = .ok (.iload_n 1, 1) := by decide +kernel
theorem dX3_counting_48 : decode cX3_counting 48 = .ok (.iconst 1, 1) := by decide +kernel
theorem dX3_counting_49 : decode cX3_counting 49 = .ok (.iadd, 1) := by decide +kernel
theorem dX3_counting_50 : decode cX3_counting 50 = .ok (.goto 4, 3) := by decide +kernel
theorem dX3_counting_53 : decode cX3_counting 53 = .ok (.iload_n 1, 1) := by decide +kernel
theorem dX3_counting_54 : decode cX3_counting 54 = .ok (.ireturn, 1) := by decide +kernel
theorem dX3_counting_55 : decode cX3_counting 55 = .ok (.iload 4, 2) := by decide +kernel
theorem dX3_counting_57 : decode cX3_counting 57 = .ok (.ifCond .eq 5, 3) := by decide +kernel
theorem dX3_counting_60 : decode cX3_counting 60 = .ok (.iload_n 1, 1) := by decide +kernel
theorem dX3_counting_61 : decode cX3_counting 61 = .ok (.ireturn, 1) := by decide +kernel
theorem dX3_counting_62 : decode cX3_counting 62 = .ok (.iload 5, 2) := by decide +kernel
theorem dX3_counting_64 : decode cX3_counting 64 = .ok (.ifCond .eq 9, 3) := by decide +kernel
theorem dX3_counting_67 : decode cX3_counting 67 = .ok (.iload_n 1, 1) := by decide +kernel
theorem dX3_counting_68 : decode cX3_counting 68 = .ok (.iconst 1, 1) := by decide +kernel
theorem dX3_counting_69 : decode cX3_counting 69 = .ok (.iadd, 1) := by decide +kernel
theorem dX3_counting_70 : decode cX3_counting 70 = .ok (.goto 4, 3) := by decide +kernel
theorem dX3_counting_73 : decode cX3_counting 73 = .ok (.iconst (-1), 1) := by decide +kernel
theorem dX3_counting_74 : decode cX3_counting 74 = .ok (.ireturn, 1) := by decide +kernel
theorem cc_X3_counting : Cond.code yX3_counting cX3_counting 6 (some .int) ∈ rf_tb := rf_at 1298 (by decide +kernel) (by decide +kernel)
theorem cw_RX3_29 : cl_wV RX3 RX3 yX3_isRight cX3_isRight 7 (some .boolean) 29 3 := ⟨⟨rf_at 1299 (by decide +kernel) (by decide +kernel), rf_at 1301 (by decide +kernel) (by decide +kernel), rf_sel (q := (yX3_isRight, 3)) 61 (by decide +kernel) (by decide +kernel), cc_X3_isRight, rf_at 12 (by decide +kernel) (by decide +kernel)⟩, ⟨by decide, by decide, by decide +kernel⟩⟩
noncomputable def bc_X3_counting_55 (x1 : Int32) (x4 : Int32) (x5 : Int32) (σ : cl_S) : Option (Int32 × cl_S) := (if x4 = 0 then (if x5 = 0 then some ((-1:Int32), σ) else some ((x1 + (1:Int32)), σ)) else some (x1, σ))
set_option maxHeartbeats 4000000 in
theorem wc_X3_counting_55 (C : cl_C D p s m args meth c cX3_counting 6 (some .int) RX3) {r : Int32} {x1 : Int32} {x4 : Int32} {x5 : Int32} {σ0 σ σ' : cl_S} {T : Nat → Nat × Nat} {H : Heap} {locs : List Loc} {ls : Array Slot} {cells slots : Nat} (h : bc_X3_counting_55 x1 x4 x5 σ = some (r, σ')) (G : cl_G true D c0 ({ frames := 1, cells := σ0.2.2.2.2.2.1, slots := σ0.2.2.2.2.2.2, locals := 26 }) s σ0.2.2.2.1 T σ H locs cells slots) (hl : lv_has ls 6 [(1, .int x1), (4, .int x4), (5, .int x5)]) : W p l e ({ frames := 1, cells := σ0.2.2.2.2.2.1, slots := σ0.2.2.2.2.2.2, locals := 26 }) s m args below meth c H locs cells slots (MQ below (cl_Q true D c0 (some (.int r)) cl_no σ0 σ') args s (σ0.2.2.2.2.2.1 - σ'.2.2.2.2.2.1) (σ0.2.2.2.2.2.2 - σ'.2.2.2.2.2.2) (cl_A c0 σ0.2.2.2.1 s.heap.size)) (F0 m 55 ls []) := by
  unfold bc_X3_counting_55 at h
  refine lv_iload C.1 C.2.1 dX3_counting_55 (lv_at hl 1 rfl) ?_
  refine lv_if_eq (tgt := 62) C.1 C.2.1 dX3_counting_57 (by decide) (fun hc => ?_) (fun hc => ?_)
  · rw [if_pos hc] at h
    refine lv_iload C.1 C.2.1 dX3_counting_62 (lv_at hl 2 rfl) ?_
    refine lv_if_eq (tgt := 73) C.1 C.2.1 dX3_counting_64 (by decide) (fun hc => ?_) (fun hc => ?_)
    · rw [if_pos hc] at h
      refine lv_iconst (v := (-1:Int32)) C.1 C.2.1 dX3_counting_73 (by decide) ?_
      exact cl_iret ⟨rfl, rfl⟩ rfl C G h dX3_counting_74
    · rw [if_neg hc] at h
      refine lv_iload_n C.1 C.2.1 dX3_counting_67 rfl (lv_at hl 0 rfl) ?_
      refine lv_iconst (v := (1:Int32)) C.1 C.2.1 dX3_counting_68 (by decide) ?_
      refine lv_iadd C.1 C.2.1 dX3_counting_69 ?_
      refine lv_goto (tgt := 74) C.1 C.2.1 dX3_counting_70 (by decide) ?_
      exact cl_iret ⟨rfl, rfl⟩ rfl C G h dX3_counting_74
  · rw [if_neg hc] at h
    refine lv_iload_n C.1 C.2.1 dX3_counting_60 rfl (lv_at hl 0 rfl) ?_
    exact cl_iret ⟨rfl, rfl⟩ rfl C G h dX3_counting_61
noncomputable def bc_X3_counting_0 (a : Nat) (x1 : Int32) (x2 : Int32) (x3 : (Option Nat)) (σ : cl_S) : Option (Int32 × cl_S) := bd2 (fc_X3_isRight a x1 x2 x3 σ) (fun r_2 σ_1 => bd2 (fc_X3_isRight a (x1 + (1:Int32)) x2 x3 σ_1) (fun r_9 σ_8 => (if r_2 = 0 then bc_X3_counting_55 x1 r_2 r_9 σ_8 else (if r_9 = 0 then bc_X3_counting_55 x1 r_2 r_9 σ_8 else ix (x1 + (1:Int32)) 64 (ix x1 64 ((if (σ_8.1 (a + 1) (x1 + (1:Int32)).toNatClampNeg) ≤ (σ_8.1 (a + 1) x1.toNatClampNeg) then some (x1, σ_8) else some ((x1 + (1:Int32)), σ_8))))))))
set_option maxHeartbeats 4000000 in
theorem wc_X3_counting_0 (C : cl_C D p s m args meth c cX3_counting 6 (some .int) RX3) {r : Int32} {a : Nat} {x1 : Int32} {x2 : Int32} {x3 : (Option Nat)} {σ0 σ σ' : cl_S} {T : Nat → Nat × Nat} {H : Heap} {locs : List Loc} {ls : Array Slot} {cells slots : Nat} (h : bc_X3_counting_0 a x1 x2 x3 σ = some (r, σ')) (G : cl_G true D c0 ({ frames := 1, cells := σ0.2.2.2.2.2.1, slots := σ0.2.2.2.2.2.2, locals := 26 }) s σ0.2.2.2.1 T σ H locs cells slots) (ha : (T a).1 = 19) (f3 : cl_RT T x3 25) (hl : lv_has ls 6 [(0, .ref (c0 + a)), (1, .int x1), (2, .int x2), (3, cl_rf c0 x3)]) : W p l e ({ frames := 1, cells := σ0.2.2.2.2.2.1, slots := σ0.2.2.2.2.2.2, locals := 26 }) s m args below meth c H locs cells slots (MQ below (cl_Q true D c0 (some (.int r)) cl_no σ0 σ') args s (σ0.2.2.2.2.2.1 - σ'.2.2.2.2.2.1) (σ0.2.2.2.2.2.2 - σ'.2.2.2.2.2.2) (cl_A c0 σ0.2.2.2.1 s.heap.size)) (F0 m 0 ls []) := by
  unfold bc_X3_counting_0 at h
  refine lv_aload_n C.1 C.2.1 dX3_counting_0 rfl (lv_at hl 0 rfl) ?_
  refine lv_iload_n C.1 C.2.1 dX3_counting_1 rfl (lv_at hl 1 rfl) ?_
  refine lv_iload_n C.1 C.2.1 dX3_counting_2 rfl (lv_at hl 2 rfl) ?_
  refine cl_aload_n C.1 C.2.1 dX3_counting_3 rfl (lv_at hl 3 rfl) ?_
  obtain ⟨r_2, σ_1, hq, h_3⟩ := bd2_some h
  refine cl_callV (ci := 3) (rest := []) C G rfl ha cw_RX3_29 [.int x1, .int x2, cl_rf c0 x3] _ (kc_X3_isRight l D c0 (by rw [G.1]; exact ha) hq (by rw [G.1]; exact f3)) (Nat.le_of_ble_eq_true rfl) (Nat.le_of_ble_eq_true rfl) rfl rfl hl.1 (Nat.le_of_ble_eq_true rfl) dX3_counting_4 (fun T_4 H locs cells slots t_5 hu G_6 => ?_)
  have ha := hu.kind ha (by decide)
  have f3 := f3.up hu (by decide)
  refine W.eq (g2 := F0 m 7 ls [.int r_2]) rfl ?_
  refine lv_istore (lv' := [(4, .int r_2), (0, .ref (c0 + a)), (1, .int x1), (2, .int x2), (3, cl_rf c0 x3)]) C.1 C.2.1 dX3_counting_7 hl (by decide) (by first | rfl | (cases x3 <;> rfl)) (fun ls hl_7 => ?_)
  refine lv_aload_n C.1 C.2.1 dX3_counting_9 rfl (lv_at hl_7 1 rfl) ?_
  refine lv_iload_n C.1 C.2.1 dX3_counting_10 rfl (lv_at hl_7 2 rfl) ?_
  refine lv_iconst (v := (1:Int32)) C.1 C.2.1 dX3_counting_11 (by decide) ?_
  refine lv_iadd C.1 C.2.1 dX3_counting_12 ?_
  refine lv_iload_n C.1 C.2.1 dX3_counting_13 rfl (lv_at hl_7 3 rfl) ?_
  refine cl_aload_n C.1 C.2.1 dX3_counting_14 rfl (lv_at hl_7 4 rfl) ?_
  obtain ⟨r_9, σ_8, hq, h_10⟩ := bd2_some h_3
  refine cl_callV (ci := 3) (rest := []) C G_6 rfl ha cw_RX3_29 [.int (x1 + (1:Int32)), .int x2, cl_rf c0 x3] _ (kc_X3_isRight l D c0 (by rw [G_6.1]; exact ha) hq (by rw [G_6.1]; exact f3)) (Nat.le_of_ble_eq_true rfl) (Nat.le_of_ble_eq_true rfl) rfl rfl hl_7.1 (Nat.le_of_ble_eq_true rfl) dX3_counting_15 (fun T_11 H locs cells slots t_12 hu G_13 => ?_)
  have ha := hu.kind ha (by decide)
  have f3 := f3.up hu (by decide)
  refine W.eq (g2 := F0 m 18 ls [.int r_9]) rfl ?_
  refine lv_istore (lv' := [(5, .int r_9), (4, .int r_2), (0, .ref (c0 + a)), (1, .int x1), (2, .int x2), (3, cl_rf c0 x3)]) C.1 C.2.1 dX3_counting_18 hl_7 (by decide) (by first | rfl | (cases x3 <;> rfl)) (fun ls hl_14 => ?_)
  refine lv_iload C.1 C.2.1 dX3_counting_20 (lv_at hl_14 1 rfl) ?_
  refine lv_if_eq (tgt := 55) C.1 C.2.1 dX3_counting_22 (by decide) (fun hc => ?_) (fun hc => ?_)
  · rw [if_pos hc] at h_10
    exact wc_X3_counting_55 C h_10 G_13 (lv_sub hl_14 [3, 1, 0] rfl)
  · rw [if_neg hc] at h_10
    refine lv_iload C.1 C.2.1 dX3_counting_25 (lv_at hl_14 0 rfl) ?_
    refine lv_if_eq (tgt := 55) C.1 C.2.1 dX3_counting_27 (by decide) (fun hc => ?_) (fun hc => ?_)
    · rw [if_pos hc] at h_10
      exact wc_X3_counting_55 C h_10 G_13 (lv_sub hl_14 [3, 1, 0] rfl)
    · rw [if_neg hc] at h_10
      refine lv_aload_n C.1 C.2.1 dX3_counting_30 rfl (lv_at hl_14 2 rfl) ?_
      refine cg_3_11 C G_13 ha dX3_counting_31 (fun t_15 => ?_)
      refine lv_iload_n C.1 C.2.1 dX3_counting_34 rfl (lv_at hl_14 3 rfl) ?_
      refine lv_iconst (v := (1:Int32)) C.1 C.2.1 dX3_counting_35 (by decide) ?_
      refine lv_iadd C.1 C.2.1 dX3_counting_36 ?_
      obtain ⟨hi, h_16⟩ := ix_some h_10
      refine cl_iald C G_13 t_15 hi dX3_counting_37 ?_
      refine lv_aload_n C.1 C.2.1 dX3_counting_38 rfl (lv_at hl_14 2 rfl) ?_
      refine cg_3_11 C G_13 ha dX3_counting_39 (fun t_17 => ?_)
      refine lv_iload_n C.1 C.2.1 dX3_counting_42 rfl (lv_at hl_14 3 rfl) ?_
      obtain ⟨hi, h_18⟩ := ix_some h_16
      refine cl_iald C G_13 t_17 hi dX3_counting_43 ?_
      refine lv_icmp_le (tgt := 53) C.1 C.2.1 dX3_counting_44 (by decide) (fun hc => ?_) (fun hc => ?_)
      · rw [if_pos hc] at h_18
        refine lv_iload_n C.1 C.2.1 dX3_counting_53 rfl (lv_at hl_14 3 rfl) ?_
        exact cl_iret ⟨rfl, rfl⟩ rfl C G_13 h_18 dX3_counting_54
      · rw [if_neg hc] at h_18
        refine lv_iload_n C.1 C.2.1 dX3_counting_47 rfl (lv_at hl_14 3 rfl) ?_
        refine lv_iconst (v := (1:Int32)) C.1 C.2.1 dX3_counting_48 (by decide) ?_
        refine lv_iadd C.1 C.2.1 dX3_counting_49 ?_
        refine lv_goto (tgt := 54) C.1 C.2.1 dX3_counting_50 (by decide) ?_
        exact cl_iret ⟨rfl, rfl⟩ rfl C G_13 h_18 dX3_counting_54
noncomputable def fc_X3_counting (a : Nat) (x1 : Int32) (x2 : Int32) (x3 : (Option Nat)) (σ : cl_S) : Option (Int32 × cl_S) := bc_X3_counting_0 a x1 x2 x3 σ
theorem kc_X3_counting (l : Launch) (D : cl_D) (c0 : Nat) {r : Int32} {a : Nat} {x1 : Int32} {x2 : Int32} {x3 : (Option Nat)} {σ σ' : cl_S} (ha : (σ.2.2.2.1 a).1 = 19) (h : fc_X3_counting a x1 x2 x3 σ = some (r, σ')) (f3 : cl_RT σ.2.2.2.1 x3 25) : cl_Met true l D c0 yX3_counting cX3_counting 6 (some .int) 1 26 [.ref (c0 + a), .int x1, .int x2, cl_rf c0 x3] σ (some (.int r)) cl_no σ' :=
  by cases x3 <;> exact cl_of (by decide) (Nat.le_of_ble_eq_true rfl) (fun p e s m args below meth c ls C hn G hl => wc_X3_counting_0 C h G ha f3 hl)
abbrev cX4_init : ByteArray := prog_6_method_1_code
def yX4_init : MethodName := ⟨RX4, "<init>", "()V"⟩
theorem dX4_init_0 : decode cX4_init 0 = .ok (.aload_n 0, 1) := by decide +kernel
theorem dX4_init_1 : decode cX4_init 1 = .ok (.invokespecial 3, 3) := by decide +kernel
theorem dX4_init_4 : decode cX4_init 4 = .ok (.aload_n 0, 1) := by decide +kernel
theorem dX4_init_5 : decode cX4_init 5 = .ok (.sipush 6000, 3) := by decide +kernel
theorem dX4_init_8 : decode cX4_init 8 = .ok (.newarray .char, 2) := by decide +kernel
theorem dX4_init_10 : decode cX4_init 10 = .ok (.putfield 11, 3) := by decide +kernel
theorem dX4_init_13 : decode cX4_init 13 = .ok (.aload_n 0, 1) := by decide +kernel
theorem dX4_init_14 : decode cX4_init 14 = .ok (.sipush 6001, 3) := by decide +kernel
theorem dX4_init_17 : decode cX4_init 17 = .ok (.newarray .int, 2) := by decide +kernel
theorem dX4_init_19 : decode cX4_init 19 = .ok (.putfield 15, 3) := by decide +kernel
theorem dX4_init_22 : decode cX4_init 22 = .ok (.aload_n 0, 1) := by decide +kernel
theorem dX4_init_23 : decode cX4_init 23 = .ok (.sipush 6001, 3) := by decide +kernel
theorem dX4_init_26 : decode cX4_init 26 = .ok (.newarray .int, 2) := by decide +kernel
theorem dX4_init_28 : decode cX4_init 28 = .ok (.putfield 19, 3) := by decide +kernel
theorem dX4_init_31 : decode cX4_init 31 = .ok (.aload_n 0, 1) := by decide +kernel
theorem dX4_init_32 : decode cX4_init 32 = .ok (.sipush 6001, 3) := by decide +kernel
theorem dX4_init_35 : decode cX4_init 35 = .ok (.newarray .long, 2) := by decide +kernel
theorem dX4_init_37 : decode cX4_init 37 = .ok (.putfield 22, 3) := by decide +kernel
theorem dX4_init_40 : decode cX4_init 40 = .ok (.return_, 1) := by decide +kernel
theorem cc_X4_init : Cond.code yX4_init cX4_init 1 none ∈ rf_tb := rf_at 33 (by decide +kernel) (by decide +kernel)
theorem oi_RX4_3 : Cond.methodLink RX4 3 Lib.objectInit ∈ rf_tb := rf_at 34 (by decide +kernel) (by decide +kernel)
noncomputable def bc_X4_init_0 (a : Nat) (σ : cl_S) : Option (cl_S) := nag (6000:Int32) (al σ (6000:Int32).toNatClampNeg (vl σ.2.2.2.2.1 (fun a_1 => vl (cl_nw σ 3 (6000:Int32).toNatClampNeg (6000:Int32).toNatClampNeg) (fun σ_2 => vl (cl_wr σ_2 a 0 (some a_1)) (fun σ_11 => nag (6001:Int32) (al σ_11 (6001:Int32).toNatClampNeg (vl σ_11.2.2.2.2.1 (fun a_15 => vl (cl_nw σ_11 1 (6001:Int32).toNatClampNeg (6001:Int32).toNatClampNeg) (fun σ_16 => vl (cl_wr σ_16 a 3 (some a_15)) (fun σ_25 => nag (6001:Int32) (al σ_25 (6001:Int32).toNatClampNeg (vl σ_25.2.2.2.2.1 (fun a_29 => vl (cl_nw σ_25 1 (6001:Int32).toNatClampNeg (6001:Int32).toNatClampNeg) (fun σ_30 => vl (cl_wr σ_30 a 4 (some a_29)) (fun σ_39 => nag (6001:Int32) (al σ_39 (6001:Int32).toNatClampNeg (vl σ_39.2.2.2.2.1 (fun a_43 => vl (cl_nw σ_39 2 (6001:Int32).toNatClampNeg (6001:Int32).toNatClampNeg) (fun σ_44 => vl (cl_wr σ_44 a 5 (some a_43)) (fun σ_53 => some σ_53))))))))))))))))))))
set_option maxHeartbeats 4000000 in
theorem wc_X4_init_0 (C : cl_C D p s m args meth c cX4_init 1 none RX4) (hn9 : meth.name = "<init>") {a : Nat} {σ0 σ σ' : cl_S} {T : Nat → Nat × Nat} {H : Heap} {locs : List Loc} {ls : Array Slot} {cells slots : Nat} (h : bc_X4_init_0 a σ = some σ') (G : cl_G true D c0 ({ frames := 1, cells := σ0.2.2.2.2.2.1, slots := σ0.2.2.2.2.2.2, locals := 20 }) s σ0.2.2.2.1 T σ H locs cells slots) (ha : (T a).1 = 120) (hl : lv_has ls 1 [(0, .ref (c0 + a))]) : W p l e ({ frames := 1, cells := σ0.2.2.2.2.2.1, slots := σ0.2.2.2.2.2.2, locals := 20 }) s m args below meth c H locs cells slots (MQ below (cl_Q true D c0 none cl_no σ0 σ') args s (σ0.2.2.2.2.2.1 - σ'.2.2.2.2.2.1) (σ0.2.2.2.2.2.2 - σ'.2.2.2.2.2.2) (cl_A c0 σ0.2.2.2.1 s.heap.size)) (F0 m 0 ls []) := by
  unfold bc_X4_init_0 at h
  refine lv_aload_n C.1 C.2.1 dX4_init_0 rfl (lv_at hl 0 rfl) ?_
  refine W.objInit (rest := []) C.1 C.2.1 C.2.2.2.1 (C.2.2.2.2.1 _ oi_RX4_3) (C.2.2.2.2.1 _ oi_i) (C.2.2.2.2.1 _ oi_c) rfl (by rw [C.2.2.1]; exact hl.1) rfl dX4_init_1 (Nat.le_of_ble_eq_true rfl) (Nat.le_of_ble_eq_true rfl) ?_
  refine W.eq (g2 := F0 m 4 ls []) rfl ?_
  refine lv_aload_n C.1 C.2.1 dX4_init_4 rfl (lv_at hl 0 rfl) ?_
  refine lv_sipush (v := (6000:Int32)) C.1 C.2.1 dX4_init_5 (by decide) ?_
  obtain ⟨hng, h_5⟩ := nag_some h
  obtain ⟨hal, h_6⟩ := al_some h_5
  refine cl_newa (t := 3) C G (by decide) (by decide) .char rfl aw_3 hng.1 rfl (cl_bytes hng.2 (by decide) (by decide)) hal dX4_init_8 (fun T_4 H cells slots t_3 hu G_7 => ?_)
  have ha := hu.kind ha (by decide)
  refine cl_nmB h_6 t_3 (fun a_1 t_3 h_8 => ?_)
  refine cl_nm G_7 h_8 (fun σ_2 G_9 h_10 => ?_)
  refine rp_4_11 (x := (some a_1)) C hn9 G_9 ha (cl_RTs (by rw [t_3])) dX4_init_10 (fun H locs G_12 => ?_)
  refine cl_nm G_12 h_10 (fun σ_11 G_13 h_14 => ?_)
  refine lv_aload_n C.1 C.2.1 dX4_init_13 rfl (lv_at hl 0 rfl) ?_
  refine lv_sipush (v := (6001:Int32)) C.1 C.2.1 dX4_init_14 (by decide) ?_
  obtain ⟨hng, h_19⟩ := nag_some h_14
  obtain ⟨hal, h_20⟩ := al_some h_19
  refine cl_newa (t := 1) C G_13 (by decide) (by decide) .int rfl aw_1 hng.1 rfl (cl_bytes hng.2 (by decide) (by decide)) hal dX4_init_17 (fun T_18 H cells slots t_17 hu G_21 => ?_)
  have ha := hu.kind ha (by decide)
  refine cl_nmB h_20 t_17 (fun a_15 t_17 h_22 => ?_)
  refine cl_nm G_21 h_22 (fun σ_16 G_23 h_24 => ?_)
  refine rp_4_15 (x := (some a_15)) C hn9 G_23 ha (cl_RTs (by rw [t_17])) dX4_init_19 (fun H locs G_26 => ?_)
  refine cl_nm G_26 h_24 (fun σ_25 G_27 h_28 => ?_)
  refine lv_aload_n C.1 C.2.1 dX4_init_22 rfl (lv_at hl 0 rfl) ?_
  refine lv_sipush (v := (6001:Int32)) C.1 C.2.1 dX4_init_23 (by decide) ?_
  obtain ⟨hng, h_33⟩ := nag_some h_28
  obtain ⟨hal, h_34⟩ := al_some h_33
  refine cl_newa (t := 1) C G_27 (by decide) (by decide) .int rfl aw_1 hng.1 rfl (cl_bytes hng.2 (by decide) (by decide)) hal dX4_init_26 (fun T_32 H cells slots t_31 hu G_35 => ?_)
  have ha := hu.kind ha (by decide)
  refine cl_nmB h_34 t_31 (fun a_29 t_31 h_36 => ?_)
  refine cl_nm G_35 h_36 (fun σ_30 G_37 h_38 => ?_)
  refine rp_4_19 (x := (some a_29)) C hn9 G_37 ha (cl_RTs (by rw [t_31])) dX4_init_28 (fun H locs G_40 => ?_)
  refine cl_nm G_40 h_38 (fun σ_39 G_41 h_42 => ?_)
  refine lv_aload_n C.1 C.2.1 dX4_init_31 rfl (lv_at hl 0 rfl) ?_
  refine lv_sipush (v := (6001:Int32)) C.1 C.2.1 dX4_init_32 (by decide) ?_
  obtain ⟨hng, h_47⟩ := nag_some h_42
  obtain ⟨hal, h_48⟩ := al_some h_47
  refine cl_newa (t := 2) C G_41 (by decide) (by decide) .long rfl aw_2 hng.1 rfl (cl_bytes hng.2 (by decide) (by decide)) hal dX4_init_35 (fun T_46 H cells slots t_45 hu G_49 => ?_)
  have ha := hu.kind ha (by decide)
  refine cl_nmB h_48 t_45 (fun a_43 t_45 h_50 => ?_)
  refine cl_nm G_49 h_50 (fun σ_44 G_51 h_52 => ?_)
  refine rp_4_22 (x := (some a_43)) C hn9 G_51 ha (cl_RTs (by rw [t_45])) dX4_init_37 (fun H locs G_54 => ?_)
  refine cl_nm G_54 h_52 (fun σ_53 G_55 h_56 => ?_)
  exact cl_vret ⟨rfl, rfl⟩ rfl C G_55 h_56 dX4_init_40
noncomputable def fc_X4_init (a : Nat) (σ : cl_S) : Option (cl_S) := bc_X4_init_0 a σ
theorem kc_X4_init (l : Launch) (D : cl_D) (c0 : Nat) {a : Nat} {σ σ' : cl_S} (ha : (σ.2.2.2.1 a).1 = 120) (h : fc_X4_init a σ = some σ') : cl_Met true l D c0 yX4_init cX4_init 1 none 1 20 [.ref (c0 + a)] σ none cl_no σ' :=
  cl_of (by decide) (Nat.le_of_ble_eq_true rfl) (fun p e s m args below meth c ls C hn G hl => wc_X4_init_0 C hn h G ha hl)
abbrev cX4_addOctets : ByteArray := prog_6_method_2_code
def yX4_addOctets : MethodName := ⟨RX4, "addOctets", "(JI)I"⟩
theorem dX4_addOctets_0 : decode cX4_addOctets 0 = .ok (.iload_n 3, 1) := by decide +kernel
theorem dX4_addOctets_1 : decode cX4_addOctets 1 = .ok (.ifCond .ne 8, 3) := by decide +kernel
theorem dX4_addOctets_4 : decode cX4_addOctets 4 = .ok (.aload_n 0, 1) := by decide +kernel
theorem dX4_addOctets_5 : decode cX4_addOctets 5 = .ok (.iconst 0, 1) := by decide +kernel
theorem dX4_addOctets_6 : decode cX4_addOctets 6 = .ok (.putfield 26, 3) := by decide +kernel
theorem dX4_addOctets_9 : decode cX4_addOctets 9 = .ok (.aload_n 0, 1) := by decide +kernel
theorem dX4_addOctets_10 : decode cX4_addOctets 10 = .ok (.getfield 26, 3) := by decide +kernel
theorem dX4_addOctets_13 : decode cX4_addOctets 13 = .ok (.iload_n 3, 1) := by decide +kernel
theorem dX4_addOctets_14 : decode cX4_addOctets 14 = .ok (.iadd, 1) := by decide +kernel
theorem dX4_addOctets_15 : decode cX4_addOctets 15 = .ok (.sipush 6000, 3) := by decide +kernel
theorem dX4_addOctets_18 : decode cX4_addOctets 18 = .ok (.if_icmp .le 6, 3) := by decide +kernel
theorem dX4_addOctets_21 : decode cX4_addOctets 21 = .ok (.bipush (-4), 2) := by decide +kernel
theorem dX4_addOctets_23 : decode cX4_addOctets 23 = .ok (.ireturn, 1) := by decide +kernel
theorem dX4_addOctets_24 : decode cX4_addOctets 24 = .ok (.iload_n 3, 1) := by decide +kernel
theorem dX4_addOctets_25 : decode cX4_addOctets 25 = .ok (.iconst 1, 1) := by decide +kernel
theorem dX4_addOctets_26 : decode cX4_addOctets 26 = .ok (.isub, 1) := by decide +kernel
theorem dX4_addOctets_27 : decode cX4_addOctets 27 = .ok (.istore 4, 2) := by decide +kernel
theorem dX4_addOctets_29 : decode cX4_addOctets 29 = .ok (.iload 4, 2) := by decide +kernel
theorem dX4_addOctets_31 : decode cX4_addOctets 31 = .ok (.ifCond .lt 41, 3) := by decide +kernel
theorem dX4_addOctets_34 : decode cX4_addOctets 34 = .ok (.aload_n 0, 1) := by decide +kernel
theorem dX4_addOctets_35 : decode cX4_addOctets 35 = .ok (.getfield 11, 3) := by decide +kernel
theorem dX4_addOctets_38 : decode cX4_addOctets 38 = .ok (.aload_n 0, 1) := by decide +kernel
theorem dX4_addOctets_39 : decode cX4_addOctets 39 = .ok (.getfield 26, 3) := by decide +kernel
theorem dX4_addOctets_42 : decode cX4_addOctets 42 = .ok (.lload_n 1, 1) := by decide +kernel
theorem dX4_addOctets_43 : decode cX4_addOctets 43 = .ok (.bipush 8, 2) := by decide +kernel
theorem dX4_addOctets_45 : decode cX4_addOctets 45 = .ok (.iload 4, 2) := by decide +kernel
theorem dX4_addOctets_47 : decode cX4_addOctets 47 = .ok (.imul, 1) := by decide +kernel
theorem dX4_addOctets_48 : decode cX4_addOctets 48 = .ok (.lushr, 1) := by decide +kernel
theorem dX4_addOctets_49 : decode cX4_addOctets 49 = .ok (.ldc2_w 30, 3) := by decide +kernel
theorem dX4_addOctets_52 : decode cX4_addOctets 52 = .ok (.land, 1) := by decide +kernel
theorem dX4_addOctets_53 : decode cX4_addOctets 53 = .ok (.l2i, 1) := by decide +kernel
theorem dX4_addOctets_54 : decode cX4_addOctets 54 = .ok (.i2c, 1) := by decide +kernel
theorem dX4_addOctets_55 : decode cX4_addOctets 55 = .ok (.castore, 1) := by decide +kernel
theorem dX4_addOctets_56 : decode cX4_addOctets 56 = .ok (.aload_n 0, 1) := by decide +kernel
theorem dX4_addOctets_57 : decode cX4_addOctets 57 = .ok (.dup, 1) := by decide +kernel
theorem dX4_addOctets_58 : decode cX4_addOctets 58 = .ok (.getfield 26, 3) := by decide +kernel
theorem dX4_addOctets_61 : decode cX4_addOctets 61 = .ok (.iconst 1, 1) := by decide +kernel
theorem dX4_addOctets_62 : decode cX4_addOctets 62 = .ok (.iadd, 1) := by decide +kernel
theorem dX4_addOctets_63 : decode cX4_addOctets 63 = .ok (.putfield 26, 3) := by decide +kernel
theorem dX4_addOctets_66 : decode cX4_addOctets 66 = .ok (.iinc 4 (-1), 3) := by decide +kernel
theorem dX4_addOctets_69 : decode cX4_addOctets 69 = .ok (.goto (-40), 3) := by decide +kernel
theorem dX4_addOctets_72 : decode cX4_addOctets 72 = .ok (.aload_n 0, 1) := by decide +kernel
theorem dX4_addOctets_73 : decode cX4_addOctets 73 = .ok (.getfield 26, 3) := by decide +kernel
theorem dX4_addOctets_76 : decode cX4_addOctets 76 = .ok (.ireturn, 1) := by decide +kernel
theorem cc_X4_addOctets : Cond.code yX4_addOctets cX4_addOctets 5 (some .int) ∈ rf_tb := rf_at 746 (by decide +kernel) (by decide +kernel)
theorem kc_RX4_30 : Cond.constantLong RX4 30 (255 : Int64) ∈ rf_tb := rf_at 747 (by decide +kernel) (by decide +kernel)
noncomputable def lc_X4_addOctets_29 (a : Nat) (x1 : Int64) (x4 : Int32) (σ : cl_S) : Option ((Int32 × cl_S) ⊕ (Int32 × cl_S)) := (if x4 < 0 then some (.inr (x4, σ)) else ix (σ.1 a 1) 6000 (vl (cl_w σ (a + 1) (σ.1 a 1).toNatClampNeg (vp_nar .char ((((((x1.toUInt64 >>> (((8:Int32) * x4).toInt64.toUInt64 &&& Int64.toUInt64 63)).toInt64) &&& (255:Int64)).toInt32).toUInt32 % 65536).toInt32))) (fun σ_5 => vl (cl_w σ_5 a 1 ((σ_5.1 a 1) + (1:Int32))) (fun σ_10 => vl (x4 + (-1:Int32)) (fun x4_14 => some (.inl (x4_14, σ_10)))))))
noncomputable def ec_X4_addOctets_29 (a : Nat) (x1 : Int64) (x4 : Int32) (σ : cl_S) : Option (Int32 × cl_S) := some ((σ.1 a 1), σ)
noncomputable def bc_X4_addOctets_29 (a : Nat) (x1 : Int64) (x4 : Int32) (σ : cl_S) : Option (Int32 × cl_S) := (lp (fun z : (Int32 × cl_S) => lc_X4_addOctets_29 a x1 z.1 z.2) (x4, σ)).bind (fun z => ec_X4_addOctets_29 a x1 z.1 z.2)
set_option maxHeartbeats 4000000 in
theorem wc_X4_addOctets_29 (C : cl_C D p s m args meth c cX4_addOctets 5 (some .int) RX4) {r : Int32} {a : Nat} {x1 : Int64} {x4 : Int32} {σ0 σ σ' : cl_S} {T : Nat → Nat × Nat} {H : Heap} {locs : List Loc} {ls : Array Slot} {cells slots : Nat} (h : bc_X4_addOctets_29 a x1 x4 σ = some (r, σ')) (G : cl_G true D c0 ({ frames := 0, cells := σ0.2.2.2.2.2.1, slots := σ0.2.2.2.2.2.2, locals := 0 }) s σ0.2.2.2.1 T σ H locs cells slots) (ha : (T a).1 = 20) (hl : lv_has ls 5 [(0, .ref (c0 + a)), (1, .long x1), (4, .int x4)]) : W p l e ({ frames := 0, cells := σ0.2.2.2.2.2.1, slots := σ0.2.2.2.2.2.2, locals := 0 }) s m args below meth c H locs cells slots (MQ below (cl_Q true D c0 (some (.int r)) cl_no σ0 σ') args s (σ0.2.2.2.2.2.1 - σ'.2.2.2.2.2.1) (σ0.2.2.2.2.2.2 - σ'.2.2.2.2.2.2) (cl_A c0 σ0.2.2.2.1 s.heap.size)) (F0 m 29 ls []) := by
  unfold bc_X4_addOctets_29 at h
  obtain ⟨y, hy, h⟩ := bd_some h
  have hE : (fun z : (Int32 × cl_S) => ∀ (T : Nat → Nat × Nat) (H : Heap) (locs : List Loc) (ls : Array Slot) (cells slots : Nat), cl_G true D c0 ({ frames := 0, cells := σ0.2.2.2.2.2.1, slots := σ0.2.2.2.2.2.2, locals := 0 }) s σ0.2.2.2.1 T z.2 H locs cells slots → (T a).1 = 20 → lv_has ls 5 [(0, .ref (c0 + a)), (1, .long x1), (4, .int (z.1))] → W p l e ({ frames := 0, cells := σ0.2.2.2.2.2.1, slots := σ0.2.2.2.2.2.2, locals := 0 }) s m args below meth c H locs cells slots (MQ below (cl_Q true D c0 (some (.int r)) cl_no σ0 σ') args s (σ0.2.2.2.2.2.1 - σ'.2.2.2.2.2.1) (σ0.2.2.2.2.2.2 - σ'.2.2.2.2.2.2) (cl_A c0 σ0.2.2.2.1 s.heap.size)) (F0 m 72 ls [])) y := by
    clear hy G ha hl
    intro T H locs ls cells slots G ha hl
    obtain ⟨x4, σ⟩ := y
    dsimp only at h G ha hl
    unfold ec_X4_addOctets_29 at h
    refine lv_aload_n C.1 C.2.1 dX4_addOctets_72 rfl (lv_at hl 0 rfl) ?_
    refine cg_4_26 C G ha dX4_addOctets_73 ?_
    exact cl_iret ⟨rfl, rfl⟩ rfl C G h dX4_addOctets_76
  refine lp_recE (fun z : (Int32 × cl_S) => ∀ (T : Nat → Nat × Nat) (H : Heap) (locs : List Loc) (ls : Array Slot) (cells slots : Nat), cl_G true D c0 ({ frames := 0, cells := σ0.2.2.2.2.2.1, slots := σ0.2.2.2.2.2.2, locals := 0 }) s σ0.2.2.2.1 T z.2 H locs cells slots → (T a).1 = 20 → lv_has ls 5 [(0, .ref (c0 + a)), (1, .long x1), (4, .int (z.1))] → W p l e ({ frames := 0, cells := σ0.2.2.2.2.2.1, slots := σ0.2.2.2.2.2.2, locals := 0 }) s m args below meth c H locs cells slots (MQ below (cl_Q true D c0 (some (.int r)) cl_no σ0 σ') args s (σ0.2.2.2.2.2.1 - σ'.2.2.2.2.2.1) (σ0.2.2.2.2.2.2 - σ'.2.2.2.2.2.2) (cl_A c0 σ0.2.2.2.1 s.heap.size)) (F0 m 29 ls [])) (fun z : (Int32 × cl_S) => ∀ (T : Nat → Nat × Nat) (H : Heap) (locs : List Loc) (ls : Array Slot) (cells slots : Nat), cl_G true D c0 ({ frames := 0, cells := σ0.2.2.2.2.2.1, slots := σ0.2.2.2.2.2.2, locals := 0 }) s σ0.2.2.2.1 T z.2 H locs cells slots → (T a).1 = 20 → lv_has ls 5 [(0, .ref (c0 + a)), (1, .long x1), (4, .int (z.1))] → W p l e ({ frames := 0, cells := σ0.2.2.2.2.2.1, slots := σ0.2.2.2.2.2.2, locals := 0 }) s m args below meth c H locs cells slots (MQ below (cl_Q true D c0 (some (.int r)) cl_no σ0 σ') args s (σ0.2.2.2.2.2.1 - σ'.2.2.2.2.2.1) (σ0.2.2.2.2.2.2 - σ'.2.2.2.2.2.2) (cl_A c0 σ0.2.2.2.1 s.heap.size)) (F0 m 72 ls [])) ?_ _ _ hy hE _ _ _ _ _ _ G ha hl
  clear hE hy G ha hl h
  intro z o h hP T H locs ls cells slots G ha hl
  obtain ⟨x4, σ⟩ := z
  dsimp only at h G ha hl
  unfold lc_X4_addOctets_29 at h
  refine lv_iload C.1 C.2.1 dX4_addOctets_29 (lv_at hl 2 rfl) ?_
  refine lv_if_lt (tgt := 72) C.1 C.2.1 dX4_addOctets_31 (by decide) (fun hc => ?_) (fun hc => ?_)
  · rw [if_pos hc] at h
    cases h
    exact hP _ _ _ _ _ _ G ha (lv_sub hl [0, 1, 2] rfl)
  · rw [if_neg hc] at h
    refine lv_aload_n C.1 C.2.1 dX4_addOctets_34 rfl (lv_at hl 0 rfl) ?_
    refine cg_4_11 C G ha dX4_addOctets_35 (fun t_4 => ?_)
    refine lv_aload_n C.1 C.2.1 dX4_addOctets_38 rfl (lv_at hl 0 rfl) ?_
    refine cg_4_26 C G ha dX4_addOctets_39 ?_
    refine lv_lload_n C.1 C.2.1 dX4_addOctets_42 rfl (lv_at hl 1 rfl) ?_
    refine lv_bipush (v := (8:Int32)) C.1 C.2.1 dX4_addOctets_43 (by decide) ?_
    refine lv_iload C.1 C.2.1 dX4_addOctets_45 (lv_at hl 2 rfl) ?_
    refine lv_imul C.1 C.2.1 dX4_addOctets_47 ?_
    refine lv_lushr C.1 C.2.1 dX4_addOctets_48 rfl ?_
    refine lv_ldc2 (v := (255:Int64)) C.1 C.2.1 C.2.2.2.1 (C.2.2.2.2.1 _ kc_RX4_30) dX4_addOctets_49 ?_
    refine lv_land C.1 C.2.1 dX4_addOctets_52 ?_
    refine lv_l2i C.1 C.2.1 dX4_addOctets_53 rfl ?_
    refine lv_i2c C.1 C.2.1 dX4_addOctets_54 rfl ?_
    obtain ⟨hi, h_6⟩ := ix_some h
    refine cl_cast C G t_4 hi dX4_addOctets_55 (fun H locs G_7 => ?_)
    refine cl_nm G_7 h_6 (fun σ_5 G_8 h_9 => ?_)
    refine lv_aload_n C.1 C.2.1 dX4_addOctets_56 rfl (lv_at hl 0 rfl) ?_
    refine lv_dup C.1 C.2.1 dX4_addOctets_57 rfl ?_
    refine cg_4_26 C G_8 ha dX4_addOctets_58 ?_
    refine lv_iconst (v := (1:Int32)) C.1 C.2.1 dX4_addOctets_61 (by decide) ?_
    refine lv_iadd C.1 C.2.1 dX4_addOctets_62 ?_
    refine cp_4_26 C G_8 ha dX4_addOctets_63 (fun H locs G_11 => ?_)
    refine cl_nm G_11 h_9 (fun σ_10 G_12 h_13 => ?_)
    refine vl_ex h_13 (fun x4_14 ey h_15 => ?_)
    refine lv_iinc (v := x4_14) (lv' := [(4, .int x4_14), (0, .ref (c0 + a)), (1, .long x1)]) C.1 C.2.1 dX4_addOctets_66 hl (k := 2) rfl (by rw [ey]; rfl) (by decide) rfl (fun ls hl_16 => ?_)
    refine lv_goto (tgt := 29) C.1 C.2.1 dX4_addOctets_69 (by decide) ?_
    cases h_15
    exact hP _ _ _ _ _ _ G_12 ha (lv_sub hl_16 [1, 2, 0] rfl)
noncomputable def bc_X4_addOctets_9 (a : Nat) (x1 : Int64) (x3 : Int32) (σ : cl_S) : Option (Int32 × cl_S) := (if ((σ.1 a 1) + x3) ≤ (6000:Int32) then vl (x3 - (1:Int32)) (fun x4_1 => bc_X4_addOctets_29 a x1 x4_1 σ) else some ((-4:Int32), σ))
set_option maxHeartbeats 4000000 in
theorem wc_X4_addOctets_9 (C : cl_C D p s m args meth c cX4_addOctets 5 (some .int) RX4) {r : Int32} {a : Nat} {x1 : Int64} {x3 : Int32} {σ0 σ σ' : cl_S} {T : Nat → Nat × Nat} {H : Heap} {locs : List Loc} {ls : Array Slot} {cells slots : Nat} (h : bc_X4_addOctets_9 a x1 x3 σ = some (r, σ')) (G : cl_G true D c0 ({ frames := 0, cells := σ0.2.2.2.2.2.1, slots := σ0.2.2.2.2.2.2, locals := 0 }) s σ0.2.2.2.1 T σ H locs cells slots) (ha : (T a).1 = 20) (hl : lv_has ls 5 [(0, .ref (c0 + a)), (1, .long x1), (3, .int x3)]) : W p l e ({ frames := 0, cells := σ0.2.2.2.2.2.1, slots := σ0.2.2.2.2.2.2, locals := 0 }) s m args below meth c H locs cells slots (MQ below (cl_Q true D c0 (some (.int r)) cl_no σ0 σ') args s (σ0.2.2.2.2.2.1 - σ'.2.2.2.2.2.1) (σ0.2.2.2.2.2.2 - σ'.2.2.2.2.2.2) (cl_A c0 σ0.2.2.2.1 s.heap.size)) (F0 m 9 ls []) := by
  unfold bc_X4_addOctets_9 at h
  refine lv_aload_n C.1 C.2.1 dX4_addOctets_9 rfl (lv_at hl 0 rfl) ?_
  refine cg_4_26 C G ha dX4_addOctets_10 ?_
  refine lv_iload_n C.1 C.2.1 dX4_addOctets_13 rfl (lv_at hl 2 rfl) ?_
  refine lv_iadd C.1 C.2.1 dX4_addOctets_14 ?_
  refine lv_sipush (v := (6000:Int32)) C.1 C.2.1 dX4_addOctets_15 (by decide) ?_
  refine lv_icmp_le (tgt := 24) C.1 C.2.1 dX4_addOctets_18 (by decide) (fun hc => ?_) (fun hc => ?_)
  · rw [if_pos hc] at h
    refine lv_iload_n C.1 C.2.1 dX4_addOctets_24 rfl (lv_at hl 2 rfl) ?_
    refine lv_iconst (v := (1:Int32)) C.1 C.2.1 dX4_addOctets_25 (by decide) ?_
    refine lv_isub C.1 C.2.1 dX4_addOctets_26 ?_
    refine vt_i h (fun x4_1 h_2 => ?_)
    refine lv_istore (lv' := [(4, .int x4_1), (0, .ref (c0 + a)), (1, .long x1), (3, .int x3)]) C.1 C.2.1 dX4_addOctets_27 hl (by decide) rfl (fun ls hl_3 => ?_)
    exact wc_X4_addOctets_29 C h_2 G ha (lv_sub hl_3 [1, 2, 0] rfl)
  · rw [if_neg hc] at h
    refine lv_bipush (v := (-4:Int32)) C.1 C.2.1 dX4_addOctets_21 (by decide) ?_
    exact cl_iret ⟨rfl, rfl⟩ rfl C G h dX4_addOctets_23
noncomputable def bc_X4_addOctets_0 (a : Nat) (x1 : Int64) (x3 : Int32) (σ : cl_S) : Option (Int32 × cl_S) := (if x3 = 0 then vl (cl_w σ a 1 (0:Int32)) (fun σ_17 => bc_X4_addOctets_9 a x1 x3 σ_17) else bc_X4_addOctets_9 a x1 x3 σ)
set_option maxHeartbeats 4000000 in
theorem wc_X4_addOctets_0 (C : cl_C D p s m args meth c cX4_addOctets 5 (some .int) RX4) {r : Int32} {a : Nat} {x1 : Int64} {x3 : Int32} {σ0 σ σ' : cl_S} {T : Nat → Nat × Nat} {H : Heap} {locs : List Loc} {ls : Array Slot} {cells slots : Nat} (h : bc_X4_addOctets_0 a x1 x3 σ = some (r, σ')) (G : cl_G true D c0 ({ frames := 0, cells := σ0.2.2.2.2.2.1, slots := σ0.2.2.2.2.2.2, locals := 0 }) s σ0.2.2.2.1 T σ H locs cells slots) (ha : (T a).1 = 20) (hl : lv_has ls 5 [(0, .ref (c0 + a)), (1, .long x1), (3, .int x3)]) : W p l e ({ frames := 0, cells := σ0.2.2.2.2.2.1, slots := σ0.2.2.2.2.2.2, locals := 0 }) s m args below meth c H locs cells slots (MQ below (cl_Q true D c0 (some (.int r)) cl_no σ0 σ') args s (σ0.2.2.2.2.2.1 - σ'.2.2.2.2.2.1) (σ0.2.2.2.2.2.2 - σ'.2.2.2.2.2.2) (cl_A c0 σ0.2.2.2.1 s.heap.size)) (F0 m 0 ls []) := by
  unfold bc_X4_addOctets_0 at h
  refine lv_iload_n C.1 C.2.1 dX4_addOctets_0 rfl (lv_at hl 2 rfl) ?_
  refine lv_if_ne (tgt := 9) C.1 C.2.1 dX4_addOctets_1 (by decide) (fun hc => ?_) (fun hc => ?_)
  · rw [if_neg hc] at h
    exact wc_X4_addOctets_9 C h G ha (lv_sub hl [0, 1, 2] rfl)
  · rw [if_pos hc] at h
    refine lv_aload_n C.1 C.2.1 dX4_addOctets_4 rfl (lv_at hl 0 rfl) ?_
    refine lv_iconst (v := (0:Int32)) C.1 C.2.1 dX4_addOctets_5 (by decide) ?_
    refine cp_4_26 C G ha dX4_addOctets_6 (fun H locs G_18 => ?_)
    refine cl_nm G_18 h (fun σ_17 G_19 h_20 => ?_)
    exact wc_X4_addOctets_9 C h_20 G_19 ha (lv_sub hl [0, 1, 2] rfl)
noncomputable def fc_X4_addOctets (a : Nat) (x1 : Int64) (x3 : Int32) (σ : cl_S) : Option (Int32 × cl_S) := bc_X4_addOctets_0 a x1 x3 σ
theorem kc_X4_addOctets (l : Launch) (D : cl_D) (c0 : Nat) {r : Int32} {a : Nat} {x1 : Int64} {x3 : Int32} {σ σ' : cl_S} (ha : (σ.2.2.2.1 a).1 = 20) (h : fc_X4_addOctets a x1 x3 σ = some (r, σ')) : cl_Met true l D c0 yX4_addOctets cX4_addOctets 5 (some .int) 0 0 [.ref (c0 + a), .long x1, .int x3] σ (some (.int r)) cl_no σ' :=
  cl_of (by decide) (Nat.le_of_ble_eq_true rfl) (fun p e s m args below meth c ls C hn G hl => wc_X4_addOctets_0 C h G ha hl)
abbrev cX8_init : ByteArray := prog_10_method_1_code
def yX8_init : MethodName := ⟨RX8, "<init>", "(LPartHouse$Terms;IIZ)V"⟩
theorem dX8_init_0 : decode cX8_init 0 = .ok (.aload_n 0, 1) := by decide +kernel
theorem dX8_init_1 : decode cX8_init 1 = .ok (.invokespecial 3, 3) := by decide +kernel
theorem dX8_init_4 : decode cX8_init 4 = .ok (.aload_n 0, 1) := by decide +kernel
theorem dX8_init_5 : decode cX8_init 5 = .ok (.aload_n 1, 1) := by decide +kernel
theorem dX8_init_6 : decode cX8_init 6 = .ok (.putfield 9, 3) := by decide +kernel
theorem dX8_init_9 : decode cX8_init 9 = .ok (.aload_n 0, 1) := by decide +kernel
theorem dX8_init_10 : decode cX8_init 10 = .ok (.iload_n 2, 1) := by decide +kernel
theorem dX8_init_11 : decode cX8_init 11 = .ok (.putfield 15, 3) := by decide +kernel
theorem dX8_init_14 : decode cX8_init 14 = .ok (.aload_n 0, 1) := by decide +kernel
theorem dX8_init_15 : decode cX8_init 15 = .ok (.iload 4, 2) := by decide +kernel
theorem dX8_init_17 : decode cX8_init 17 = .ok (.putfield 19, 3) := by decide +kernel
theorem dX8_init_20 : decode cX8_init 20 = .ok (.aload_n 0, 1) := by decide +kernel
theorem dX8_init_21 : decode cX8_init 21 = .ok (.iload_n 2, 1) := by decide +kernel
theorem dX8_init_22 : decode cX8_init 22 = .ok (.iconst 1, 1) := by decide +kernel
theorem dX8_init_23 : decode cX8_init 23 = .ok (.iadd, 1) := by decide +kernel
theorem dX8_init_24 : decode cX8_init 24 = .ok (.anewarray 23, 3) := by decide +kernel
theorem dX8_init_27 : decode cX8_init 27 = .ok (.putfield 25, 3) := by decide +kernel
theorem dX8_init_30 : decode cX8_init 30 = .ok (.aload_n 0, 1) := by decide +kernel
theorem dX8_init_31 : decode cX8_init 31 = .ok (.iload_n 3, 1) := by decide +kernel
theorem dX8_init_32 : decode cX8_init 32 = .ok (.newarray .int, 2) := by decide +kernel
theorem dX8_init_34 : decode cX8_init 34 = .ok (.putfield 29, 3) := by decide +kernel
theorem dX8_init_37 : decode cX8_init 37 = .ok (.return_, 1) := by decide +kernel
theorem cc_X8_init : Cond.code yX8_init cX8_init 5 none ∈ rf_tb := rf_at 363 (by decide +kernel) (by decide +kernel)
theorem cl_RX8_23 : Cond.classLink RX8 23 "PartHouse$Term" ∈ rf_tb := rf_at 365 (by decide +kernel) (by decide +kernel)
theorem oi_RX8_3 : Cond.methodLink RX8 3 Lib.objectInit ∈ rf_tb := rf_at 364 (by decide +kernel) (by decide +kernel)
noncomputable def bc_X8_init_0 (a : Nat) (x1 : (Option Nat)) (x2 : Int32) (x3 : Int32) (x4 : Int32) (σ : cl_S) : Option (cl_S) := vl (cl_wr σ a 0 x1) (fun σ_1 => vl (cl_w σ_1 a 1 x2) (fun σ_5 => nb x4 (vl (cl_w σ_5 a 2 x4) (fun σ_9 => nag (x2 + (1:Int32)) (al σ_9 (x2 + (1:Int32)).toNatClampNeg (vl σ_9.2.2.2.2.1 (fun a_14 => vl (cl_nw σ_9 4 (x2 + (1:Int32)).toNatClampNeg (x2 + (1:Int32)).toNatClampNeg) (fun σ_15 => vl (cl_wr σ_15 a 3 (some a_14)) (fun σ_24 => nag x3 (al σ_24 x3.toNatClampNeg (vl σ_24.2.2.2.2.1 (fun a_28 => vl (cl_nw σ_24 1 x3.toNatClampNeg x3.toNatClampNeg) (fun σ_29 => vl (cl_wr σ_29 a 4 (some a_28)) (fun σ_38 => some σ_38))))))))))))))
set_option maxHeartbeats 4000000 in
theorem wc_X8_init_0 (C : cl_C D p s m args meth c cX8_init 5 none RX8) (hn9 : meth.name = "<init>") {a : Nat} {x1 : (Option Nat)} {x2 : Int32} {x3 : Int32} {x4 : Int32} {σ0 σ σ' : cl_S} {T : Nat → Nat × Nat} {H : Heap} {locs : List Loc} {ls : Array Slot} {cells slots : Nat} (h : bc_X8_init_0 a x1 x2 x3 x4 σ = some σ') (G : cl_G true D c0 ({ frames := 1, cells := σ0.2.2.2.2.2.1, slots := σ0.2.2.2.2.2.2, locals := 20 }) s σ0.2.2.2.1 T σ H locs cells slots) (ha : (T a).1 = 124) (f1 : cl_RT T x1 26) (hl : lv_has ls 5 [(0, .ref (c0 + a)), (1, cl_rf c0 x1), (2, .int x2), (3, .int x3), (4, .int x4)]) : W p l e ({ frames := 1, cells := σ0.2.2.2.2.2.1, slots := σ0.2.2.2.2.2.2, locals := 20 }) s m args below meth c H locs cells slots (MQ below (cl_Q true D c0 none cl_no σ0 σ') args s (σ0.2.2.2.2.2.1 - σ'.2.2.2.2.2.1) (σ0.2.2.2.2.2.2 - σ'.2.2.2.2.2.2) (cl_A c0 σ0.2.2.2.1 s.heap.size)) (F0 m 0 ls []) := by
  unfold bc_X8_init_0 at h
  refine lv_aload_n C.1 C.2.1 dX8_init_0 rfl (lv_at hl 0 rfl) ?_
  refine W.objInit (rest := []) C.1 C.2.1 C.2.2.2.1 (C.2.2.2.2.1 _ oi_RX8_3) (C.2.2.2.2.1 _ oi_i) (C.2.2.2.2.1 _ oi_c) rfl (by rw [C.2.2.1]; exact hl.1) rfl dX8_init_1 (Nat.le_of_ble_eq_true rfl) (Nat.le_of_ble_eq_true rfl) ?_
  refine W.eq (g2 := F0 m 4 ls []) rfl ?_
  refine lv_aload_n C.1 C.2.1 dX8_init_4 rfl (lv_at hl 0 rfl) ?_
  refine cl_aload_n C.1 C.2.1 dX8_init_5 rfl (lv_at hl 1 rfl) ?_
  refine rp_8_9 (x := x1) C hn9 G ha f1 dX8_init_6 (fun H locs G_2 => ?_)
  refine cl_nm G_2 h (fun σ_1 G_3 h_4 => ?_)
  refine lv_aload_n C.1 C.2.1 dX8_init_9 rfl (lv_at hl 0 rfl) ?_
  refine lv_iload_n C.1 C.2.1 dX8_init_10 rfl (lv_at hl 2 rfl) ?_
  refine rp_8_15 C hn9 G_3 ha dX8_init_11 (fun H locs G_6 => ?_)
  refine cl_nm G_6 h_4 (fun σ_5 G_7 h_8 => ?_)
  refine lv_aload_n C.1 C.2.1 dX8_init_14 rfl (lv_at hl 0 rfl) ?_
  refine lv_iload C.1 C.2.1 dX8_init_15 (lv_at hl 4 rfl) ?_
  obtain ⟨hnb, h_10⟩ := nb_some h_8
  refine rp_8_19 C hn9 G_7 ha hnb (cl_fitz hnb) dX8_init_17 (fun H locs G_11 => ?_)
  refine cl_nm G_11 h_10 (fun σ_9 G_12 h_13 => ?_)
  refine lv_aload_n C.1 C.2.1 dX8_init_20 rfl (lv_at hl 0 rfl) ?_
  refine lv_iload_n C.1 C.2.1 dX8_init_21 rfl (lv_at hl 2 rfl) ?_
  refine lv_iconst (v := (1:Int32)) C.1 C.2.1 dX8_init_22 (by decide) ?_
  refine lv_iadd C.1 C.2.1 dX8_init_23 ?_
  obtain ⟨hng, h_18⟩ := nag_some h_13
  obtain ⟨hal, h_19⟩ := al_some h_18
  refine cl_newq (t := 4) C G_12 (by decide) (by decide) rfl C.2.2.2.2.2.1.2.2.2.2.1 cl_RX8_23 hng.1 rfl (by have := hng.2; omega) hal dX8_init_24 (fun T_17 H cells slots t_16 hu G_20 => ?_)
  have ha := hu.kind ha (by decide)
  have f1 := f1.up hu (by decide)
  refine cl_nmB h_19 t_16 (fun a_14 t_16 h_21 => ?_)
  refine cl_nm G_20 h_21 (fun σ_15 G_22 h_23 => ?_)
  refine rp_8_25 (x := (some a_14)) C hn9 G_22 ha (cl_RTs (by rw [t_16])) dX8_init_27 (fun H locs G_25 => ?_)
  refine cl_nm G_25 h_23 (fun σ_24 G_26 h_27 => ?_)
  refine lv_aload_n C.1 C.2.1 dX8_init_30 rfl (lv_at hl 0 rfl) ?_
  refine lv_iload_n C.1 C.2.1 dX8_init_31 rfl (lv_at hl 3 rfl) ?_
  obtain ⟨hng, h_32⟩ := nag_some h_27
  obtain ⟨hal, h_33⟩ := al_some h_32
  refine cl_newa (t := 1) C G_26 (by decide) (by decide) .int rfl aw_1 hng.1 rfl (cl_bytes hng.2 (by decide) (by decide)) hal dX8_init_32 (fun T_31 H cells slots t_30 hu G_34 => ?_)
  have ha := hu.kind ha (by decide)
  have f1 := f1.up hu (by decide)
  refine cl_nmB h_33 t_30 (fun a_28 t_30 h_35 => ?_)
  refine cl_nm G_34 h_35 (fun σ_29 G_36 h_37 => ?_)
  refine rp_8_29 (x := (some a_28)) C hn9 G_36 ha (cl_RTs (by rw [t_30])) dX8_init_34 (fun H locs G_39 => ?_)
  refine cl_nm G_39 h_37 (fun σ_38 G_40 h_41 => ?_)
  exact cl_vret ⟨rfl, rfl⟩ rfl C G_40 h_41 dX8_init_37
noncomputable def fc_X8_init (a : Nat) (x1 : (Option Nat)) (x2 : Int32) (x3 : Int32) (x4 : Int32) (σ : cl_S) : Option (cl_S) := bc_X8_init_0 a x1 x2 x3 x4 σ
theorem kc_X8_init (l : Launch) (D : cl_D) (c0 : Nat) {a : Nat} {x1 : (Option Nat)} {x2 : Int32} {x3 : Int32} {x4 : Int32} {σ σ' : cl_S} (ha : (σ.2.2.2.1 a).1 = 124) (h : fc_X8_init a x1 x2 x3 x4 σ = some σ') (f1 : cl_RT σ.2.2.2.1 x1 26) : cl_Met true l D c0 yX8_init cX8_init 5 none 1 20 [.ref (c0 + a), cl_rf c0 x1, .int x2, .int x3, .int x4] σ none cl_no σ' :=
  by cases x1 <;> exact cl_of (by decide) (Nat.le_of_ble_eq_true rfl) (fun p e s m args below meth c ls C hn G hl => wc_X8_init_0 C hn h G ha f1 hl)
abbrev cX6_init : ByteArray := prog_8_method_1_code
def yX6_init : MethodName := ⟨RX6, "<init>", "(LPartHouse$Terms;I)V"⟩
theorem dX6_init_0 : decode cX6_init 0 = .ok (.aload_n 0, 1) := by decide +kernel
theorem dX6_init_1 : decode cX6_init 1 = .ok (.invokespecial 3, 3) := by decide +kernel
theorem dX6_init_4 : decode cX6_init 4 = .ok (.aload_n 0, 1) := by decide +kernel
theorem dX6_init_5 : decode cX6_init 5 = .ok (.new 9, 3) := by decide +kernel
theorem dX6_init_8 : decode cX6_init 8 = .ok (.dup, 1) := by decide +kernel
theorem dX6_init_9 : decode cX6_init 9 = .ok (.invokespecial 11, 3) := by decide +kernel
theorem dX6_init_12 : decode cX6_init 12 = .ok (.putfield 12, 3) := by decide +kernel
theorem dX6_init_15 : decode cX6_init 15 = .ok (.aload_n 0, 1) := by decide +kernel
theorem dX6_init_16 : decode cX6_init 16 = .ok (.sipush 200, 3) := by decide +kernel
theorem dX6_init_19 : decode cX6_init 19 = .ok (.newarray .int, 2) := by decide +kernel
theorem dX6_init_21 : decode cX6_init 21 = .ok (.putfield 18, 3) := by decide +kernel
theorem dX6_init_24 : decode cX6_init 24 = .ok (.aload_n 0, 1) := by decide +kernel
theorem dX6_init_25 : decode cX6_init 25 = .ok (.sipush 200, 3) := by decide +kernel
theorem dX6_init_28 : decode cX6_init 28 = .ok (.anewarray 22, 3) := by decide +kernel
theorem dX6_init_31 : decode cX6_init 31 = .ok (.putfield 24, 3) := by decide +kernel
theorem dX6_init_34 : decode cX6_init 34 = .ok (.aload_n 0, 1) := by decide +kernel
theorem dX6_init_35 : decode cX6_init 35 = .ok (.bipush 64, 2) := by decide +kernel
theorem dX6_init_37 : decode cX6_init 37 = .ok (.newarray .int, 2) := by decide +kernel
theorem dX6_init_39 : decode cX6_init 39 = .ok (.putfield 28, 3) := by decide +kernel
theorem dX6_init_42 : decode cX6_init 42 = .ok (.aload_n 0, 1) := by decide +kernel
theorem dX6_init_43 : decode cX6_init 43 = .ok (.bipush 64, 2) := by decide +kernel
theorem dX6_init_45 : decode cX6_init 45 = .ok (.anewarray 22, 3) := by decide +kernel
theorem dX6_init_48 : decode cX6_init 48 = .ok (.putfield 31, 3) := by decide +kernel
theorem dX6_init_51 : decode cX6_init 51 = .ok (.aload_n 0, 1) := by decide +kernel
theorem dX6_init_52 : decode cX6_init 52 = .ok (.bipush 100, 2) := by decide +kernel
theorem dX6_init_54 : decode cX6_init 54 = .ok (.anewarray 22, 3) := by decide +kernel
theorem dX6_init_57 : decode cX6_init 57 = .ok (.putfield 34, 3) := by decide +kernel
theorem dX6_init_60 : decode cX6_init 60 = .ok (.aload_n 0, 1) := by decide +kernel
theorem dX6_init_61 : decode cX6_init 61 = .ok (.aload_n 1, 1) := by decide +kernel
theorem dX6_init_62 : decode cX6_init 62 = .ok (.putfield 37, 3) := by decide +kernel
theorem dX6_init_65 : decode cX6_init 65 = .ok (.aload_n 0, 1) := by decide +kernel
theorem dX6_init_66 : decode cX6_init 66 = .ok (.iload_n 2, 1) := by decide +kernel
theorem dX6_init_67 : decode cX6_init 67 = .ok (.putfield 41, 3) := by decide +kernel
theorem dX6_init_70 : decode cX6_init 70 = .ok (.aload_n 0, 1) := by decide +kernel
theorem dX6_init_71 : decode cX6_init 71 = .ok (.new 45, 3) := by decide +kernel
theorem dX6_init_74 : decode cX6_init 74 = .ok (.dup, 1) := by decide +kernel
theorem dX6_init_75 : decode cX6_init 75 = .ok (.aload_n 1, 1) := by decide +kernel
theorem dX6_init_76 : decode cX6_init 76 = .ok (.bipush 100, 2) := by decide +kernel
theorem dX6_init_78 : decode cX6_init 78 = .ok (.sipush 256, 3) := by decide +kernel
theorem dX6_init_81 : decode cX6_init 81 = .ok (.iconst 0, 1) := by decide +kernel
theorem dX6_init_82 : decode cX6_init 82 = .ok (.invokespecial 47, 3) := by decide +kernel
theorem dX6_init_85 : decode cX6_init 85 = .ok (.putfield 50, 3) := by decide +kernel
theorem dX6_init_88 : decode cX6_init 88 = .ok (.aload_n 0, 1) := by decide +kernel
theorem dX6_init_89 : decode cX6_init 89 = .ok (.aload_n 1, 1) := by decide +kernel
theorem dX6_init_90 : decode cX6_init 90 = .ok (.getfield 54, 3) := by decide +kernel
theorem dX6_init_93 : decode cX6_init 93 = .ok (.putfield 60, 3) := by decide +kernel
theorem dX6_init_96 : decode cX6_init 96 = .ok (.aload_n 0, 1) := by decide +kernel
theorem dX6_init_97 : decode cX6_init 97 = .ok (.aload_n 1, 1) := by decide +kernel
theorem dX6_init_98 : decode cX6_init 98 = .ok (.getfield 54, 3) := by decide +kernel
theorem dX6_init_101 : decode cX6_init 101 = .ok (.putfield 63, 3) := by decide +kernel
theorem dX6_init_104 : decode cX6_init 104 = .ok (.aload_n 0, 1) := by decide +kernel
theorem dX6_init_105 : decode cX6_init 105 = .ok (.aload_n 1, 1) := by decide +kernel
theorem dX6_init_106 : decode cX6_init 106 = .ok (.getfield 54, 3) := by decide +kernel
theorem dX6_init_109 : decode cX6_init 109 = .ok (.putfield 66, 3) := by decide +kernel
theorem dX6_init_112 : decode cX6_init 112 = .ok (.return_, 1) := by decide +kernel
theorem cc_X6_init : Cond.code yX6_init cX6_init 3 none ∈ rf_tb := rf_at 492 (by decide +kernel) (by decide +kernel)
theorem cw_RX6_11 : (Cond.instanceMethod yX2_init ∈ rf_tb ∧ Cond.code yX2_init cX2_init 1 none ∈ rf_tb ∧ Cond.initialized yX2_init.cls ∈ rf_tb) ∧ yX2_init.name = "<init>" ∧ (yX2_init.cls ≠ "java/lang/invoke/MethodHandle" ∧ yX2_init.cls ≠ "java/lang/invoke/VarHandle" ∧ (parseMethodDescriptor yX2_init.desc).map (fun d => d.parameters.length) = some 0) := ⟨⟨rf_at 497 (by decide +kernel) (by decide +kernel), cc_X2_init, rf_at 16 (by decide +kernel) (by decide +kernel)⟩, rfl, ⟨by decide, by decide, by decide +kernel⟩⟩
theorem cw_RX6_47 : cl_wI RX6 yX8_init cX8_init 5 47 4 := ⟨⟨rf_at 547 (by decide +kernel) (by decide +kernel), rf_at 362 (by decide +kernel) (by decide +kernel), cc_X8_init, rf_at 11 (by decide +kernel) (by decide +kernel)⟩, rfl, ⟨by decide, by decide, by decide +kernel⟩⟩
theorem cl_RX6_22 : Cond.classLink RX6 22 "PartHouse$Term" ∈ rf_tb := rf_at 545 (by decide +kernel) (by decide +kernel)
theorem nw_RX6_9 : Cond.classLink RX6 9 RX2 ∈ rf_tb := rf_at 494 (by decide +kernel) (by decide +kernel)
theorem ni_2 : Cond.instantiable RX2 9 ∈ rf_tb := rf_at 495 (by decide +kernel) (by decide +kernel)
theorem nz_2 : Cond.initialized RX2 ∈ rf_tb := rf_at 16 (by decide +kernel) (by decide +kernel)
theorem nd_2 {c0 zw : Nat} {σ : cl_S} : ∀ k, k < 9 → defaultValue (tyX2 k) = cl_V c0 zw true (cl_nw σ 118 0 9) σ.2.2.2.2.1 2 k := by
  intro k hk
  have h1 : ∀ j, (cl_nw σ 118 0 9).1 σ.2.2.2.2.1 j = 0 := fun j => (by simp [cl_nw, cl_row_eq])
  have h2 : ∀ j, (cl_nw σ 118 0 9).2.1 σ.2.2.2.2.1 j = 0 := fun j => (by simp [cl_nw, cl_row_eq])
  have h3 : ∀ j, (cl_nw σ 118 0 9).2.2.1 σ.2.2.2.2.1 j = none := fun j => (by simp [cl_nw, cl_row_eq])
  unfold cl_V
  rw [h1, h2, h3]
  rcases (show k = 0 ∨ k = 1 ∨ k = 2 ∨ k = 3 ∨ k = 4 ∨ k = 5 ∨ k = 6 ∨ k = 7 ∨ k = 8 by omega) with rfl | rfl | rfl | rfl | rfl | rfl | rfl | rfl | rfl <;> rfl
theorem nw_RX6_45 : Cond.classLink RX6 45 RX8 ∈ rf_tb := rf_at 546 (by decide +kernel) (by decide +kernel)
theorem ni_8 : Cond.instantiable RX8 6 ∈ rf_tb := rf_at 360 (by decide +kernel) (by decide +kernel)
theorem nz_8 : Cond.initialized RX8 ∈ rf_tb := rf_at 11 (by decide +kernel) (by decide +kernel)
theorem nd_8 {c0 zw : Nat} {σ : cl_S} : ∀ k, k < 6 → defaultValue (tyX8 k) = cl_V c0 zw true (cl_nw σ 124 0 6) σ.2.2.2.2.1 8 k := by
  intro k hk
  have h1 : ∀ j, (cl_nw σ 124 0 6).1 σ.2.2.2.2.1 j = 0 := fun j => (by simp [cl_nw, cl_row_eq])
  have h2 : ∀ j, (cl_nw σ 124 0 6).2.1 σ.2.2.2.2.1 j = 0 := fun j => (by simp [cl_nw, cl_row_eq])
  have h3 : ∀ j, (cl_nw σ 124 0 6).2.2.1 σ.2.2.2.2.1 j = none := fun j => (by simp [cl_nw, cl_row_eq])
  unfold cl_V
  rw [h1, h2, h3]
  rcases (show k = 0 ∨ k = 1 ∨ k = 2 ∨ k = 3 ∨ k = 4 ∨ k = 5 by omega) with rfl | rfl | rfl | rfl | rfl | rfl <;> rfl
theorem oi_RX6_3 : Cond.methodLink RX6 3 Lib.objectInit ∈ rf_tb := rf_at 493 (by decide +kernel) (by decide +kernel)
noncomputable def bc_X6_init_0 (a : Nat) (x1 : (Option Nat)) (x2 : Int32) (σ : cl_S) : Option (cl_S) := al σ 9 (vl σ.2.2.2.2.1 (fun a_1 => vl (cl_nw σ 118 0 9) (fun σ_2 => bd1 (fc_X2_init a_1 σ_2) (fun σ_11 => sealed σ_11 a_1 2 (vl (cl_seal σ_11 a_1 2) (fun σ_16 => vl (cl_wr σ_16 a 1 (some a_1)) (fun σ_21 => nag (200:Int32) (al σ_21 (200:Int32).toNatClampNeg (vl σ_21.2.2.2.2.1 (fun a_25 => vl (cl_nw σ_21 1 (200:Int32).toNatClampNeg (200:Int32).toNatClampNeg) (fun σ_26 => vl (cl_wr σ_26 a 4 (some a_25)) (fun σ_35 => nag (200:Int32) (al σ_35 (200:Int32).toNatClampNeg (vl σ_35.2.2.2.2.1 (fun a_39 => vl (cl_nw σ_35 4 (200:Int32).toNatClampNeg (200:Int32).toNatClampNeg) (fun σ_40 => vl (cl_wr σ_40 a 5 (some a_39)) (fun σ_49 => nag (64:Int32) (al σ_49 (64:Int32).toNatClampNeg (vl σ_49.2.2.2.2.1 (fun a_53 => vl (cl_nw σ_49 1 (64:Int32).toNatClampNeg (64:Int32).toNatClampNeg) (fun σ_54 => vl (cl_wr σ_54 a 7 (some a_53)) (fun σ_63 => nag (64:Int32) (al σ_63 (64:Int32).toNatClampNeg (vl σ_63.2.2.2.2.1 (fun a_67 => vl (cl_nw σ_63 4 (64:Int32).toNatClampNeg (64:Int32).toNatClampNeg) (fun σ_68 => vl (cl_wr σ_68 a 9 (some a_67)) (fun σ_77 => nag (100:Int32) (al σ_77 (100:Int32).toNatClampNeg (vl σ_77.2.2.2.2.1 (fun a_81 => vl (cl_nw σ_77 4 (100:Int32).toNatClampNeg (100:Int32).toNatClampNeg) (fun σ_82 => vl (cl_wr σ_82 a 11 (some a_81)) (fun σ_91 => vl (cl_wr σ_91 a 0 x1) (fun σ_95 => vl (cl_w σ_95 a 3 x2) (fun σ_99 => al σ_99 6 (vl σ_99.2.2.2.2.1 (fun a_103 => vl (cl_nw σ_99 124 0 6) (fun σ_104 => bd1 (fc_X8_init a_103 x1 (100:Int32) (256:Int32) (0:Int32) σ_104) (fun σ_113 => sealed σ_113 a_103 8 (vl (cl_seal σ_113 a_103 8) (fun σ_118 => vl (cl_wr σ_118 a 2 (some a_103)) (fun σ_123 => nn x1 (fun a_127 => vl (σ_123.2.2.1 a_127 4) (fun r_131 => vl (cl_wr σ_123 a 15 r_131) (fun σ_134 => vl (σ_134.2.2.1 a_127 4) (fun r_139 => vl (cl_wr σ_134 a 16 r_139) (fun σ_142 => vl (σ_142.2.2.1 a_127 4) (fun r_147 => vl (cl_wr σ_142 a 17 r_147) (fun σ_150 => some σ_150))))))))))))))))))))))))))))))))))))))))))))))))
set_option maxHeartbeats 4000000 in
theorem wc_X6_init_0 (C : cl_C D p s m args meth c cX6_init 3 none RX6) (hn9 : meth.name = "<init>") {a : Nat} {x1 : (Option Nat)} {x2 : Int32} {σ0 σ σ' : cl_S} {T : Nat → Nat × Nat} {H : Heap} {locs : List Loc} {ls : Array Slot} {cells slots : Nat} (h : bc_X6_init_0 a x1 x2 σ = some σ') (G : cl_G true D c0 ({ frames := 2, cells := σ0.2.2.2.2.2.1, slots := σ0.2.2.2.2.2.2, locals := 44 }) s σ0.2.2.2.1 T σ H locs cells slots) (ha : (T a).1 = 122) (f1 : cl_RT T x1 26) (hl : lv_has ls 3 [(0, .ref (c0 + a)), (1, cl_rf c0 x1), (2, .int x2)]) : W p l e ({ frames := 2, cells := σ0.2.2.2.2.2.1, slots := σ0.2.2.2.2.2.2, locals := 44 }) s m args below meth c H locs cells slots (MQ below (cl_Q true D c0 none cl_no σ0 σ') args s (σ0.2.2.2.2.2.1 - σ'.2.2.2.2.2.1) (σ0.2.2.2.2.2.2 - σ'.2.2.2.2.2.2) (cl_A c0 σ0.2.2.2.1 s.heap.size)) (F0 m 0 ls []) := by
  unfold bc_X6_init_0 at h
  refine lv_aload_n C.1 C.2.1 dX6_init_0 rfl (lv_at hl 0 rfl) ?_
  refine W.objInit (rest := []) C.1 C.2.1 C.2.2.2.1 (C.2.2.2.2.1 _ oi_RX6_3) (C.2.2.2.2.1 _ oi_i) (C.2.2.2.2.1 _ oi_c) rfl (by rw [C.2.2.1]; exact hl.1) rfl dX6_init_1 (Nat.le_of_ble_eq_true rfl) (Nat.le_of_ble_eq_true rfl) ?_
  refine W.eq (g2 := F0 m 4 ls []) rfl ?_
  refine lv_aload_n C.1 C.2.1 dX6_init_4 rfl (lv_at hl 0 rfl) ?_
  obtain ⟨hal, h_6⟩ := al_some h
  refine cl_new (ci := 2) C G rfl rfl inX2 tyX2 tyX2_ok (by intro k hk; exact nd_2 k hk) nw_RX6_9 ni_2 nz_2 hal dX6_init_5 (fun T_5 H cells slots z_4 t_3 hu G_7 => ?_)
  have ha := hu.kind ha (by decide)
  have f1 := f1.up hu (by decide)
  refine cl_nmA h_6 z_4 t_3 (fun a_1 z_4 t_3 h_8 => ?_)
  refine cl_nm G_7 h_8 (fun σ_2 G_9 h_10 => ?_)
  refine lv_dup C.1 C.2.1 dX6_init_8 rfl ?_
  obtain ⟨σ_11, hq, h_12⟩ := bd1_some h_10
  refine cl_callIN (rest := [.ref (c0 + a_1), .ref (c0 + a)]) C G_9 cw_RX6_11 (C.2.2.2.2.2.1.2.2.2.1 _ (List.mem_of_getElem? (i := 3) rfl)) [] _ (kc_X2_init l D c0 (by rw [G_9.1]; exact t_3) hq) (Nat.le_of_ble_eq_true rfl) (Nat.le_of_ble_eq_true rfl) rfl rfl hl.1 (Nat.le_of_ble_eq_true rfl) dX6_init_9 (fun T_13 H locs cells slots t_14 hu G_15 => ?_)
  have ha := hu.kind ha (by decide)
  have f1 := f1.up hu (by decide)
  have t_3 := hu.kind t_3 (by decide)
  refine W.eq (g2 := F0 m 12 ls [.ref (c0 + a_1), .ref (c0 + a)]) rfl ?_
  refine cl_sealrow (ci := 2) G_15 (by decide) t_3 z_4 h_12 (fun σ_16 T_17 hs t_18 G_19 h_20 => ?_)
  have ha := cl_upS hs ha (by decide)
  have f1 := cl_upSo hs f1 (by decide)
  have t_18 : (T_17 a_1).1 = 18 := by rw [t_18]
  refine rp_6_12 (x := (some a_1)) C hn9 G_19 ha (cl_RTs t_18) dX6_init_12 (fun H locs G_22 => ?_)
  refine cl_nm G_22 h_20 (fun σ_21 G_23 h_24 => ?_)
  refine lv_aload_n C.1 C.2.1 dX6_init_15 rfl (lv_at hl 0 rfl) ?_
  refine lv_sipush (v := (200:Int32)) C.1 C.2.1 dX6_init_16 (by decide) ?_
  obtain ⟨hng, h_29⟩ := nag_some h_24
  obtain ⟨hal, h_30⟩ := al_some h_29
  refine cl_newa (t := 1) C G_23 (by decide) (by decide) .int rfl aw_1 hng.1 rfl (cl_bytes hng.2 (by decide) (by decide)) hal dX6_init_19 (fun T_28 H cells slots t_27 hu G_31 => ?_)
  have ha := hu.kind ha (by decide)
  have f1 := f1.up hu (by decide)
  refine cl_nmB h_30 t_27 (fun a_25 t_27 h_32 => ?_)
  refine cl_nm G_31 h_32 (fun σ_26 G_33 h_34 => ?_)
  refine rp_6_18 (x := (some a_25)) C hn9 G_33 ha (cl_RTs (by rw [t_27])) dX6_init_21 (fun H locs G_36 => ?_)
  refine cl_nm G_36 h_34 (fun σ_35 G_37 h_38 => ?_)
  refine lv_aload_n C.1 C.2.1 dX6_init_24 rfl (lv_at hl 0 rfl) ?_
  refine lv_sipush (v := (200:Int32)) C.1 C.2.1 dX6_init_25 (by decide) ?_
  obtain ⟨hng, h_43⟩ := nag_some h_38
  obtain ⟨hal, h_44⟩ := al_some h_43
  refine cl_newq (t := 4) C G_37 (by decide) (by decide) rfl C.2.2.2.2.2.1.2.2.2.2.1 cl_RX6_22 hng.1 rfl (by have := hng.2; omega) hal dX6_init_28 (fun T_42 H cells slots t_41 hu G_45 => ?_)
  have ha := hu.kind ha (by decide)
  have f1 := f1.up hu (by decide)
  refine cl_nmB h_44 t_41 (fun a_39 t_41 h_46 => ?_)
  refine cl_nm G_45 h_46 (fun σ_40 G_47 h_48 => ?_)
  refine rp_6_24 (x := (some a_39)) C hn9 G_47 ha (cl_RTs (by rw [t_41])) dX6_init_31 (fun H locs G_50 => ?_)
  refine cl_nm G_50 h_48 (fun σ_49 G_51 h_52 => ?_)
  refine lv_aload_n C.1 C.2.1 dX6_init_34 rfl (lv_at hl 0 rfl) ?_
  refine lv_bipush (v := (64:Int32)) C.1 C.2.1 dX6_init_35 (by decide) ?_
  obtain ⟨hng, h_57⟩ := nag_some h_52
  obtain ⟨hal, h_58⟩ := al_some h_57
  refine cl_newa (t := 1) C G_51 (by decide) (by decide) .int rfl aw_1 hng.1 rfl (cl_bytes hng.2 (by decide) (by decide)) hal dX6_init_37 (fun T_56 H cells slots t_55 hu G_59 => ?_)
  have ha := hu.kind ha (by decide)
  have f1 := f1.up hu (by decide)
  refine cl_nmB h_58 t_55 (fun a_53 t_55 h_60 => ?_)
  refine cl_nm G_59 h_60 (fun σ_54 G_61 h_62 => ?_)
  refine rp_6_28 (x := (some a_53)) C hn9 G_61 ha (cl_RTs (by rw [t_55])) dX6_init_39 (fun H locs G_64 => ?_)
  refine cl_nm G_64 h_62 (fun σ_63 G_65 h_66 => ?_)
  refine lv_aload_n C.1 C.2.1 dX6_init_42 rfl (lv_at hl 0 rfl) ?_
  refine lv_bipush (v := (64:Int32)) C.1 C.2.1 dX6_init_43 (by decide) ?_
  obtain ⟨hng, h_71⟩ := nag_some h_66
  obtain ⟨hal, h_72⟩ := al_some h_71
  refine cl_newq (t := 4) C G_65 (by decide) (by decide) rfl C.2.2.2.2.2.1.2.2.2.2.1 cl_RX6_22 hng.1 rfl (by have := hng.2; omega) hal dX6_init_45 (fun T_70 H cells slots t_69 hu G_73 => ?_)
  have ha := hu.kind ha (by decide)
  have f1 := f1.up hu (by decide)
  refine cl_nmB h_72 t_69 (fun a_67 t_69 h_74 => ?_)
  refine cl_nm G_73 h_74 (fun σ_68 G_75 h_76 => ?_)
  refine rp_6_31 (x := (some a_67)) C hn9 G_75 ha (cl_RTs (by rw [t_69])) dX6_init_48 (fun H locs G_78 => ?_)
  refine cl_nm G_78 h_76 (fun σ_77 G_79 h_80 => ?_)
  refine lv_aload_n C.1 C.2.1 dX6_init_51 rfl (lv_at hl 0 rfl) ?_
  refine lv_bipush (v := (100:Int32)) C.1 C.2.1 dX6_init_52 (by decide) ?_
  obtain ⟨hng, h_85⟩ := nag_some h_80
  obtain ⟨hal, h_86⟩ := al_some h_85
  refine cl_newq (t := 4) C G_79 (by decide) (by decide) rfl C.2.2.2.2.2.1.2.2.2.2.1 cl_RX6_22 hng.1 rfl (by have := hng.2; omega) hal dX6_init_54 (fun T_84 H cells slots t_83 hu G_87 => ?_)
  have ha := hu.kind ha (by decide)
  have f1 := f1.up hu (by decide)
  refine cl_nmB h_86 t_83 (fun a_81 t_83 h_88 => ?_)
  refine cl_nm G_87 h_88 (fun σ_82 G_89 h_90 => ?_)
  refine rp_6_34 (x := (some a_81)) C hn9 G_89 ha (cl_RTs (by rw [t_83])) dX6_init_57 (fun H locs G_92 => ?_)
  refine cl_nm G_92 h_90 (fun σ_91 G_93 h_94 => ?_)
  refine lv_aload_n C.1 C.2.1 dX6_init_60 rfl (lv_at hl 0 rfl) ?_
  refine cl_aload_n C.1 C.2.1 dX6_init_61 rfl (lv_at hl 1 rfl) ?_
  refine rp_6_37 (x := x1) C hn9 G_93 ha f1 dX6_init_62 (fun H locs G_96 => ?_)
  refine cl_nm G_96 h_94 (fun σ_95 G_97 h_98 => ?_)
  refine lv_aload_n C.1 C.2.1 dX6_init_65 rfl (lv_at hl 0 rfl) ?_
  refine lv_iload_n C.1 C.2.1 dX6_init_66 rfl (lv_at hl 2 rfl) ?_
  refine rp_6_41 C hn9 G_97 ha dX6_init_67 (fun H locs G_100 => ?_)
  refine cl_nm G_100 h_98 (fun σ_99 G_101 h_102 => ?_)
  refine lv_aload_n C.1 C.2.1 dX6_init_70 rfl (lv_at hl 0 rfl) ?_
  obtain ⟨hal, h_108⟩ := al_some h_102
  refine cl_new (ci := 8) C G_101 rfl rfl inX8 tyX8 tyX8_ok (by intro k hk; exact nd_8 k hk) nw_RX6_45 ni_8 nz_8 hal dX6_init_71 (fun T_107 H cells slots z_106 t_105 hu G_109 => ?_)
  have ha := hu.kind ha (by decide)
  have f1 := f1.up hu (by decide)
  refine cl_nmA h_108 z_106 t_105 (fun a_103 z_106 t_105 h_110 => ?_)
  refine cl_nm G_109 h_110 (fun σ_104 G_111 h_112 => ?_)
  refine lv_dup C.1 C.2.1 dX6_init_74 rfl ?_
  refine cl_aload_n C.1 C.2.1 dX6_init_75 rfl (lv_at hl 1 rfl) ?_
  refine lv_bipush (v := (100:Int32)) C.1 C.2.1 dX6_init_76 (by decide) ?_
  refine lv_sipush (v := (256:Int32)) C.1 C.2.1 dX6_init_78 (by decide) ?_
  refine lv_iconst (v := (0:Int32)) C.1 C.2.1 dX6_init_81 (by decide) ?_
  obtain ⟨σ_113, hq, h_114⟩ := bd1_some h_112
  refine cl_callI (rest := [.ref (c0 + a_103), .ref (c0 + a)]) C G_111 cw_RX6_47 [cl_rf c0 x1, .int (100:Int32), .int (256:Int32), .int (0:Int32)] _ (kc_X8_init l D c0 (by rw [G_111.1]; exact t_105) hq (by rw [G_111.1]; exact f1)) (Nat.le_of_ble_eq_true rfl) (Nat.le_of_ble_eq_true rfl) rfl rfl hl.1 (Nat.le_of_ble_eq_true rfl) dX6_init_82 (fun T_115 H locs cells slots t_116 hu G_117 => ?_)
  have ha := hu.kind ha (by decide)
  have f1 := f1.up hu (by decide)
  have t_105 := hu.kind t_105 (by decide)
  refine W.eq (g2 := F0 m 85 ls [.ref (c0 + a_103), .ref (c0 + a)]) rfl ?_
  refine cl_sealrow (ci := 8) G_117 (by decide) t_105 z_106 h_114 (fun σ_118 T_119 hs t_120 G_121 h_122 => ?_)
  have ha := cl_upS hs ha (by decide)
  have f1 := cl_upSo hs f1 (by decide)
  have t_120 : (T_119 a_103).1 = 24 := by rw [t_120]
  refine rp_6_50 (x := (some a_103)) C hn9 G_121 ha (cl_RTs t_120) dX6_init_85 (fun H locs G_124 => ?_)
  refine cl_nm G_124 h_122 (fun σ_123 G_125 h_126 => ?_)
  refine lv_aload_n C.1 C.2.1 dX6_init_88 rfl (lv_at hl 0 rfl) ?_
  refine cl_aload_n C.1 C.2.1 dX6_init_89 rfl (lv_at hl 1 rfl) ?_
  obtain ⟨a_127, rfl, h_129⟩ := nn_some h_126
  have t_128 := f1 _ rfl
  refine cg_6_54 C G_125 t_128 dX6_init_90 (fun t_130 => ?_)
  refine vt_r (K := 25) t_130 h_129 (fun r_131 t_132 h_133 => ?_)
  refine rp_6_60 (x := r_131) C hn9 G_125 ha t_132 dX6_init_93 (fun H locs G_135 => ?_)
  refine cl_nm G_135 h_133 (fun σ_134 G_136 h_137 => ?_)
  refine lv_aload_n C.1 C.2.1 dX6_init_96 rfl (lv_at hl 0 rfl) ?_
  refine lv_aload_n C.1 C.2.1 dX6_init_97 rfl (lv_at hl 1 rfl) ?_
  refine cg_6_54 C G_136 t_128 dX6_init_98 (fun t_138 => ?_)
  refine vt_r (K := 25) t_138 h_137 (fun r_139 t_140 h_141 => ?_)
  refine rp_6_63 (x := r_139) C hn9 G_136 ha t_140 dX6_init_101 (fun H locs G_143 => ?_)
  refine cl_nm G_143 h_141 (fun σ_142 G_144 h_145 => ?_)
  refine lv_aload_n C.1 C.2.1 dX6_init_104 rfl (lv_at hl 0 rfl) ?_
  refine lv_aload_n C.1 C.2.1 dX6_init_105 rfl (lv_at hl 1 rfl) ?_
  refine cg_6_54 C G_144 t_128 dX6_init_106 (fun t_146 => ?_)
  refine vt_r (K := 25) t_146 h_145 (fun r_147 t_148 h_149 => ?_)
  refine rp_6_66 (x := r_147) C hn9 G_144 ha t_148 dX6_init_109 (fun H locs G_151 => ?_)
  refine cl_nm G_151 h_149 (fun σ_150 G_152 h_153 => ?_)
  exact cl_vret ⟨rfl, rfl⟩ rfl C G_152 h_153 dX6_init_112
noncomputable def fc_X6_init (a : Nat) (x1 : (Option Nat)) (x2 : Int32) (σ : cl_S) : Option (cl_S) := bc_X6_init_0 a x1 x2 σ
theorem kc_X6_init (l : Launch) (D : cl_D) (c0 : Nat) {a : Nat} {x1 : (Option Nat)} {x2 : Int32} {σ σ' : cl_S} (ha : (σ.2.2.2.1 a).1 = 122) (h : fc_X6_init a x1 x2 σ = some σ') (f1 : cl_RT σ.2.2.2.1 x1 26) : cl_Met true l D c0 yX6_init cX6_init 3 none 2 44 [.ref (c0 + a), cl_rf c0 x1, .int x2] σ none cl_no σ' :=
  by cases x1 <;> exact cl_of (by decide) (Nat.le_of_ble_eq_true rfl) (fun p e s m args below meth c ls C hn G hl => wc_X6_init_0 C hn h G ha f1 hl)
abbrev cX5_init : ByteArray := prog_7_method_1_code
def yX5_init : MethodName := ⟨RX5, "<init>", "(LPartHouse$Terms;LPartHouse$Disk;Z)V"⟩
theorem dX5_init_0 : decode cX5_init 0 = .ok (.aload_n 0, 1) := by decide +kernel
theorem dX5_init_1 : decode cX5_init 1 = .ok (.invokespecial 3, 3) := by decide +kernel
theorem dX5_init_4 : decode cX5_init 4 = .ok (.aload_n 0, 1) := by decide +kernel
theorem dX5_init_5 : decode cX5_init 5 = .ok (.new 9, 3) := by decide +kernel
theorem dX5_init_8 : decode cX5_init 8 = .ok (.dup, 1) := by decide +kernel
theorem dX5_init_9 : decode cX5_init 9 = .ok (.invokespecial 11, 3) := by decide +kernel
theorem dX5_init_12 : decode cX5_init 12 = .ok (.putfield 12, 3) := by decide +kernel
theorem dX5_init_15 : decode cX5_init 15 = .ok (.aload_n 0, 1) := by decide +kernel
theorem dX5_init_16 : decode cX5_init 16 = .ok (.bipush 8, 2) := by decide +kernel
theorem dX5_init_18 : decode cX5_init 18 = .ok (.anewarray 18, 3) := by decide +kernel
theorem dX5_init_21 : decode cX5_init 21 = .ok (.putfield 20, 3) := by decide +kernel
theorem dX5_init_24 : decode cX5_init 24 = .ok (.aload_n 0, 1) := by decide +kernel
theorem dX5_init_25 : decode cX5_init 25 = .ok (.bipush 16, 2) := by decide +kernel
theorem dX5_init_27 : decode cX5_init 27 = .ok (.bipush 16, 2) := by decide +kernel
theorem dX5_init_29 : decode cX5_init 29 = .ok (.multianewarray 24 2, 4) := by decide +kernel
theorem dX5_init_33 : decode cX5_init 33 = .ok (.putfield 26, 3) := by decide +kernel
theorem dX5_init_36 : decode cX5_init 36 = .ok (.aload_n 0, 1) := by decide +kernel
theorem dX5_init_37 : decode cX5_init 37 = .ok (.bipush 16, 2) := by decide +kernel
theorem dX5_init_39 : decode cX5_init 39 = .ok (.newarray .int, 2) := by decide +kernel
theorem dX5_init_41 : decode cX5_init 41 = .ok (.putfield 29, 3) := by decide +kernel
theorem dX5_init_44 : decode cX5_init 44 = .ok (.aload_n 0, 1) := by decide +kernel
theorem dX5_init_45 : decode cX5_init 45 = .ok (.bipush 16, 2) := by decide +kernel
theorem dX5_init_47 : decode cX5_init 47 = .ok (.anewarray 33, 3) := by decide +kernel
theorem dX5_init_50 : decode cX5_init 50 = .ok (.putfield 35, 3) := by decide +kernel
theorem dX5_init_53 : decode cX5_init 53 = .ok (.aload_n 0, 1) := by decide +kernel
theorem dX5_init_54 : decode cX5_init 54 = .ok (.sipush 500, 3) := by decide +kernel
theorem dX5_init_57 : decode cX5_init 57 = .ok (.newarray .int, 2) := by decide +kernel
theorem dX5_init_59 : decode cX5_init 59 = .ok (.putfield 39, 3) := by decide +kernel
theorem dX5_init_62 : decode cX5_init 62 = .ok (.aload_n 0, 1) := by decide +kernel
theorem dX5_init_63 : decode cX5_init 63 = .ok (.sipush 500, 3) := by decide +kernel
theorem dX5_init_66 : decode cX5_init 66 = .ok (.newarray .int, 2) := by decide +kernel
theorem dX5_init_68 : decode cX5_init 68 = .ok (.putfield 42, 3) := by decide +kernel
theorem dX5_init_71 : decode cX5_init 71 = .ok (.aload_n 0, 1) := by decide +kernel
theorem dX5_init_72 : decode cX5_init 72 = .ok (.sipush 500, 3) := by decide +kernel
theorem dX5_init_75 : decode cX5_init 75 = .ok (.newarray .int, 2) := by decide +kernel
theorem dX5_init_77 : decode cX5_init 77 = .ok (.putfield 45, 3) := by decide +kernel
theorem dX5_init_80 : decode cX5_init 80 = .ok (.aload_n 0, 1) := by decide +kernel
theorem dX5_init_81 : decode cX5_init 81 = .ok (.sipush 500, 3) := by decide +kernel
theorem dX5_init_84 : decode cX5_init 84 = .ok (.anewarray 33, 3) := by decide +kernel
theorem dX5_init_87 : decode cX5_init 87 = .ok (.putfield 48, 3) := by decide +kernel
theorem dX5_init_90 : decode cX5_init 90 = .ok (.aload_n 0, 1) := by decide +kernel
theorem dX5_init_91 : decode cX5_init 91 = .ok (.aload_n 1, 1) := by decide +kernel
theorem dX5_init_92 : decode cX5_init 92 = .ok (.putfield 51, 3) := by decide +kernel
theorem dX5_init_95 : decode cX5_init 95 = .ok (.aload_n 0, 1) := by decide +kernel
theorem dX5_init_96 : decode cX5_init 96 = .ok (.aload_n 2, 1) := by decide +kernel
theorem dX5_init_97 : decode cX5_init 97 = .ok (.putfield 55, 3) := by decide +kernel
theorem dX5_init_100 : decode cX5_init 100 = .ok (.aload_n 0, 1) := by decide +kernel
theorem dX5_init_101 : decode cX5_init 101 = .ok (.iload_n 3, 1) := by decide +kernel
theorem dX5_init_102 : decode cX5_init 102 = .ok (.putfield 59, 3) := by decide +kernel
theorem dX5_init_105 : decode cX5_init 105 = .ok (.iconst 0, 1) := by decide +kernel
theorem dX5_init_106 : decode cX5_init 106 = .ok (.istore 4, 2) := by decide +kernel
theorem dX5_init_108 : decode cX5_init 108 = .ok (.iload 4, 2) := by decide +kernel
theorem dX5_init_110 : decode cX5_init 110 = .ok (.bipush 8, 2) := by decide +kernel
theorem dX5_init_112 : decode cX5_init 112 = .ok (.if_icmp .ge 26, 3) := by decide +kernel
theorem dX5_init_115 : decode cX5_init 115 = .ok (.aload_n 0, 1) := by decide +kernel
theorem dX5_init_116 : decode cX5_init 116 = .ok (.getfield 20, 3) := by decide +kernel
theorem dX5_init_119 : decode cX5_init 119 = .ok (.iload 4, 2) := by decide +kernel
theorem dX5_init_121 : decode cX5_init 121 = .ok (.new 18, 3) := by decide +kernel
theorem dX5_init_124 : decode cX5_init 124 = .ok (.dup, 1) := by decide +kernel
theorem dX5_init_125 : decode cX5_init 125 = .ok (.aload_n 1, 1) := by decide +kernel
theorem dX5_init_126 : decode cX5_init 126 = .ok (.iload 4, 2) := by decide +kernel
theorem dX5_init_128 : decode cX5_init 128 = .ok (.invokespecial 63, 3) := by decide +kernel
theorem dX5_init_131 : decode cX5_init 131 = .ok (.aastore, 1) := by decide +kernel
theorem dX5_init_132 : decode cX5_init 132 = .ok (.iinc 4 1, 3) := by decide +kernel
theorem dX5_init_135 : decode cX5_init 135 = .ok (.goto (-27), 3) := by decide +kernel
theorem dX5_init_138 : decode cX5_init 138 = .ok (.return_, 1) := by decide +kernel
theorem cc_X5_init : Cond.code yX5_init cX5_init 5 none ∈ rf_tb := rf_at 411 (by decide +kernel) (by decide +kernel)
theorem cw_RX5_11 : (Cond.instanceMethod yX1_init ∈ rf_tb ∧ Cond.code yX1_init cX1_init 1 none ∈ rf_tb ∧ Cond.initialized yX1_init.cls ∈ rf_tb) ∧ yX1_init.name = "<init>" ∧ (yX1_init.cls ≠ "java/lang/invoke/MethodHandle" ∧ yX1_init.cls ≠ "java/lang/invoke/VarHandle" ∧ (parseMethodDescriptor yX1_init.desc).map (fun d => d.parameters.length) = some 0) := ⟨⟨rf_at 416 (by decide +kernel) (by decide +kernel), cc_X1_init, rf_at 14 (by decide +kernel) (by decide +kernel)⟩, rfl, ⟨by decide, by decide, by decide +kernel⟩⟩
theorem cw_RX5_63 : cl_wI RX5 yX6_init cX6_init 3 63 2 := ⟨⟨rf_at 490 (by decide +kernel) (by decide +kernel), rf_at 491 (by decide +kernel) (by decide +kernel), cc_X6_init, rf_at 15 (by decide +kernel) (by decide +kernel)⟩, rfl, ⟨by decide, by decide, by decide +kernel⟩⟩
theorem cl_RX5_18 : Cond.classLink RX5 18 "PartHouse$Partition" ∈ rf_tb := rf_at 485 (by decide +kernel) (by decide +kernel)
theorem cl_RX5_24 : Cond.classLink RX5 24 "[[I" ∈ rf_tb := rf_at 487 (by decide +kernel) (by decide +kernel)
theorem cl_RX5_33 : Cond.classLink RX5 33 "PartHouse$Term" ∈ rf_tb := rf_at 488 (by decide +kernel) (by decide +kernel)
theorem nw_RX5_9 : Cond.classLink RX5 9 RX1 ∈ rf_tb := rf_at 413 (by decide +kernel) (by decide +kernel)
theorem ni_1 : Cond.instantiable RX1 16 ∈ rf_tb := rf_at 414 (by decide +kernel) (by decide +kernel)
theorem nz_1 : Cond.initialized RX1 ∈ rf_tb := rf_at 14 (by decide +kernel) (by decide +kernel)
theorem nd_1 {c0 zw : Nat} {σ : cl_S} : ∀ k, k < 16 → defaultValue (tyX1 k) = cl_V c0 zw true (cl_nw σ 117 0 16) σ.2.2.2.2.1 1 k := by
  intro k hk
  have h1 : ∀ j, (cl_nw σ 117 0 16).1 σ.2.2.2.2.1 j = 0 := fun j => (by simp [cl_nw, cl_row_eq])
  have h2 : ∀ j, (cl_nw σ 117 0 16).2.1 σ.2.2.2.2.1 j = 0 := fun j => (by simp [cl_nw, cl_row_eq])
  have h3 : ∀ j, (cl_nw σ 117 0 16).2.2.1 σ.2.2.2.2.1 j = none := fun j => (by simp [cl_nw, cl_row_eq])
  unfold cl_V
  rw [h1, h2, h3]
  rcases (show k = 0 ∨ k = 1 ∨ k = 2 ∨ k = 3 ∨ k = 4 ∨ k = 5 ∨ k = 6 ∨ k = 7 ∨ k = 8 ∨ k = 9 ∨ k = 10 ∨ k = 11 ∨ k = 12 ∨ k = 13 ∨ k = 14 ∨ k = 15 by omega) with rfl | rfl | rfl | rfl | rfl | rfl | rfl | rfl | rfl | rfl | rfl | rfl | rfl | rfl | rfl | rfl <;> rfl
theorem nw_RX5_18 : Cond.classLink RX5 18 RX6 ∈ rf_tb := rf_at 485 (by decide +kernel) (by decide +kernel)
theorem ni_6 : Cond.instantiable RX6 18 ∈ rf_tb := rf_at 489 (by decide +kernel) (by decide +kernel)
theorem nz_6 : Cond.initialized RX6 ∈ rf_tb := rf_at 15 (by decide +kernel) (by decide +kernel)
theorem nd_6 {c0 zw : Nat} {σ : cl_S} : ∀ k, k < 18 → defaultValue (tyX6 k) = cl_V c0 zw true (cl_nw σ 122 0 18) σ.2.2.2.2.1 6 k := by
  intro k hk
  have h1 : ∀ j, (cl_nw σ 122 0 18).1 σ.2.2.2.2.1 j = 0 := fun j => (by simp [cl_nw, cl_row_eq])
  have h2 : ∀ j, (cl_nw σ 122 0 18).2.1 σ.2.2.2.2.1 j = 0 := fun j => (by simp [cl_nw, cl_row_eq])
  have h3 : ∀ j, (cl_nw σ 122 0 18).2.2.1 σ.2.2.2.2.1 j = none := fun j => (by simp [cl_nw, cl_row_eq])
  unfold cl_V
  rw [h1, h2, h3]
  rcases (show k = 0 ∨ k = 1 ∨ k = 2 ∨ k = 3 ∨ k = 4 ∨ k = 5 ∨ k = 6 ∨ k = 7 ∨ k = 8 ∨ k = 9 ∨ k = 10 ∨ k = 11 ∨ k = 12 ∨ k = 13 ∨ k = 14 ∨ k = 15 ∨ k = 16 ∨ k = 17 by omega) with rfl | rfl | rfl | rfl | rfl | rfl | rfl | rfl | rfl | rfl | rfl | rfl | rfl | rfl | rfl | rfl | rfl | rfl <;> rfl
theorem oi_RX5_3 : Cond.methodLink RX5 3 Lib.objectInit ∈ rf_tb := rf_at 412 (by decide +kernel) (by decide +kernel)
noncomputable def lc_X5_init_108 (a : Nat) (x1 : (Option Nat)) (x4 : Int32) (σ : cl_S) : Option ((Int32 × cl_S) ⊕ (Int32 × cl_S)) := (if (8:Int32) ≤ x4 then some (.inr (x4, σ)) else vl (σ.2.2.1 a 4) (fun r_153 => al σ 18 (vl σ.2.2.2.2.1 (fun a_156 => vl (cl_nw σ 122 0 18) (fun σ_157 => bd1 (fc_X6_init a_156 x1 x4 σ_157) (fun σ_166 => sealed σ_166 a_156 6 (vl (cl_seal σ_166 a_156 6) (fun σ_171 => nn r_153 (fun a_176 => ix x4 (σ_171.2.2.2.1 a_176).2 (vl (cl_wr σ_171 a_176 x4.toNatClampNeg (some a_156)) (fun σ_180 => vl (x4 + (1:Int32)) (fun x4_185 => some (.inl (x4_185, σ_180))))))))))))))
noncomputable def ec_X5_init_108 (a : Nat) (x1 : (Option Nat)) (x4 : Int32) (σ : cl_S) : Option (cl_S) := some σ
noncomputable def bc_X5_init_108 (a : Nat) (x1 : (Option Nat)) (x4 : Int32) (σ : cl_S) : Option (cl_S) := (lp (fun z : (Int32 × cl_S) => lc_X5_init_108 a x1 z.1 z.2) (x4, σ)).bind (fun z => ec_X5_init_108 a x1 z.1 z.2)
set_option maxHeartbeats 4000000 in
theorem wc_X5_init_108 (C : cl_C D p s m args meth c cX5_init 5 none RX5) (hn9 : meth.name = "<init>") {a : Nat} {x1 : (Option Nat)} {x4 : Int32} {σ0 σ σ' : cl_S} {T : Nat → Nat × Nat} {H : Heap} {locs : List Loc} {ls : Array Slot} {cells slots : Nat} (h : bc_X5_init_108 a x1 x4 σ = some σ') (G : cl_G true D c0 ({ frames := 3, cells := σ0.2.2.2.2.2.1, slots := σ0.2.2.2.2.2.2, locals := 66 }) s σ0.2.2.2.1 T σ H locs cells slots) (ha : (T a).1 = 121) (f1 : cl_RT T x1 26) (hl : lv_has ls 5 [(0, .ref (c0 + a)), (1, cl_rf c0 x1), (4, .int x4)]) : W p l e ({ frames := 3, cells := σ0.2.2.2.2.2.1, slots := σ0.2.2.2.2.2.2, locals := 66 }) s m args below meth c H locs cells slots (MQ below (cl_Q true D c0 none cl_no σ0 σ') args s (σ0.2.2.2.2.2.1 - σ'.2.2.2.2.2.1) (σ0.2.2.2.2.2.2 - σ'.2.2.2.2.2.2) (cl_A c0 σ0.2.2.2.1 s.heap.size)) (F0 m 108 ls []) := by
  unfold bc_X5_init_108 at h
  obtain ⟨y, hy, h⟩ := bd_some h
  have hE : (fun z : (Int32 × cl_S) => ∀ (T : Nat → Nat × Nat) (H : Heap) (locs : List Loc) (ls : Array Slot) (cells slots : Nat), cl_G true D c0 ({ frames := 3, cells := σ0.2.2.2.2.2.1, slots := σ0.2.2.2.2.2.2, locals := 66 }) s σ0.2.2.2.1 T z.2 H locs cells slots → (T a).1 = 121 → cl_RT T x1 26 → lv_has ls 5 [(0, .ref (c0 + a)), (1, cl_rf c0 x1), (4, .int (z.1))] → W p l e ({ frames := 3, cells := σ0.2.2.2.2.2.1, slots := σ0.2.2.2.2.2.2, locals := 66 }) s m args below meth c H locs cells slots (MQ below (cl_Q true D c0 none cl_no σ0 σ') args s (σ0.2.2.2.2.2.1 - σ'.2.2.2.2.2.1) (σ0.2.2.2.2.2.2 - σ'.2.2.2.2.2.2) (cl_A c0 σ0.2.2.2.1 s.heap.size)) (F0 m 138 ls [])) y := by
    clear hy G ha f1 hl
    intro T H locs ls cells slots G ha f1 hl
    obtain ⟨x4, σ⟩ := y
    dsimp only at h G ha f1 hl
    unfold ec_X5_init_108 at h
    exact cl_vret ⟨rfl, rfl⟩ rfl C G h dX5_init_138
  refine lp_recE (fun z : (Int32 × cl_S) => ∀ (T : Nat → Nat × Nat) (H : Heap) (locs : List Loc) (ls : Array Slot) (cells slots : Nat), cl_G true D c0 ({ frames := 3, cells := σ0.2.2.2.2.2.1, slots := σ0.2.2.2.2.2.2, locals := 66 }) s σ0.2.2.2.1 T z.2 H locs cells slots → (T a).1 = 121 → cl_RT T x1 26 → lv_has ls 5 [(0, .ref (c0 + a)), (1, cl_rf c0 x1), (4, .int (z.1))] → W p l e ({ frames := 3, cells := σ0.2.2.2.2.2.1, slots := σ0.2.2.2.2.2.2, locals := 66 }) s m args below meth c H locs cells slots (MQ below (cl_Q true D c0 none cl_no σ0 σ') args s (σ0.2.2.2.2.2.1 - σ'.2.2.2.2.2.1) (σ0.2.2.2.2.2.2 - σ'.2.2.2.2.2.2) (cl_A c0 σ0.2.2.2.1 s.heap.size)) (F0 m 108 ls [])) (fun z : (Int32 × cl_S) => ∀ (T : Nat → Nat × Nat) (H : Heap) (locs : List Loc) (ls : Array Slot) (cells slots : Nat), cl_G true D c0 ({ frames := 3, cells := σ0.2.2.2.2.2.1, slots := σ0.2.2.2.2.2.2, locals := 66 }) s σ0.2.2.2.1 T z.2 H locs cells slots → (T a).1 = 121 → cl_RT T x1 26 → lv_has ls 5 [(0, .ref (c0 + a)), (1, cl_rf c0 x1), (4, .int (z.1))] → W p l e ({ frames := 3, cells := σ0.2.2.2.2.2.1, slots := σ0.2.2.2.2.2.2, locals := 66 }) s m args below meth c H locs cells slots (MQ below (cl_Q true D c0 none cl_no σ0 σ') args s (σ0.2.2.2.2.2.1 - σ'.2.2.2.2.2.1) (σ0.2.2.2.2.2.2 - σ'.2.2.2.2.2.2) (cl_A c0 σ0.2.2.2.1 s.heap.size)) (F0 m 138 ls [])) ?_ _ _ hy hE _ _ _ _ _ _ G ha f1 hl
  clear hE hy G ha f1 hl h
  intro z o h hP T H locs ls cells slots G ha f1 hl
  obtain ⟨x4, σ⟩ := z
  dsimp only at h G ha f1 hl
  unfold lc_X5_init_108 at h
  refine lv_iload C.1 C.2.1 dX5_init_108 (lv_at hl 2 rfl) ?_
  refine lv_bipush (v := (8:Int32)) C.1 C.2.1 dX5_init_110 (by decide) ?_
  refine lv_icmp_ge (tgt := 138) C.1 C.2.1 dX5_init_112 (by decide) (fun hc => ?_) (fun hc => ?_)
  · rw [if_pos hc] at h
    cases h
    exact hP _ _ _ _ _ _ G ha f1 (lv_sub hl [0, 1, 2] rfl)
  · rw [if_neg hc] at h
    refine lv_aload_n C.1 C.2.1 dX5_init_115 rfl (lv_at hl 0 rfl) ?_
    refine rg_5_20 C G ha dX5_init_116 (fun t_152 => ?_)
    refine vt_r (K := 5) t_152 h (fun r_153 t_154 h_155 => ?_)
    refine lv_iload C.1 C.2.1 dX5_init_119 (lv_at hl 2 rfl) ?_
    obtain ⟨hal, h_161⟩ := al_some h_155
    refine cl_new (ci := 6) C G rfl rfl inX6 tyX6 tyX6_ok (by intro k hk; exact nd_6 k hk) nw_RX5_18 ni_6 nz_6 hal dX5_init_121 (fun T_160 H cells slots z_159 t_158 hu G_162 => ?_)
    have ha := hu.kind ha (by decide)
    have f1 := f1.up hu (by decide)
    have t_154 := t_154.up hu (by decide)
    refine cl_nmA h_161 z_159 t_158 (fun a_156 z_159 t_158 h_163 => ?_)
    refine cl_nm G_162 h_163 (fun σ_157 G_164 h_165 => ?_)
    refine lv_dup C.1 C.2.1 dX5_init_124 rfl ?_
    refine cl_aload_n C.1 C.2.1 dX5_init_125 rfl (lv_at hl 1 rfl) ?_
    refine lv_iload C.1 C.2.1 dX5_init_126 (lv_at hl 2 rfl) ?_
    obtain ⟨σ_166, hq, h_167⟩ := bd1_some h_165
    refine cl_callI (rest := [.ref (c0 + a_156), .int x4, cl_rf c0 r_153]) C G_164 cw_RX5_63 [cl_rf c0 x1, .int x4] _ (kc_X6_init l D c0 (by rw [G_164.1]; exact t_158) hq (by rw [G_164.1]; exact f1)) (Nat.le_of_ble_eq_true rfl) (Nat.le_of_ble_eq_true rfl) rfl rfl hl.1 (by cases r_153 <;> exact Nat.le_of_ble_eq_true rfl) dX5_init_128 (fun T_168 H locs cells slots t_169 hu G_170 => ?_)
    have ha := hu.kind ha (by decide)
    have f1 := f1.up hu (by decide)
    have t_154 := t_154.up hu (by decide)
    have t_158 := hu.kind t_158 (by decide)
    refine W.eq (g2 := F0 m 131 ls [.ref (c0 + a_156), .int x4, cl_rf c0 r_153]) rfl ?_
    refine cl_sealrow (ci := 6) G_170 (by decide) t_158 z_159 h_167 (fun σ_171 T_172 hs t_173 G_174 h_175 => ?_)
    have ha := cl_upS hs ha (by decide)
    have f1 := cl_upSo hs f1 (by decide)
    have t_154 := cl_upSo hs t_154 (by decide)
    have t_173 : (T_172 a_156).1 = 22 := by rw [t_173]
    obtain ⟨a_176, rfl, h_178⟩ := nn_some h_175
    have t_177 := t_154 _ rfl
    have t_179 : T_172 a_176 = (5, (σ_171.2.2.2.1 a_176).2) := by rw [G_174.1]; exact Prod.ext t_177 rfl
    obtain ⟨hi, h_181⟩ := ix_some h_178
    refine cl_aast (ci := 6) (x := (some a_156)) C G_174 rfl rfl rfl t_179 (by decide) (by decide) (cl_RTs t_173) hi dX5_init_131 (fun H locs G_182 => ?_)
    refine cl_nm G_182 h_181 (fun σ_180 G_183 h_184 => ?_)
    refine vl_ex h_184 (fun x4_185 ey h_186 => ?_)
    refine lv_iinc (v := x4_185) (lv' := [(4, .int x4_185), (0, .ref (c0 + a)), (1, cl_rf c0 x1)]) C.1 C.2.1 dX5_init_132 hl (k := 2) rfl (by rw [ey]; rfl) (by decide) (by first | rfl | (cases x1 <;> rfl)) (fun ls hl_187 => ?_)
    refine lv_goto (tgt := 108) C.1 C.2.1 dX5_init_135 (by decide) ?_
    cases h_186
    exact hP _ _ _ _ _ _ G_183 ha f1 (lv_sub hl_187 [1, 2, 0] rfl)
noncomputable def bc_X5_init_0 (a : Nat) (x1 : (Option Nat)) (x2 : (Option Nat)) (x3 : Int32) (σ : cl_S) : Option (cl_S) := al σ 16 (vl σ.2.2.2.2.1 (fun a_1 => vl (cl_nw σ 117 0 16) (fun σ_2 => bd1 (fc_X1_init a_1 σ_2) (fun σ_11 => sealed σ_11 a_1 1 (vl (cl_seal σ_11 a_1 1) (fun σ_16 => vl (cl_wr σ_16 a 3 (some a_1)) (fun σ_21 => nag (8:Int32) (al σ_21 (8:Int32).toNatClampNeg (vl σ_21.2.2.2.2.1 (fun a_25 => vl (cl_nw σ_21 5 (8:Int32).toNatClampNeg (8:Int32).toNatClampNeg) (fun σ_26 => vl (cl_wr σ_26 a 4 (some a_25)) (fun σ_35 => nag (16:Int32) (nag (16:Int32) (alm σ_35 (16:Int32).toNatClampNeg (16:Int32).toNatClampNeg (vl σ_35.2.2.2.2.1 (fun a_39 => vl (cl_nwm σ_35 (16:Int32).toNatClampNeg (16:Int32).toNatClampNeg) (fun σ_40 => vl (cl_wr σ_40 a 5 (some a_39)) (fun σ_50 => nag (16:Int32) (al σ_50 (16:Int32).toNatClampNeg (vl σ_50.2.2.2.2.1 (fun a_54 => vl (cl_nw σ_50 1 (16:Int32).toNatClampNeg (16:Int32).toNatClampNeg) (fun σ_55 => vl (cl_wr σ_55 a 6 (some a_54)) (fun σ_64 => nag (16:Int32) (al σ_64 (16:Int32).toNatClampNeg (vl σ_64.2.2.2.2.1 (fun a_68 => vl (cl_nw σ_64 4 (16:Int32).toNatClampNeg (16:Int32).toNatClampNeg) (fun σ_69 => vl (cl_wr σ_69 a 7 (some a_68)) (fun σ_78 => nag (500:Int32) (al σ_78 (500:Int32).toNatClampNeg (vl σ_78.2.2.2.2.1 (fun a_82 => vl (cl_nw σ_78 1 (500:Int32).toNatClampNeg (500:Int32).toNatClampNeg) (fun σ_83 => vl (cl_wr σ_83 a 16 (some a_82)) (fun σ_92 => nag (500:Int32) (al σ_92 (500:Int32).toNatClampNeg (vl σ_92.2.2.2.2.1 (fun a_96 => vl (cl_nw σ_92 1 (500:Int32).toNatClampNeg (500:Int32).toNatClampNeg) (fun σ_97 => vl (cl_wr σ_97 a 17 (some a_96)) (fun σ_106 => nag (500:Int32) (al σ_106 (500:Int32).toNatClampNeg (vl σ_106.2.2.2.2.1 (fun a_110 => vl (cl_nw σ_106 1 (500:Int32).toNatClampNeg (500:Int32).toNatClampNeg) (fun σ_111 => vl (cl_wr σ_111 a 18 (some a_110)) (fun σ_120 => nag (500:Int32) (al σ_120 (500:Int32).toNatClampNeg (vl σ_120.2.2.2.2.1 (fun a_124 => vl (cl_nw σ_120 4 (500:Int32).toNatClampNeg (500:Int32).toNatClampNeg) (fun σ_125 => vl (cl_wr σ_125 a 19 (some a_124)) (fun σ_134 => vl (cl_wr σ_134 a 0 x1) (fun σ_138 => vl (cl_wr σ_138 a 1 x2) (fun σ_142 => nb x3 (vl (cl_w σ_142 a 2 x3) (fun σ_146 => bc_X5_init_108 a x1 (0:Int32) σ_146))))))))))))))))))))))))))))))))))))))))))))))))))))
set_option maxHeartbeats 4000000 in
theorem wc_X5_init_0 (C : cl_C D p s m args meth c cX5_init 5 none RX5) (hn9 : meth.name = "<init>") {a : Nat} {x1 : (Option Nat)} {x2 : (Option Nat)} {x3 : Int32} {σ0 σ σ' : cl_S} {T : Nat → Nat × Nat} {H : Heap} {locs : List Loc} {ls : Array Slot} {cells slots : Nat} (h : bc_X5_init_0 a x1 x2 x3 σ = some σ') (G : cl_G true D c0 ({ frames := 3, cells := σ0.2.2.2.2.2.1, slots := σ0.2.2.2.2.2.2, locals := 66 }) s σ0.2.2.2.1 T σ H locs cells slots) (ha : (T a).1 = 121) (f1 : cl_RT T x1 26) (f2 : cl_RT T x2 19) (hl : lv_has ls 5 [(0, .ref (c0 + a)), (1, cl_rf c0 x1), (2, cl_rf c0 x2), (3, .int x3)]) : W p l e ({ frames := 3, cells := σ0.2.2.2.2.2.1, slots := σ0.2.2.2.2.2.2, locals := 66 }) s m args below meth c H locs cells slots (MQ below (cl_Q true D c0 none cl_no σ0 σ') args s (σ0.2.2.2.2.2.1 - σ'.2.2.2.2.2.1) (σ0.2.2.2.2.2.2 - σ'.2.2.2.2.2.2) (cl_A c0 σ0.2.2.2.1 s.heap.size)) (F0 m 0 ls []) := by
  unfold bc_X5_init_0 at h
  refine lv_aload_n C.1 C.2.1 dX5_init_0 rfl (lv_at hl 0 rfl) ?_
  refine W.objInit (rest := []) C.1 C.2.1 C.2.2.2.1 (C.2.2.2.2.1 _ oi_RX5_3) (C.2.2.2.2.1 _ oi_i) (C.2.2.2.2.1 _ oi_c) rfl (by rw [C.2.2.1]; exact hl.1) rfl dX5_init_1 (Nat.le_of_ble_eq_true rfl) (Nat.le_of_ble_eq_true rfl) ?_
  refine W.eq (g2 := F0 m 4 ls []) rfl ?_
  refine lv_aload_n C.1 C.2.1 dX5_init_4 rfl (lv_at hl 0 rfl) ?_
  obtain ⟨hal, h_6⟩ := al_some h
  refine cl_new (ci := 1) C G rfl rfl inX1 tyX1 tyX1_ok (by intro k hk; exact nd_1 k hk) nw_RX5_9 ni_1 nz_1 hal dX5_init_5 (fun T_5 H cells slots z_4 t_3 hu G_7 => ?_)
  have ha := hu.kind ha (by decide)
  have f1 := f1.up hu (by decide)
  have f2 := f2.up hu (by decide)
  refine cl_nmA h_6 z_4 t_3 (fun a_1 z_4 t_3 h_8 => ?_)
  refine cl_nm G_7 h_8 (fun σ_2 G_9 h_10 => ?_)
  refine lv_dup C.1 C.2.1 dX5_init_8 rfl ?_
  obtain ⟨σ_11, hq, h_12⟩ := bd1_some h_10
  refine cl_callIN (rest := [.ref (c0 + a_1), .ref (c0 + a)]) C G_9 cw_RX5_11 (C.2.2.2.2.2.1.2.2.2.1 _ (List.mem_of_getElem? (i := 2) rfl)) [] _ (kc_X1_init l D c0 (by rw [G_9.1]; exact t_3) hq) (Nat.le_of_ble_eq_true rfl) (Nat.le_of_ble_eq_true rfl) rfl rfl hl.1 (Nat.le_of_ble_eq_true rfl) dX5_init_9 (fun T_13 H locs cells slots t_14 hu G_15 => ?_)
  have ha := hu.kind ha (by decide)
  have f1 := f1.up hu (by decide)
  have f2 := f2.up hu (by decide)
  have t_3 := hu.kind t_3 (by decide)
  refine W.eq (g2 := F0 m 12 ls [.ref (c0 + a_1), .ref (c0 + a)]) rfl ?_
  refine cl_sealrow (ci := 1) G_15 (by decide) t_3 z_4 h_12 (fun σ_16 T_17 hs t_18 G_19 h_20 => ?_)
  have ha := cl_upS hs ha (by decide)
  have f1 := cl_upSo hs f1 (by decide)
  have f2 := cl_upSo hs f2 (by decide)
  have t_18 : (T_17 a_1).1 = 17 := by rw [t_18]
  refine rp_5_12 (x := (some a_1)) C hn9 G_19 ha (cl_RTs t_18) dX5_init_12 (fun H locs G_22 => ?_)
  refine cl_nm G_22 h_20 (fun σ_21 G_23 h_24 => ?_)
  refine lv_aload_n C.1 C.2.1 dX5_init_15 rfl (lv_at hl 0 rfl) ?_
  refine lv_bipush (v := (8:Int32)) C.1 C.2.1 dX5_init_16 (by decide) ?_
  obtain ⟨hng, h_29⟩ := nag_some h_24
  obtain ⟨hal, h_30⟩ := al_some h_29
  refine cl_newq (t := 5) C G_23 (by decide) (by decide) rfl C.2.2.2.2.2.1.2.2.2.2.2.1 cl_RX5_18 hng.1 rfl (by have := hng.2; omega) hal dX5_init_18 (fun T_28 H cells slots t_27 hu G_31 => ?_)
  have ha := hu.kind ha (by decide)
  have f1 := f1.up hu (by decide)
  have f2 := f2.up hu (by decide)
  refine cl_nmB h_30 t_27 (fun a_25 t_27 h_32 => ?_)
  refine cl_nm G_31 h_32 (fun σ_26 G_33 h_34 => ?_)
  refine rp_5_20 (x := (some a_25)) C hn9 G_33 ha (cl_RTs (by rw [t_27])) dX5_init_21 (fun H locs G_36 => ?_)
  refine cl_nm G_36 h_34 (fun σ_35 G_37 h_38 => ?_)
  refine lv_aload_n C.1 C.2.1 dX5_init_24 rfl (lv_at hl 0 rfl) ?_
  refine lv_bipush (v := (16:Int32)) C.1 C.2.1 dX5_init_25 (by decide) ?_
  refine lv_bipush (v := (16:Int32)) C.1 C.2.1 dX5_init_27 (by decide) ?_
  obtain ⟨hng, h_43⟩ := nag_some h_38
  obtain ⟨hnk, h_44⟩ := nag_some h_43
  obtain ⟨hal, h_45⟩ := alm_some h_44
  refine cl_mna C G_37 cl_RX5_24 aw_1 hng.1 hnk.1 rfl rfl hng.2 hnk.2 hal dX5_init_29 (fun T_42 H cells slots t_41 hu G_46 => ?_)
  have ha := hu.kind ha (by decide)
  have f1 := f1.up hu (by decide)
  have f2 := f2.up hu (by decide)
  refine cl_nmB h_45 t_41 (fun a_39 t_41 h_47 => ?_)
  refine cl_nm G_46 h_47 (fun σ_40 G_48 h_49 => ?_)
  refine rp_5_26 (x := (some a_39)) C hn9 G_48 ha (cl_RTs (by rw [t_41])) dX5_init_33 (fun H locs G_51 => ?_)
  refine cl_nm G_51 h_49 (fun σ_50 G_52 h_53 => ?_)
  refine lv_aload_n C.1 C.2.1 dX5_init_36 rfl (lv_at hl 0 rfl) ?_
  refine lv_bipush (v := (16:Int32)) C.1 C.2.1 dX5_init_37 (by decide) ?_
  obtain ⟨hng, h_58⟩ := nag_some h_53
  obtain ⟨hal, h_59⟩ := al_some h_58
  refine cl_newa (t := 1) C G_52 (by decide) (by decide) .int rfl aw_1 hng.1 rfl (cl_bytes hng.2 (by decide) (by decide)) hal dX5_init_39 (fun T_57 H cells slots t_56 hu G_60 => ?_)
  have ha := hu.kind ha (by decide)
  have f1 := f1.up hu (by decide)
  have f2 := f2.up hu (by decide)
  refine cl_nmB h_59 t_56 (fun a_54 t_56 h_61 => ?_)
  refine cl_nm G_60 h_61 (fun σ_55 G_62 h_63 => ?_)
  refine rp_5_29 (x := (some a_54)) C hn9 G_62 ha (cl_RTs (by rw [t_56])) dX5_init_41 (fun H locs G_65 => ?_)
  refine cl_nm G_65 h_63 (fun σ_64 G_66 h_67 => ?_)
  refine lv_aload_n C.1 C.2.1 dX5_init_44 rfl (lv_at hl 0 rfl) ?_
  refine lv_bipush (v := (16:Int32)) C.1 C.2.1 dX5_init_45 (by decide) ?_
  obtain ⟨hng, h_72⟩ := nag_some h_67
  obtain ⟨hal, h_73⟩ := al_some h_72
  refine cl_newq (t := 4) C G_66 (by decide) (by decide) rfl C.2.2.2.2.2.1.2.2.2.2.1 cl_RX5_33 hng.1 rfl (by have := hng.2; omega) hal dX5_init_47 (fun T_71 H cells slots t_70 hu G_74 => ?_)
  have ha := hu.kind ha (by decide)
  have f1 := f1.up hu (by decide)
  have f2 := f2.up hu (by decide)
  refine cl_nmB h_73 t_70 (fun a_68 t_70 h_75 => ?_)
  refine cl_nm G_74 h_75 (fun σ_69 G_76 h_77 => ?_)
  refine rp_5_35 (x := (some a_68)) C hn9 G_76 ha (cl_RTs (by rw [t_70])) dX5_init_50 (fun H locs G_79 => ?_)
  refine cl_nm G_79 h_77 (fun σ_78 G_80 h_81 => ?_)
  refine lv_aload_n C.1 C.2.1 dX5_init_53 rfl (lv_at hl 0 rfl) ?_
  refine lv_sipush (v := (500:Int32)) C.1 C.2.1 dX5_init_54 (by decide) ?_
  obtain ⟨hng, h_86⟩ := nag_some h_81
  obtain ⟨hal, h_87⟩ := al_some h_86
  refine cl_newa (t := 1) C G_80 (by decide) (by decide) .int rfl aw_1 hng.1 rfl (cl_bytes hng.2 (by decide) (by decide)) hal dX5_init_57 (fun T_85 H cells slots t_84 hu G_88 => ?_)
  have ha := hu.kind ha (by decide)
  have f1 := f1.up hu (by decide)
  have f2 := f2.up hu (by decide)
  refine cl_nmB h_87 t_84 (fun a_82 t_84 h_89 => ?_)
  refine cl_nm G_88 h_89 (fun σ_83 G_90 h_91 => ?_)
  refine rp_5_39 (x := (some a_82)) C hn9 G_90 ha (cl_RTs (by rw [t_84])) dX5_init_59 (fun H locs G_93 => ?_)
  refine cl_nm G_93 h_91 (fun σ_92 G_94 h_95 => ?_)
  refine lv_aload_n C.1 C.2.1 dX5_init_62 rfl (lv_at hl 0 rfl) ?_
  refine lv_sipush (v := (500:Int32)) C.1 C.2.1 dX5_init_63 (by decide) ?_
  obtain ⟨hng, h_100⟩ := nag_some h_95
  obtain ⟨hal, h_101⟩ := al_some h_100
  refine cl_newa (t := 1) C G_94 (by decide) (by decide) .int rfl aw_1 hng.1 rfl (cl_bytes hng.2 (by decide) (by decide)) hal dX5_init_66 (fun T_99 H cells slots t_98 hu G_102 => ?_)
  have ha := hu.kind ha (by decide)
  have f1 := f1.up hu (by decide)
  have f2 := f2.up hu (by decide)
  refine cl_nmB h_101 t_98 (fun a_96 t_98 h_103 => ?_)
  refine cl_nm G_102 h_103 (fun σ_97 G_104 h_105 => ?_)
  refine rp_5_42 (x := (some a_96)) C hn9 G_104 ha (cl_RTs (by rw [t_98])) dX5_init_68 (fun H locs G_107 => ?_)
  refine cl_nm G_107 h_105 (fun σ_106 G_108 h_109 => ?_)
  refine lv_aload_n C.1 C.2.1 dX5_init_71 rfl (lv_at hl 0 rfl) ?_
  refine lv_sipush (v := (500:Int32)) C.1 C.2.1 dX5_init_72 (by decide) ?_
  obtain ⟨hng, h_114⟩ := nag_some h_109
  obtain ⟨hal, h_115⟩ := al_some h_114
  refine cl_newa (t := 1) C G_108 (by decide) (by decide) .int rfl aw_1 hng.1 rfl (cl_bytes hng.2 (by decide) (by decide)) hal dX5_init_75 (fun T_113 H cells slots t_112 hu G_116 => ?_)
  have ha := hu.kind ha (by decide)
  have f1 := f1.up hu (by decide)
  have f2 := f2.up hu (by decide)
  refine cl_nmB h_115 t_112 (fun a_110 t_112 h_117 => ?_)
  refine cl_nm G_116 h_117 (fun σ_111 G_118 h_119 => ?_)
  refine rp_5_45 (x := (some a_110)) C hn9 G_118 ha (cl_RTs (by rw [t_112])) dX5_init_77 (fun H locs G_121 => ?_)
  refine cl_nm G_121 h_119 (fun σ_120 G_122 h_123 => ?_)
  refine lv_aload_n C.1 C.2.1 dX5_init_80 rfl (lv_at hl 0 rfl) ?_
  refine lv_sipush (v := (500:Int32)) C.1 C.2.1 dX5_init_81 (by decide) ?_
  obtain ⟨hng, h_128⟩ := nag_some h_123
  obtain ⟨hal, h_129⟩ := al_some h_128
  refine cl_newq (t := 4) C G_122 (by decide) (by decide) rfl C.2.2.2.2.2.1.2.2.2.2.1 cl_RX5_33 hng.1 rfl (by have := hng.2; omega) hal dX5_init_84 (fun T_127 H cells slots t_126 hu G_130 => ?_)
  have ha := hu.kind ha (by decide)
  have f1 := f1.up hu (by decide)
  have f2 := f2.up hu (by decide)
  refine cl_nmB h_129 t_126 (fun a_124 t_126 h_131 => ?_)
  refine cl_nm G_130 h_131 (fun σ_125 G_132 h_133 => ?_)
  refine rp_5_48 (x := (some a_124)) C hn9 G_132 ha (cl_RTs (by rw [t_126])) dX5_init_87 (fun H locs G_135 => ?_)
  refine cl_nm G_135 h_133 (fun σ_134 G_136 h_137 => ?_)
  refine lv_aload_n C.1 C.2.1 dX5_init_90 rfl (lv_at hl 0 rfl) ?_
  refine cl_aload_n C.1 C.2.1 dX5_init_91 rfl (lv_at hl 1 rfl) ?_
  refine rp_5_51 (x := x1) C hn9 G_136 ha f1 dX5_init_92 (fun H locs G_139 => ?_)
  refine cl_nm G_139 h_137 (fun σ_138 G_140 h_141 => ?_)
  refine lv_aload_n C.1 C.2.1 dX5_init_95 rfl (lv_at hl 0 rfl) ?_
  refine cl_aload_n C.1 C.2.1 dX5_init_96 rfl (lv_at hl 2 rfl) ?_
  refine rp_5_55 (x := x2) C hn9 G_140 ha f2 dX5_init_97 (fun H locs G_143 => ?_)
  refine cl_nm G_143 h_141 (fun σ_142 G_144 h_145 => ?_)
  refine lv_aload_n C.1 C.2.1 dX5_init_100 rfl (lv_at hl 0 rfl) ?_
  refine lv_iload_n C.1 C.2.1 dX5_init_101 rfl (lv_at hl 3 rfl) ?_
  obtain ⟨hnb, h_147⟩ := nb_some h_145
  refine rp_5_59 C hn9 G_144 ha hnb (cl_fitz hnb) dX5_init_102 (fun H locs G_148 => ?_)
  refine cl_nm G_148 h_147 (fun σ_146 G_149 h_150 => ?_)
  refine lv_iconst (v := (0:Int32)) C.1 C.2.1 dX5_init_105 (by decide) ?_
  refine lv_istore (lv' := [(4, .int (0:Int32)), (0, .ref (c0 + a)), (1, cl_rf c0 x1), (2, cl_rf c0 x2), (3, .int x3)]) C.1 C.2.1 dX5_init_106 hl (by decide) (by first | rfl | (cases x1 <;> cases x2 <;> rfl)) (fun ls hl_151 => ?_)
  exact wc_X5_init_108 C hn9 h_150 G_149 ha f1 (lv_sub hl_151 [1, 2, 0] rfl)
noncomputable def fc_X5_init (a : Nat) (x1 : (Option Nat)) (x2 : (Option Nat)) (x3 : Int32) (σ : cl_S) : Option (cl_S) := bc_X5_init_0 a x1 x2 x3 σ
theorem kc_X5_init (l : Launch) (D : cl_D) (c0 : Nat) {a : Nat} {x1 : (Option Nat)} {x2 : (Option Nat)} {x3 : Int32} {σ σ' : cl_S} (ha : (σ.2.2.2.1 a).1 = 121) (h : fc_X5_init a x1 x2 x3 σ = some σ') (f1 : cl_RT σ.2.2.2.1 x1 26) (f2 : cl_RT σ.2.2.2.1 x2 19) : cl_Met true l D c0 yX5_init cX5_init 5 none 3 66 [.ref (c0 + a), cl_rf c0 x1, cl_rf c0 x2, .int x3] σ none cl_no σ' :=
  by cases x1 <;> cases x2 <;> exact cl_of (by decide) (Nat.le_of_ble_eq_true rfl) (fun p e s m args below meth c ls C hn G hl => wc_X5_init_0 C hn h G ha f1 f2 hl)
abbrev cX8_clear : ByteArray := prog_10_method_2_code
def yX8_clear : MethodName := ⟨RX8, "clear", "()V"⟩
theorem dX8_clear_0 : decode cX8_clear 0 = .ok (.aload_n 0, 1) := by decide +kernel
theorem dX8_clear_1 : decode cX8_clear 1 = .ok (.iconst 0, 1) := by decide +kernel
theorem dX8_clear_2 : decode cX8_clear 2 = .ok (.putfield 33, 3) := by decide +kernel
theorem dX8_clear_5 : decode cX8_clear 5 = .ok (.aload_n 0, 1) := by decide +kernel
theorem dX8_clear_6 : decode cX8_clear 6 = .ok (.getfield 29, 3) := by decide +kernel
theorem dX8_clear_9 : decode cX8_clear 9 = .ok (.iconst 0, 1) := by decide +kernel
theorem dX8_clear_10 : decode cX8_clear 10 = .ok (.invokestatic 36, 3) := by decide +kernel
theorem dX8_clear_13 : decode cX8_clear 13 = .ok (.return_, 1) := by decide +kernel
theorem cc_X8_clear : Cond.code yX8_clear cX8_clear 1 none ∈ rf_tb := rf_at 1058 (by decide +kernel) (by decide +kernel)
theorem cw_RX8_36 : cl_wS RX8 yJ7_fill_53178 cJ7_fill_53178 4 none 36 2 := ⟨⟨rf_at 1059 (by decide +kernel) (by decide +kernel), rf_at 976 (by decide +kernel) (by decide +kernel), cc_J7_fill_53178, rf_at 18 (by decide +kernel) (by decide +kernel)⟩, ⟨by decide, by decide, by decide +kernel⟩⟩
noncomputable def bc_X8_clear_0 (a : Nat) (σ : cl_S) : Option (cl_S) := vl (cl_w σ a 5 (0:Int32)) (fun σ_1 => bd1 (fc_J7_fill_53178 (some (a + 2)) (0:Int32) σ_1) (fun σ_6 => some σ_6))
set_option maxHeartbeats 4000000 in
theorem wc_X8_clear_0 (C : cl_C D p s m args meth c cX8_clear 1 none RX8) {a : Nat} {σ0 σ σ' : cl_S} {T : Nat → Nat × Nat} {H : Heap} {locs : List Loc} {ls : Array Slot} {cells slots : Nat} (h : bc_X8_clear_0 a σ = some σ') (G : cl_G true D c0 ({ frames := 1, cells := σ0.2.2.2.2.2.1, slots := σ0.2.2.2.2.2.2, locals := 23 }) s σ0.2.2.2.1 T σ H locs cells slots) (ha : (T a).1 = 24) (hl : lv_has ls 1 [(0, .ref (c0 + a))]) : W p l e ({ frames := 1, cells := σ0.2.2.2.2.2.1, slots := σ0.2.2.2.2.2.2, locals := 23 }) s m args below meth c H locs cells slots (MQ below (cl_Q true D c0 none cl_no σ0 σ') args s (σ0.2.2.2.2.2.1 - σ'.2.2.2.2.2.1) (σ0.2.2.2.2.2.2 - σ'.2.2.2.2.2.2) (cl_A c0 σ0.2.2.2.1 s.heap.size)) (F0 m 0 ls []) := by
  unfold bc_X8_clear_0 at h
  refine lv_aload_n C.1 C.2.1 dX8_clear_0 rfl (lv_at hl 0 rfl) ?_
  refine lv_iconst (v := (0:Int32)) C.1 C.2.1 dX8_clear_1 (by decide) ?_
  refine cp_8_33 C G ha dX8_clear_2 (fun H locs G_2 => ?_)
  refine cl_nm G_2 h (fun σ_1 G_3 h_4 => ?_)
  refine lv_aload_n C.1 C.2.1 dX8_clear_5 rfl (lv_at hl 0 rfl) ?_
  refine cg_8_29 C G_3 ha dX8_clear_6 (fun t_5 => ?_)
  refine lv_iconst (v := (0:Int32)) C.1 C.2.1 dX8_clear_9 (by decide) ?_
  obtain ⟨σ_6, hq, h_7⟩ := bd1_some h_4
  refine cl_callS (rest := []) C G_3 cw_RX8_36 [.ref (c0 + (a + 2)), .int (0:Int32)] _ (kc_J7_fill_53178 l D c0 hq (by rw [G_3.1]; exact (cl_RTs (by rw [t_5])))) (Nat.le_of_ble_eq_true rfl) (Nat.le_of_ble_eq_true rfl) rfl rfl hl.1 (Nat.le_of_ble_eq_true rfl) dX8_clear_10 (fun T_8 H locs cells slots t_9 hu G_10 => ?_)
  have ha := hu.kind ha (by decide)
  refine W.eq (g2 := F0 m 13 ls []) rfl ?_
  exact cl_vret ⟨rfl, rfl⟩ rfl C G_10 h_7 dX8_clear_13
noncomputable def fc_X8_clear (a : Nat) (σ : cl_S) : Option (cl_S) := bc_X8_clear_0 a σ
theorem kc_X8_clear (l : Launch) (D : cl_D) (c0 : Nat) {a : Nat} {σ σ' : cl_S} (ha : (σ.2.2.2.1 a).1 = 24) (h : fc_X8_clear a σ = some σ') : cl_Met true l D c0 yX8_clear cX8_clear 1 none 1 23 [.ref (c0 + a)] σ none cl_no σ' :=
  cl_of (by decide) (Nat.le_of_ble_eq_true rfl) (fun p e s m args below meth c ls C hn G hl => wc_X8_clear_0 C h G ha hl)
abbrev cX6_reset : ByteArray := prog_8_method_2_code
def yX6_reset : MethodName := ⟨RX6, "reset", "(I)V"⟩
theorem dX6_reset_0 : decode cX6_reset 0 = .ok (.aload_n 0, 1) := by decide +kernel
theorem dX6_reset_1 : decode cX6_reset 1 = .ok (.getfield 12, 3) := by decide +kernel
theorem dX6_reset_4 : decode cX6_reset 4 = .ok (.iload_n 1, 1) := by decide +kernel
theorem dX6_reset_5 : decode cX6_reset 5 = .ok (.invokevirtual 69, 3) := by decide +kernel
theorem dX6_reset_8 : decode cX6_reset 8 = .ok (.aload_n 0, 1) := by decide +kernel
theorem dX6_reset_9 : decode cX6_reset 9 = .ok (.getfield 50, 3) := by decide +kernel
theorem dX6_reset_12 : decode cX6_reset 12 = .ok (.invokevirtual 73, 3) := by decide +kernel
theorem dX6_reset_15 : decode cX6_reset 15 = .ok (.aload_n 0, 1) := by decide +kernel
theorem dX6_reset_16 : decode cX6_reset 16 = .ok (.iconst 0, 1) := by decide +kernel
theorem dX6_reset_17 : decode cX6_reset 17 = .ok (.putfield 76, 3) := by decide +kernel
theorem dX6_reset_20 : decode cX6_reset 20 = .ok (.aload_n 0, 1) := by decide +kernel
theorem dX6_reset_21 : decode cX6_reset 21 = .ok (.iconst 0, 1) := by decide +kernel
theorem dX6_reset_22 : decode cX6_reset 22 = .ok (.putfield 79, 3) := by decide +kernel
theorem dX6_reset_25 : decode cX6_reset 25 = .ok (.aload_n 0, 1) := by decide +kernel
theorem dX6_reset_26 : decode cX6_reset 26 = .ok (.iconst 0, 1) := by decide +kernel
theorem dX6_reset_27 : decode cX6_reset 27 = .ok (.putfield 82, 3) := by decide +kernel
theorem dX6_reset_30 : decode cX6_reset 30 = .ok (.aload_n 0, 1) := by decide +kernel
theorem dX6_reset_31 : decode cX6_reset 31 = .ok (.iconst 0, 1) := by decide +kernel
theorem dX6_reset_32 : decode cX6_reset 32 = .ok (.putfield 85, 3) := by decide +kernel
theorem dX6_reset_35 : decode cX6_reset 35 = .ok (.aload_n 0, 1) := by decide +kernel
theorem dX6_reset_36 : decode cX6_reset 36 = .ok (.iconst 0, 1) := by decide +kernel
theorem dX6_reset_37 : decode cX6_reset 37 = .ok (.putfield 88, 3) := by decide +kernel
theorem dX6_reset_40 : decode cX6_reset 40 = .ok (.aload_n 0, 1) := by decide +kernel
theorem dX6_reset_41 : decode cX6_reset 41 = .ok (.iconst 0, 1) := by decide +kernel
theorem dX6_reset_42 : decode cX6_reset 42 = .ok (.putfield 91, 3) := by decide +kernel
theorem dX6_reset_45 : decode cX6_reset 45 = .ok (.return_, 1) := by decide +kernel
theorem cc_X6_reset : Cond.code yX6_reset cX6_reset 2 none ∈ rf_tb := rf_at 1049 (by decide +kernel) (by decide +kernel)
theorem cw_RX6_69 : cl_wV RX6 RX2 yX2_reset cX2_reset 2 none 69 1 := ⟨⟨rf_at 1050 (by decide +kernel) (by decide +kernel), rf_at 1051 (by decide +kernel) (by decide +kernel), rf_at 1052 (by decide +kernel) (by decide +kernel), cc_X2_reset, rf_at 16 (by decide +kernel) (by decide +kernel)⟩, ⟨by decide, by decide, by decide +kernel⟩⟩
theorem cw_RX6_73 : cl_wV RX6 RX8 yX8_clear cX8_clear 1 none 73 0 := ⟨⟨rf_at 1055 (by decide +kernel) (by decide +kernel), rf_at 1056 (by decide +kernel) (by decide +kernel), rf_at 1057 (by decide +kernel) (by decide +kernel), cc_X8_clear, rf_at 11 (by decide +kernel) (by decide +kernel)⟩, ⟨by decide, by decide, by decide +kernel⟩⟩
noncomputable def bc_X6_reset_0 (a : Nat) (x1 : Int32) (σ : cl_S) : Option (cl_S) := bd1 (fc_X2_reset (a + 1) x1 σ) (fun σ_2 => bd1 (fc_X8_clear (a + 9) σ_2) (fun σ_8 => vl (cl_w σ_8 a 6 (0:Int32)) (fun σ_13 => vl (cl_w σ_13 a 8 (0:Int32)) (fun σ_17 => vl (cl_w σ_17 a 10 (0:Int32)) (fun σ_21 => vl (cl_w σ_21 a 12 (0:Int32)) (fun σ_25 => vl (cl_w σ_25 a 13 (0:Int32)) (fun σ_29 => vl (cl_w σ_29 a 14 (0:Int32)) (fun σ_33 => some σ_33))))))))
set_option maxHeartbeats 4000000 in
theorem wc_X6_reset_0 (C : cl_C D p s m args meth c cX6_reset 2 none RX6) {a : Nat} {x1 : Int32} {σ0 σ σ' : cl_S} {T : Nat → Nat × Nat} {H : Heap} {locs : List Loc} {ls : Array Slot} {cells slots : Nat} (h : bc_X6_reset_0 a x1 σ = some σ') (G : cl_G true D c0 ({ frames := 2, cells := σ0.2.2.2.2.2.1, slots := σ0.2.2.2.2.2.2, locals := 44 }) s σ0.2.2.2.1 T σ H locs cells slots) (ha : (T a).1 = 22) (hl : lv_has ls 2 [(0, .ref (c0 + a)), (1, .int x1)]) : W p l e ({ frames := 2, cells := σ0.2.2.2.2.2.1, slots := σ0.2.2.2.2.2.2, locals := 44 }) s m args below meth c H locs cells slots (MQ below (cl_Q true D c0 none cl_no σ0 σ') args s (σ0.2.2.2.2.2.1 - σ'.2.2.2.2.2.1) (σ0.2.2.2.2.2.2 - σ'.2.2.2.2.2.2) (cl_A c0 σ0.2.2.2.1 s.heap.size)) (F0 m 0 ls []) := by
  unfold bc_X6_reset_0 at h
  refine lv_aload_n C.1 C.2.1 dX6_reset_0 rfl (lv_at hl 0 rfl) ?_
  refine cg_6_12 C G ha dX6_reset_1 (fun t_1 => ?_)
  have t_1 : (T (a + 1)).1 = 18 := by rw [t_1]
  refine lv_iload_n C.1 C.2.1 dX6_reset_4 rfl (lv_at hl 1 rfl) ?_
  obtain ⟨σ_2, hq, h_3⟩ := bd1_some h
  refine cl_callV (ci := 2) (rest := []) C G rfl t_1 cw_RX6_69 [.int x1] _ (kc_X2_reset l D c0 (by rw [G.1]; exact t_1) hq) (Nat.le_of_ble_eq_true rfl) (Nat.le_of_ble_eq_true rfl) rfl rfl hl.1 (Nat.le_of_ble_eq_true rfl) dX6_reset_5 (fun T_4 H locs cells slots t_5 hu G_6 => ?_)
  have ha := hu.kind ha (by decide)
  refine W.eq (g2 := F0 m 8 ls []) rfl ?_
  refine lv_aload_n C.1 C.2.1 dX6_reset_8 rfl (lv_at hl 0 rfl) ?_
  refine cg_6_50 C G_6 ha dX6_reset_9 (fun t_7 => ?_)
  have t_7 : (T_4 (a + 9)).1 = 24 := by rw [t_7]
  obtain ⟨σ_8, hq, h_9⟩ := bd1_some h_3
  refine cl_callV (ci := 8) (rest := []) C G_6 rfl t_7 cw_RX6_73 [] _ (kc_X8_clear l D c0 (by rw [G_6.1]; exact t_7) hq) (Nat.le_of_ble_eq_true rfl) (Nat.le_of_ble_eq_true rfl) rfl rfl hl.1 (Nat.le_of_ble_eq_true rfl) dX6_reset_12 (fun T_10 H locs cells slots t_11 hu G_12 => ?_)
  have ha := hu.kind ha (by decide)
  refine W.eq (g2 := F0 m 15 ls []) rfl ?_
  refine lv_aload_n C.1 C.2.1 dX6_reset_15 rfl (lv_at hl 0 rfl) ?_
  refine lv_iconst (v := (0:Int32)) C.1 C.2.1 dX6_reset_16 (by decide) ?_
  refine cp_6_76 C G_12 ha dX6_reset_17 (fun H locs G_14 => ?_)
  refine cl_nm G_14 h_9 (fun σ_13 G_15 h_16 => ?_)
  refine lv_aload_n C.1 C.2.1 dX6_reset_20 rfl (lv_at hl 0 rfl) ?_
  refine lv_iconst (v := (0:Int32)) C.1 C.2.1 dX6_reset_21 (by decide) ?_
  refine cp_6_79 C G_15 ha dX6_reset_22 (fun H locs G_18 => ?_)
  refine cl_nm G_18 h_16 (fun σ_17 G_19 h_20 => ?_)
  refine lv_aload_n C.1 C.2.1 dX6_reset_25 rfl (lv_at hl 0 rfl) ?_
  refine lv_iconst (v := (0:Int32)) C.1 C.2.1 dX6_reset_26 (by decide) ?_
  refine cp_6_82 C G_19 ha dX6_reset_27 (fun H locs G_22 => ?_)
  refine cl_nm G_22 h_20 (fun σ_21 G_23 h_24 => ?_)
  refine lv_aload_n C.1 C.2.1 dX6_reset_30 rfl (lv_at hl 0 rfl) ?_
  refine lv_iconst (v := (0:Int32)) C.1 C.2.1 dX6_reset_31 (by decide) ?_
  refine cp_6_85 C G_23 ha dX6_reset_32 (fun H locs G_26 => ?_)
  refine cl_nm G_26 h_24 (fun σ_25 G_27 h_28 => ?_)
  refine lv_aload_n C.1 C.2.1 dX6_reset_35 rfl (lv_at hl 0 rfl) ?_
  refine lv_iconst (v := (0:Int32)) C.1 C.2.1 dX6_reset_36 (by decide) ?_
  refine cp_6_88 C G_27 ha dX6_reset_37 (fun H locs G_30 => ?_)
  refine cl_nm G_30 h_28 (fun σ_29 G_31 h_32 => ?_)
  refine lv_aload_n C.1 C.2.1 dX6_reset_40 rfl (lv_at hl 0 rfl) ?_
  refine lv_iconst (v := (0:Int32)) C.1 C.2.1 dX6_reset_41 (by decide) ?_
  refine cp_6_91 C G_31 ha dX6_reset_42 (fun H locs G_34 => ?_)
  refine cl_nm G_34 h_32 (fun σ_33 G_35 h_36 => ?_)
  exact cl_vret ⟨rfl, rfl⟩ rfl C G_35 h_36 dX6_reset_45
noncomputable def fc_X6_reset (a : Nat) (x1 : Int32) (σ : cl_S) : Option (cl_S) := bc_X6_reset_0 a x1 σ
theorem kc_X6_reset (l : Launch) (D : cl_D) (c0 : Nat) {a : Nat} {x1 : Int32} {σ σ' : cl_S} (ha : (σ.2.2.2.1 a).1 = 22) (h : fc_X6_reset a x1 σ = some σ') : cl_Met true l D c0 yX6_reset cX6_reset 2 none 2 44 [.ref (c0 + a), .int x1] σ none cl_no σ' :=
  cl_of (by decide) (Nat.le_of_ble_eq_true rfl) (fun p e s m args below meth c ls C hn G hl => wc_X6_reset_0 C h G ha hl)
end CQ6
