section CQ1
variable {p : Program} {l : Launch} {e : Env} {s : State} {m : MethodId} {args : Array Value} {below : List Frame} {meth : Method} {c : Code} {D : cl_D} {c0 : Nat}
abbrev cX4_readTokens : ByteArray := prog_6_method_3_code
def yX4_readTokens : MethodName := ⟨RX4, "readTokens", "()V"⟩
theorem dX4_readTokens_0 : decode cX4_readTokens 0 = .ok (.aload_n 0, 1) := by decide +kernel
theorem dX4_readTokens_1 : decode cX4_readTokens 1 = .ok (.iconst 0, 1) := by decide +kernel
theorem dX4_readTokens_2 : decode cX4_readTokens 2 = .ok (.putfield 32, 3) := by decide +kernel
theorem dX4_readTokens_5 : decode cX4_readTokens 5 = .ok (.aload_n 0, 1) := by decide +kernel
theorem dX4_readTokens_6 : decode cX4_readTokens 6 = .ok (.iconst 0, 1) := by decide +kernel
theorem dX4_readTokens_7 : decode cX4_readTokens 7 = .ok (.putfield 35, 3) := by decide +kernel
theorem dX4_readTokens_10 : decode cX4_readTokens 10 = .ok (.iconst 1, 1) := by decide +kernel
theorem dX4_readTokens_11 : decode cX4_readTokens 11 = .ok (.istore_n 1, 1) := by decide +kernel
theorem dX4_readTokens_12 : decode cX4_readTokens 12 = .ok (.iconst 0, 1) := by decide +kernel
theorem dX4_readTokens_13 : decode cX4_readTokens 13 = .ok (.istore_n 2, 1) := by decide +kernel
theorem dX4_readTokens_14 : decode cX4_readTokens 14 = .ok (.iload_n 2, 1) := by decide +kernel
theorem dX4_readTokens_15 : decode cX4_readTokens 15 = .ok (.sipush 6000, 3) := by decide +kernel
theorem dX4_readTokens_18 : decode cX4_readTokens 18 = .ok (.if_icmp .gt 47, 3) := by decide +kernel
theorem dX4_readTokens_21 : decode cX4_readTokens 21 = .ok (.iload_n 1, 1) := by decide +kernel
theorem dX4_readTokens_22 : decode cX4_readTokens 22 = .ok (.ifCond .eq 43, 3) := by decide +kernel
theorem dX4_readTokens_25 : decode cX4_readTokens 25 = .ok (.aload_n 0, 1) := by decide +kernel
theorem dX4_readTokens_26 : decode cX4_readTokens 26 = .ok (.invokevirtual 38, 3) := by decide +kernel
theorem dX4_readTokens_29 : decode cX4_readTokens 29 = .ok (.aload_n 0, 1) := by decide +kernel
theorem dX4_readTokens_30 : decode cX4_readTokens 30 = .ok (.invokevirtual 41, 3) := by decide +kernel
theorem dX4_readTokens_33 : decode cX4_readTokens 33 = .ok (.aload_n 0, 1) := by decide +kernel
theorem dX4_readTokens_34 : decode cX4_readTokens 34 = .ok (.getfield 15, 3) := by decide +kernel
theorem dX4_readTokens_37 : decode cX4_readTokens 37 = .ok (.iload_n 2, 1) := by decide +kernel
theorem dX4_readTokens_38 : decode cX4_readTokens 38 = .ok (.iaload, 1) := by decide +kernel
theorem dX4_readTokens_39 : decode cX4_readTokens 39 = .ok (.ifCond .eq 18, 3) := by decide +kernel
theorem dX4_readTokens_42 : decode cX4_readTokens 42 = .ok (.aload_n 0, 1) := by decide +kernel
theorem dX4_readTokens_43 : decode cX4_readTokens 43 = .ok (.getfield 15, 3) := by decide +kernel
theorem dX4_readTokens_46 : decode cX4_readTokens 46 = .ok (.iload_n 2, 1) := by decide +kernel
theorem dX4_readTokens_47 : decode cX4_readTokens 47 = .ok (.iaload, 1) := by decide +kernel
theorem dX4_readTokens_48 : decode cX4_readTokens 48 = .ok (.bipush 7, 2) := by decide +kernel
theorem dX4_readTokens_50 : decode cX4_readTokens 50 = .ok (.if_icmp .eq 7, 3) := by decide +kernel
theorem dX4_readTokens_53 : decode cX4_readTokens 53 = .ok (.iconst 1, 1) := by decide +kernel
theorem dX4_readTokens_54 : decode cX4_readTokens 54 = .ok (.goto 4, 3) := by decide +kernel
theorem dX4_readTokens_57 : decode cX4_readTokens 57 = .ok (.iconst 0, 1) := by decide +kernel
theorem dX4_readTokens_58 : decode cX4_readTokens 58 = .ok (.istore_n 1, 1) := by decide +kernel
theorem dX4_readTokens_59 : decode cX4_readTokens 59 = .ok (.iinc 2 1, 3) := by decide +kernel
theorem dX4_readTokens_62 : decode cX4_readTokens 62 = .ok (.goto (-48), 3) := by decide +kernel
theorem dX4_readTokens_65 : decode cX4_readTokens 65 = .ok (.return_, 1) := by decide +kernel
theorem cc_X4_readTokens : Cond.code yX4_readTokens cX4_readTokens 3 none ∈ rf_tb := rf_at 759 (by decide +kernel) (by decide +kernel)
theorem cw_RX4_38 : cl_wV RX4 RX4 yX4_passOver cX4_passOver 4 none 38 0 := ⟨⟨rf_at 760 (by decide +kernel) (by decide +kernel), rf_at 762 (by decide +kernel) (by decide +kernel), rf_sel (q := (yX4_passOver, 7)) 1 (by decide +kernel) (by decide +kernel), cc_X4_passOver, rf_at 2 (by decide +kernel) (by decide +kernel)⟩, ⟨by decide, by decide, by decide +kernel⟩⟩
theorem cw_RX4_41 : cl_wV RX4 RX4 yX4_readToken cX4_readToken 1 none 41 0 := ⟨⟨rf_at 764 (by decide +kernel) (by decide +kernel), rf_at 766 (by decide +kernel) (by decide +kernel), rf_sel (q := (yX4_readToken, 7)) 2 (by decide +kernel) (by decide +kernel), cc_X4_readToken, rf_at 2 (by decide +kernel) (by decide +kernel)⟩, ⟨by decide, by decide, by decide +kernel⟩⟩
noncomputable def bc_X4_readTokens_58i14 (a : Nat) (x2 : Int32) (v0 : Int32) (σ : cl_S) : Option ((Int32 × Int32 × cl_S) ⊕ (Int32 × Int32 × cl_S)) := vl (x2 + (1:Int32)) (fun x2_24 => some (.inl (v0, x2_24, σ)))
set_option maxHeartbeats 4000000 in
theorem wc_X4_readTokens_58i14 (C : cl_C D p s m args meth c cX4_readTokens 3 none RX4) {a : Nat} {x2 : Int32} {v0 : Int32} {σ0 σ σ' : cl_S} {T : Nat → Nat × Nat} {H : Heap} {locs : List Loc} {ls : Array Slot} {cells slots : Nat} {o : (Int32 × Int32 × cl_S) ⊕ (Int32 × Int32 × cl_S)} (h : bc_X4_readTokens_58i14 a x2 v0 σ = some o) (hP : Sum.elim (fun z : (Int32 × Int32 × cl_S) => ∀ (T : Nat → Nat × Nat) (H : Heap) (locs : List Loc) (ls : Array Slot) (cells slots : Nat), cl_G true D c0 ({ frames := 3, cells := σ0.2.2.2.2.2.1, slots := σ0.2.2.2.2.2.2, locals := 66 }) s σ0.2.2.2.1 T z.2.2 H locs cells slots → (T a).1 = 20 → lv_has ls 3 [(0, .ref (c0 + a)), (1, .int (z.1)), (2, .int (z.2.1))] → W p l e ({ frames := 3, cells := σ0.2.2.2.2.2.1, slots := σ0.2.2.2.2.2.2, locals := 66 }) s m args below meth c H locs cells slots (MQ below (cl_Q true D c0 none cl_no σ0 σ') args s (σ0.2.2.2.2.2.1 - σ'.2.2.2.2.2.1) (σ0.2.2.2.2.2.2 - σ'.2.2.2.2.2.2) (cl_A c0 σ0.2.2.2.1 s.heap.size)) (F0 m 14 ls [])) (fun z : (Int32 × Int32 × cl_S) => ∀ (T : Nat → Nat × Nat) (H : Heap) (locs : List Loc) (ls : Array Slot) (cells slots : Nat), cl_G true D c0 ({ frames := 3, cells := σ0.2.2.2.2.2.1, slots := σ0.2.2.2.2.2.2, locals := 66 }) s σ0.2.2.2.1 T z.2.2 H locs cells slots → (T a).1 = 20 → lv_has ls 3 [(0, .ref (c0 + a)), (1, .int (z.1)), (2, .int (z.2.1))] → W p l e ({ frames := 3, cells := σ0.2.2.2.2.2.1, slots := σ0.2.2.2.2.2.2, locals := 66 }) s m args below meth c H locs cells slots (MQ below (cl_Q true D c0 none cl_no σ0 σ') args s (σ0.2.2.2.2.2.1 - σ'.2.2.2.2.2.1) (σ0.2.2.2.2.2.2 - σ'.2.2.2.2.2.2) (cl_A c0 σ0.2.2.2.1 s.heap.size)) (F0 m 65 ls [])) o) (G : cl_G true D c0 ({ frames := 3, cells := σ0.2.2.2.2.2.1, slots := σ0.2.2.2.2.2.2, locals := 66 }) s σ0.2.2.2.1 T σ H locs cells slots) (ha : (T a).1 = 20) (hl : lv_has ls 3 [(0, .ref (c0 + a)), (2, .int x2)]) : W p l e ({ frames := 3, cells := σ0.2.2.2.2.2.1, slots := σ0.2.2.2.2.2.2, locals := 66 }) s m args below meth c H locs cells slots (MQ below (cl_Q true D c0 none cl_no σ0 σ') args s (σ0.2.2.2.2.2.1 - σ'.2.2.2.2.2.1) (σ0.2.2.2.2.2.2 - σ'.2.2.2.2.2.2) (cl_A c0 σ0.2.2.2.1 s.heap.size)) (F0 m 58 ls [.int v0]) := by
  unfold bc_X4_readTokens_58i14 at h
  refine lv_istore_n (lv' := [(1, .int v0), (0, .ref (c0 + a)), (2, .int x2)]) C.1 C.2.1 dX4_readTokens_58 rfl hl (by decide) rfl (fun ls hl_23 => ?_)
  refine vl_ex h (fun x2_24 ey h_25 => ?_)
  refine lv_iinc (v := x2_24) (lv' := [(2, .int x2_24), (1, .int v0), (0, .ref (c0 + a))]) C.1 C.2.1 dX4_readTokens_59 hl_23 (k := 2) rfl (by rw [ey]; rfl) (by decide) rfl (fun ls hl_26 => ?_)
  refine lv_goto (tgt := 14) C.1 C.2.1 dX4_readTokens_62 (by decide) ?_
  cases h_25
  exact hP _ _ _ _ _ _ G ha (lv_sub hl_26 [2, 1, 0] rfl)
noncomputable def bc_X4_readTokens_57i14 (a : Nat) (x2 : Int32) (σ : cl_S) : Option ((Int32 × Int32 × cl_S) ⊕ (Int32 × Int32 × cl_S)) := bc_X4_readTokens_58i14 a x2 (0:Int32) σ
set_option maxHeartbeats 4000000 in
theorem wc_X4_readTokens_57i14 (C : cl_C D p s m args meth c cX4_readTokens 3 none RX4) {a : Nat} {x2 : Int32} {σ0 σ σ' : cl_S} {T : Nat → Nat × Nat} {H : Heap} {locs : List Loc} {ls : Array Slot} {cells slots : Nat} {o : (Int32 × Int32 × cl_S) ⊕ (Int32 × Int32 × cl_S)} (h : bc_X4_readTokens_57i14 a x2 σ = some o) (hP : Sum.elim (fun z : (Int32 × Int32 × cl_S) => ∀ (T : Nat → Nat × Nat) (H : Heap) (locs : List Loc) (ls : Array Slot) (cells slots : Nat), cl_G true D c0 ({ frames := 3, cells := σ0.2.2.2.2.2.1, slots := σ0.2.2.2.2.2.2, locals := 66 }) s σ0.2.2.2.1 T z.2.2 H locs cells slots → (T a).1 = 20 → lv_has ls 3 [(0, .ref (c0 + a)), (1, .int (z.1)), (2, .int (z.2.1))] → W p l e ({ frames := 3, cells := σ0.2.2.2.2.2.1, slots := σ0.2.2.2.2.2.2, locals := 66 }) s m args below meth c H locs cells slots (MQ below (cl_Q true D c0 none cl_no σ0 σ') args s (σ0.2.2.2.2.2.1 - σ'.2.2.2.2.2.1) (σ0.2.2.2.2.2.2 - σ'.2.2.2.2.2.2) (cl_A c0 σ0.2.2.2.1 s.heap.size)) (F0 m 14 ls [])) (fun z : (Int32 × Int32 × cl_S) => ∀ (T : Nat → Nat × Nat) (H : Heap) (locs : List Loc) (ls : Array Slot) (cells slots : Nat), cl_G true D c0 ({ frames := 3, cells := σ0.2.2.2.2.2.1, slots := σ0.2.2.2.2.2.2, locals := 66 }) s σ0.2.2.2.1 T z.2.2 H locs cells slots → (T a).1 = 20 → lv_has ls 3 [(0, .ref (c0 + a)), (1, .int (z.1)), (2, .int (z.2.1))] → W p l e ({ frames := 3, cells := σ0.2.2.2.2.2.1, slots := σ0.2.2.2.2.2.2, locals := 66 }) s m args below meth c H locs cells slots (MQ below (cl_Q true D c0 none cl_no σ0 σ') args s (σ0.2.2.2.2.2.1 - σ'.2.2.2.2.2.1) (σ0.2.2.2.2.2.2 - σ'.2.2.2.2.2.2) (cl_A c0 σ0.2.2.2.1 s.heap.size)) (F0 m 65 ls [])) o) (G : cl_G true D c0 ({ frames := 3, cells := σ0.2.2.2.2.2.1, slots := σ0.2.2.2.2.2.2, locals := 66 }) s σ0.2.2.2.1 T σ H locs cells slots) (ha : (T a).1 = 20) (hl : lv_has ls 3 [(0, .ref (c0 + a)), (2, .int x2)]) : W p l e ({ frames := 3, cells := σ0.2.2.2.2.2.1, slots := σ0.2.2.2.2.2.2, locals := 66 }) s m args below meth c H locs cells slots (MQ below (cl_Q true D c0 none cl_no σ0 σ') args s (σ0.2.2.2.2.2.1 - σ'.2.2.2.2.2.1) (σ0.2.2.2.2.2.2 - σ'.2.2.2.2.2.2) (cl_A c0 σ0.2.2.2.1 s.heap.size)) (F0 m 57 ls []) := by
  unfold bc_X4_readTokens_57i14 at h
  refine lv_iconst (v := (0:Int32)) C.1 C.2.1 dX4_readTokens_57 (by decide) ?_
  exact wc_X4_readTokens_58i14 C h hP G ha (lv_sub hl [0, 1] rfl)
noncomputable def lc_X4_readTokens_14 (a : Nat) (x1 : Int32) (x2 : Int32) (σ : cl_S) : Option ((Int32 × Int32 × cl_S) ⊕ (Int32 × Int32 × cl_S)) := (if (6000:Int32) < x2 then some (.inr (x1, x2, σ)) else (if x1 = 0 then some (.inr (x1, x2, σ)) else bd1 (fc_X4_passOver a σ) (fun σ_11 => bd1 (fc_X4_readToken a σ_11) (fun σ_16 => ix x2 6001 ((if (σ_16.1 (a + 2) x2.toNatClampNeg) = 0 then bc_X4_readTokens_57i14 a x2 σ_16 else ix x2 6001 ((if (σ_16.1 (a + 2) x2.toNatClampNeg) = (7:Int32) then bc_X4_readTokens_57i14 a x2 σ_16 else bc_X4_readTokens_58i14 a x2 (1:Int32) σ_16))))))))
noncomputable def ec_X4_readTokens_14 (a : Nat) (x1 : Int32) (x2 : Int32) (σ : cl_S) : Option (cl_S) := some σ
noncomputable def bc_X4_readTokens_14 (a : Nat) (x1 : Int32) (x2 : Int32) (σ : cl_S) : Option (cl_S) := (lp (fun z : (Int32 × Int32 × cl_S) => lc_X4_readTokens_14 a z.1 z.2.1 z.2.2) (x1, x2, σ)).bind (fun z => ec_X4_readTokens_14 a z.1 z.2.1 z.2.2)
set_option maxHeartbeats 4000000 in
theorem wc_X4_readTokens_14 (C : cl_C D p s m args meth c cX4_readTokens 3 none RX4) {a : Nat} {x1 : Int32} {x2 : Int32} {σ0 σ σ' : cl_S} {T : Nat → Nat × Nat} {H : Heap} {locs : List Loc} {ls : Array Slot} {cells slots : Nat} (h : bc_X4_readTokens_14 a x1 x2 σ = some σ') (G : cl_G true D c0 ({ frames := 3, cells := σ0.2.2.2.2.2.1, slots := σ0.2.2.2.2.2.2, locals := 66 }) s σ0.2.2.2.1 T σ H locs cells slots) (ha : (T a).1 = 20) (hl : lv_has ls 3 [(0, .ref (c0 + a)), (1, .int x1), (2, .int x2)]) : W p l e ({ frames := 3, cells := σ0.2.2.2.2.2.1, slots := σ0.2.2.2.2.2.2, locals := 66 }) s m args below meth c H locs cells slots (MQ below (cl_Q true D c0 none cl_no σ0 σ') args s (σ0.2.2.2.2.2.1 - σ'.2.2.2.2.2.1) (σ0.2.2.2.2.2.2 - σ'.2.2.2.2.2.2) (cl_A c0 σ0.2.2.2.1 s.heap.size)) (F0 m 14 ls []) := by
  unfold bc_X4_readTokens_14 at h
  obtain ⟨y, hy, h⟩ := bd_some h
  have hE : (fun z : (Int32 × Int32 × cl_S) => ∀ (T : Nat → Nat × Nat) (H : Heap) (locs : List Loc) (ls : Array Slot) (cells slots : Nat), cl_G true D c0 ({ frames := 3, cells := σ0.2.2.2.2.2.1, slots := σ0.2.2.2.2.2.2, locals := 66 }) s σ0.2.2.2.1 T z.2.2 H locs cells slots → (T a).1 = 20 → lv_has ls 3 [(0, .ref (c0 + a)), (1, .int (z.1)), (2, .int (z.2.1))] → W p l e ({ frames := 3, cells := σ0.2.2.2.2.2.1, slots := σ0.2.2.2.2.2.2, locals := 66 }) s m args below meth c H locs cells slots (MQ below (cl_Q true D c0 none cl_no σ0 σ') args s (σ0.2.2.2.2.2.1 - σ'.2.2.2.2.2.1) (σ0.2.2.2.2.2.2 - σ'.2.2.2.2.2.2) (cl_A c0 σ0.2.2.2.1 s.heap.size)) (F0 m 65 ls [])) y := by
    clear hy G ha hl
    intro T H locs ls cells slots G ha hl
    obtain ⟨x1, x2, σ⟩ := y
    dsimp only at h G ha hl
    unfold ec_X4_readTokens_14 at h
    exact cl_vret ⟨rfl, rfl⟩ rfl C G h dX4_readTokens_65
  refine lp_recE (fun z : (Int32 × Int32 × cl_S) => ∀ (T : Nat → Nat × Nat) (H : Heap) (locs : List Loc) (ls : Array Slot) (cells slots : Nat), cl_G true D c0 ({ frames := 3, cells := σ0.2.2.2.2.2.1, slots := σ0.2.2.2.2.2.2, locals := 66 }) s σ0.2.2.2.1 T z.2.2 H locs cells slots → (T a).1 = 20 → lv_has ls 3 [(0, .ref (c0 + a)), (1, .int (z.1)), (2, .int (z.2.1))] → W p l e ({ frames := 3, cells := σ0.2.2.2.2.2.1, slots := σ0.2.2.2.2.2.2, locals := 66 }) s m args below meth c H locs cells slots (MQ below (cl_Q true D c0 none cl_no σ0 σ') args s (σ0.2.2.2.2.2.1 - σ'.2.2.2.2.2.1) (σ0.2.2.2.2.2.2 - σ'.2.2.2.2.2.2) (cl_A c0 σ0.2.2.2.1 s.heap.size)) (F0 m 14 ls [])) (fun z : (Int32 × Int32 × cl_S) => ∀ (T : Nat → Nat × Nat) (H : Heap) (locs : List Loc) (ls : Array Slot) (cells slots : Nat), cl_G true D c0 ({ frames := 3, cells := σ0.2.2.2.2.2.1, slots := σ0.2.2.2.2.2.2, locals := 66 }) s σ0.2.2.2.1 T z.2.2 H locs cells slots → (T a).1 = 20 → lv_has ls 3 [(0, .ref (c0 + a)), (1, .int (z.1)), (2, .int (z.2.1))] → W p l e ({ frames := 3, cells := σ0.2.2.2.2.2.1, slots := σ0.2.2.2.2.2.2, locals := 66 }) s m args below meth c H locs cells slots (MQ below (cl_Q true D c0 none cl_no σ0 σ') args s (σ0.2.2.2.2.2.1 - σ'.2.2.2.2.2.1) (σ0.2.2.2.2.2.2 - σ'.2.2.2.2.2.2) (cl_A c0 σ0.2.2.2.1 s.heap.size)) (F0 m 65 ls [])) ?_ _ _ hy hE _ _ _ _ _ _ G ha hl
  clear hE hy G ha hl h
  intro z o h hP T H locs ls cells slots G ha hl
  obtain ⟨x1, x2, σ⟩ := z
  dsimp only at h G ha hl
  unfold lc_X4_readTokens_14 at h
  refine lv_iload_n C.1 C.2.1 dX4_readTokens_14 rfl (lv_at hl 2 rfl) ?_
  refine lv_sipush (v := (6000:Int32)) C.1 C.2.1 dX4_readTokens_15 (by decide) ?_
  refine lv_icmp_gt (tgt := 65) C.1 C.2.1 dX4_readTokens_18 (by decide) (fun hc => ?_) (fun hc => ?_)
  · rw [if_pos hc] at h
    cases h
    exact hP _ _ _ _ _ _ G ha (lv_sub hl [0, 1, 2] rfl)
  · rw [if_neg hc] at h
    refine lv_iload_n C.1 C.2.1 dX4_readTokens_21 rfl (lv_at hl 1 rfl) ?_
    refine lv_if_eq (tgt := 65) C.1 C.2.1 dX4_readTokens_22 (by decide) (fun hc => ?_) (fun hc => ?_)
    · rw [if_pos hc] at h
      cases h
      exact hP _ _ _ _ _ _ G ha (lv_sub hl [0, 1, 2] rfl)
    · rw [if_neg hc] at h
      refine lv_aload_n C.1 C.2.1 dX4_readTokens_25 rfl (lv_at hl 0 rfl) ?_
      obtain ⟨σ_11, hq, h_12⟩ := bd1_some h
      refine cl_callV (ci := 4) (rest := []) C G rfl ha cw_RX4_38 [] _ (kc_X4_passOver l D c0 (by rw [G.1]; exact ha) hq) (Nat.le_of_ble_eq_true rfl) (Nat.le_of_ble_eq_true rfl) rfl rfl hl.1 (Nat.le_of_ble_eq_true rfl) dX4_readTokens_26 (fun T_13 H locs cells slots t_14 hu G_15 => ?_)
      have ha := hu.kind ha (by decide)
      refine W.eq (g2 := F0 m 29 ls []) rfl ?_
      refine lv_aload_n C.1 C.2.1 dX4_readTokens_29 rfl (lv_at hl 0 rfl) ?_
      obtain ⟨σ_16, hq, h_17⟩ := bd1_some h_12
      refine cl_callV (ci := 4) (rest := []) C G_15 rfl ha cw_RX4_41 [] _ (kc_X4_readToken l D c0 (by rw [G_15.1]; exact ha) hq) (Nat.le_of_ble_eq_true rfl) (Nat.le_of_ble_eq_true rfl) rfl rfl hl.1 (Nat.le_of_ble_eq_true rfl) dX4_readTokens_30 (fun T_18 H locs cells slots t_19 hu G_20 => ?_)
      have ha := hu.kind ha (by decide)
      refine W.eq (g2 := F0 m 33 ls []) rfl ?_
      refine lv_aload_n C.1 C.2.1 dX4_readTokens_33 rfl (lv_at hl 0 rfl) ?_
      refine cg_4_15 C G_20 ha dX4_readTokens_34 (fun t_21 => ?_)
      refine lv_iload_n C.1 C.2.1 dX4_readTokens_37 rfl (lv_at hl 2 rfl) ?_
      obtain ⟨hi, h_22⟩ := ix_some h_17
      refine cl_iald C G_20 t_21 hi dX4_readTokens_38 ?_
      refine lv_if_eq (tgt := 57) C.1 C.2.1 dX4_readTokens_39 (by decide) (fun hc => ?_) (fun hc => ?_)
      · rw [if_pos hc] at h_22
        exact wc_X4_readTokens_57i14 C h_22 hP G_20 ha (lv_sub hl [0, 2] rfl)
      · rw [if_neg hc] at h_22
        refine lv_aload_n C.1 C.2.1 dX4_readTokens_42 rfl (lv_at hl 0 rfl) ?_
        refine cg_4_15 C G_20 ha dX4_readTokens_43 (fun t_27 => ?_)
        refine lv_iload_n C.1 C.2.1 dX4_readTokens_46 rfl (lv_at hl 2 rfl) ?_
        obtain ⟨hi, h_28⟩ := ix_some h_22
        refine cl_iald C G_20 t_27 hi dX4_readTokens_47 ?_
        refine lv_bipush (v := (7:Int32)) C.1 C.2.1 dX4_readTokens_48 (by decide) ?_
        refine lv_icmp_eq (tgt := 57) C.1 C.2.1 dX4_readTokens_50 (by decide) (fun hc => ?_) (fun hc => ?_)
        · rw [if_pos hc] at h_28
          exact wc_X4_readTokens_57i14 C h_28 hP G_20 ha (lv_sub hl [0, 2] rfl)
        · rw [if_neg hc] at h_28
          refine lv_iconst (v := (1:Int32)) C.1 C.2.1 dX4_readTokens_53 (by decide) ?_
          refine lv_goto (tgt := 58) C.1 C.2.1 dX4_readTokens_54 (by decide) ?_
          exact wc_X4_readTokens_58i14 C h_28 hP G_20 ha (lv_sub hl [0, 2] rfl)
noncomputable def bc_X4_readTokens_0 (a : Nat) (σ : cl_S) : Option (cl_S) := vl (cl_w σ a 2 (0:Int32)) (fun σ_1 => vl (cl_w σ_1 a 6 (0:Int32)) (fun σ_5 => bc_X4_readTokens_14 a (1:Int32) (0:Int32) σ_5))
set_option maxHeartbeats 4000000 in
theorem wc_X4_readTokens_0 (C : cl_C D p s m args meth c cX4_readTokens 3 none RX4) {a : Nat} {σ0 σ σ' : cl_S} {T : Nat → Nat × Nat} {H : Heap} {locs : List Loc} {ls : Array Slot} {cells slots : Nat} (h : bc_X4_readTokens_0 a σ = some σ') (G : cl_G true D c0 ({ frames := 3, cells := σ0.2.2.2.2.2.1, slots := σ0.2.2.2.2.2.2, locals := 66 }) s σ0.2.2.2.1 T σ H locs cells slots) (ha : (T a).1 = 20) (hl : lv_has ls 3 [(0, .ref (c0 + a))]) : W p l e ({ frames := 3, cells := σ0.2.2.2.2.2.1, slots := σ0.2.2.2.2.2.2, locals := 66 }) s m args below meth c H locs cells slots (MQ below (cl_Q true D c0 none cl_no σ0 σ') args s (σ0.2.2.2.2.2.1 - σ'.2.2.2.2.2.1) (σ0.2.2.2.2.2.2 - σ'.2.2.2.2.2.2) (cl_A c0 σ0.2.2.2.1 s.heap.size)) (F0 m 0 ls []) := by
  unfold bc_X4_readTokens_0 at h
  refine lv_aload_n C.1 C.2.1 dX4_readTokens_0 rfl (lv_at hl 0 rfl) ?_
  refine lv_iconst (v := (0:Int32)) C.1 C.2.1 dX4_readTokens_1 (by decide) ?_
  refine cp_4_32 C G ha dX4_readTokens_2 (fun H locs G_2 => ?_)
  refine cl_nm G_2 h (fun σ_1 G_3 h_4 => ?_)
  refine lv_aload_n C.1 C.2.1 dX4_readTokens_5 rfl (lv_at hl 0 rfl) ?_
  refine lv_iconst (v := (0:Int32)) C.1 C.2.1 dX4_readTokens_6 (by decide) ?_
  refine cp_4_35 C G_3 ha dX4_readTokens_7 (fun H locs G_6 => ?_)
  refine cl_nm G_6 h_4 (fun σ_5 G_7 h_8 => ?_)
  refine lv_iconst (v := (1:Int32)) C.1 C.2.1 dX4_readTokens_10 (by decide) ?_
  refine lv_istore_n (lv' := [(1, .int (1:Int32)), (0, .ref (c0 + a))]) C.1 C.2.1 dX4_readTokens_11 rfl hl (by decide) rfl (fun ls hl_9 => ?_)
  refine lv_iconst (v := (0:Int32)) C.1 C.2.1 dX4_readTokens_12 (by decide) ?_
  refine lv_istore_n (lv' := [(2, .int (0:Int32)), (1, .int (1:Int32)), (0, .ref (c0 + a))]) C.1 C.2.1 dX4_readTokens_13 rfl hl_9 (by decide) rfl (fun ls hl_10 => ?_)
  exact wc_X4_readTokens_14 C h_8 G_7 ha (lv_sub hl_10 [2, 1, 0] rfl)
noncomputable def fc_X4_readTokens (a : Nat) (σ : cl_S) : Option (cl_S) := bc_X4_readTokens_0 a σ
theorem kc_X4_readTokens (l : Launch) (D : cl_D) (c0 : Nat) {a : Nat} {σ σ' : cl_S} (ha : (σ.2.2.2.1 a).1 = 20) (h : fc_X4_readTokens a σ = some σ') : cl_Met true l D c0 yX4_readTokens cX4_readTokens 3 none 3 66 [.ref (c0 + a)] σ none cl_no σ' :=
  cl_of (by decide) (Nat.le_of_ble_eq_true rfl) (fun p e s m args below meth c ls C hn G hl => wc_X4_readTokens_0 C h G ha hl)
abbrev cX0_token : ByteArray := prog_2_method_4_code
def yX0_token : MethodName := ⟨RX0, "token", "()I"⟩
theorem dX0_token_0 : decode cX0_token 0 = .ok (.aload_n 0, 1) := by decide +kernel
theorem dX0_token_1 : decode cX0_token 1 = .ok (.getfield 42, 3) := by decide +kernel
theorem dX0_token_4 : decode cX0_token 4 = .ok (.getfield 92, 3) := by decide +kernel
theorem dX0_token_7 : decode cX0_token 7 = .ok (.aload_n 0, 1) := by decide +kernel
theorem dX0_token_8 : decode cX0_token 8 = .ok (.getfield 70, 3) := by decide +kernel
theorem dX0_token_11 : decode cX0_token 11 = .ok (.iaload, 1) := by decide +kernel
theorem dX0_token_12 : decode cX0_token 12 = .ok (.ireturn, 1) := by decide +kernel
theorem cc_X0_token : Cond.code yX0_token cX0_token 1 (some .int) ∈ rf_tb := rf_at 788 (by decide +kernel) (by decide +kernel)
noncomputable def bc_X0_token_0 (a : Nat) (σ : cl_S) : Option (Int32 × cl_S) := ix (σ.1 a 2) 6001 (some ((σ.1 (1 + 2) (σ.1 a 2).toNatClampNeg), σ))
set_option maxHeartbeats 4000000 in
theorem wc_X0_token_0 (C : cl_C D p s m args meth c cX0_token 1 (some .int) RX0) {r : Int32} {a : Nat} {σ0 σ σ' : cl_S} {T : Nat → Nat × Nat} {H : Heap} {locs : List Loc} {ls : Array Slot} {cells slots : Nat} (h : bc_X0_token_0 a σ = some (r, σ')) (G : cl_G true D c0 ({ frames := 0, cells := σ0.2.2.2.2.2.1, slots := σ0.2.2.2.2.2.2, locals := 0 }) s σ0.2.2.2.1 T σ H locs cells slots) (ha : (T a).1 = 16) (hl : lv_has ls 1 [(0, .ref (c0 + a))]) : W p l e ({ frames := 0, cells := σ0.2.2.2.2.2.1, slots := σ0.2.2.2.2.2.2, locals := 0 }) s m args below meth c H locs cells slots (MQ below (cl_Q true D c0 (some (.int r)) cl_no σ0 σ') args s (σ0.2.2.2.2.2.1 - σ'.2.2.2.2.2.1) (σ0.2.2.2.2.2.2 - σ'.2.2.2.2.2.2) (cl_A c0 σ0.2.2.2.1 s.heap.size)) (F0 m 0 ls []) := by
  unfold bc_X0_token_0 at h
  refine lv_aload_n C.1 C.2.1 dX0_token_0 rfl (lv_at hl 0 rfl) ?_
  refine cg_0_42 C G ha dX0_token_1 (fun t_1 => ?_)
  have t_1 : (T 1).1 = 20 := by rw [t_1]
  refine cg_0_92 C G t_1 dX0_token_4 (fun t_2 => ?_)
  refine lv_aload_n C.1 C.2.1 dX0_token_7 rfl (lv_at hl 0 rfl) ?_
  refine cg_0_70 C G ha dX0_token_8 ?_
  obtain ⟨hi, h_3⟩ := ix_some h
  refine cl_iald C G t_2 hi dX0_token_11 ?_
  exact cl_iret ⟨rfl, rfl⟩ rfl C G h_3 dX0_token_12
noncomputable def fc_X0_token (a : Nat) (σ : cl_S) : Option (Int32 × cl_S) := bc_X0_token_0 a σ
theorem kc_X0_token (l : Launch) (D : cl_D) (c0 : Nat) {r : Int32} {a : Nat} {σ σ' : cl_S} (ha : (σ.2.2.2.1 a).1 = 16) (h : fc_X0_token a σ = some (r, σ')) : cl_Met true l D c0 yX0_token cX0_token 1 (some .int) 0 0 [.ref (c0 + a)] σ (some (.int r)) cl_no σ' :=
  cl_of (by decide) (Nat.le_of_ble_eq_true rfl) (fun p e s m args below meth c ls C hn G hl => wc_X0_token_0 C h G ha hl)
abbrev cX0_labelOf : ByteArray := prog_2_method_10_code
def yX0_labelOf : MethodName := ⟨RX0, "labelOf", "(J)I"⟩
theorem dX0_labelOf_0 : decode cX0_labelOf 0 = .ok (.iconst 0, 1) := by decide +kernel
theorem dX0_labelOf_1 : decode cX0_labelOf 1 = .ok (.istore_n 3, 1) := by decide +kernel
theorem dX0_labelOf_2 : decode cX0_labelOf 2 = .ok (.iload_n 3, 1) := by decide +kernel
theorem dX0_labelOf_3 : decode cX0_labelOf 3 = .ok (.aload_n 0, 1) := by decide +kernel
theorem dX0_labelOf_4 : decode cX0_labelOf 4 = .ok (.getfield 61, 3) := by decide +kernel
theorem dX0_labelOf_7 : decode cX0_labelOf 7 = .ok (.if_icmp .ge 22, 3) := by decide +kernel
theorem dX0_labelOf_10 : decode cX0_labelOf 10 = .ok (.aload_n 0, 1) := by decide +kernel
theorem dX0_labelOf_11 : decode cX0_labelOf 11 = .ok (.getfield 19, 3) := by decide +kernel
theorem dX0_labelOf_14 : decode cX0_labelOf 14 = .ok (.iload_n 3, 1) := by decide +kernel
theorem dX0_labelOf_15 : decode cX0_labelOf 15 = .ok (.laload, 1) := by decide +kernel
theorem dX0_labelOf_16 : decode cX0_labelOf 16 = .ok (.lload_n 1, 1) := by decide +kernel
theorem dX0_labelOf_17 : decode cX0_labelOf 17 = .ok (.lcmp, 1) := by decide +kernel
theorem dX0_labelOf_18 : decode cX0_labelOf 18 = .ok (.ifCond .ne 5, 3) := by decide +kernel
theorem dX0_labelOf_21 : decode cX0_labelOf 21 = .ok (.iload_n 3, 1) := by decide +kernel
theorem dX0_labelOf_22 : decode cX0_labelOf 22 = .ok (.ireturn, 1) := by decide +kernel
theorem dX0_labelOf_23 : decode cX0_labelOf 23 = .ok (.iinc 3 1, 3) := by decide +kernel
theorem dX0_labelOf_26 : decode cX0_labelOf 26 = .ok (.goto (-24), 3) := by decide +kernel
theorem dX0_labelOf_29 : decode cX0_labelOf 29 = .ok (.iconst (-1), 1) := by decide +kernel
theorem dX0_labelOf_30 : decode cX0_labelOf 30 = .ok (.ireturn, 1) := by decide +kernel
theorem cc_X0_labelOf : Cond.code yX0_labelOf cX0_labelOf 4 (some .int) ∈ rf_tb := rf_at 800 (by decide +kernel) (by decide +kernel)
noncomputable def lc_X0_labelOf_2 (a : Nat) (x1 : Int64) (x3 : Int32) (σ : cl_S) : Option ((Int32 × cl_S) ⊕ ((Int32 × cl_S) ⊕ (Int32 × cl_S))) := (if (σ.1 a 7) ≤ x3 then some (.inr (.inr (x3, σ))) else ix x3 200 ((if (lg_cmp (σ.2.1 (a + 3) x3.toNatClampNeg) x1) = 0 then some (.inr (.inl (x3, σ))) else vl (x3 + (1:Int32)) (fun x3_4 => some (.inl (x3_4, σ))))))
noncomputable def ec_X0_labelOf_2 (a : Nat) (x1 : Int64) (x3 : Int32) (σ : cl_S) : Option (Int32 × cl_S) := some ((-1:Int32), σ)
noncomputable def bc_X0_labelOf_2 (a : Nat) (x1 : Int64) (x3 : Int32) (σ : cl_S) : Option (Int32 × cl_S) := (lp (fun z : (Int32 × cl_S) => lc_X0_labelOf_2 a x1 z.1 z.2) (x3, σ)).bind (fun y => Sum.elim (fun z => some z) (fun z => ec_X0_labelOf_2 a x1 z.1 z.2) y)
set_option maxHeartbeats 4000000 in
theorem wc_X0_labelOf_2 (C : cl_C D p s m args meth c cX0_labelOf 4 (some .int) RX0) {r : Int32} {a : Nat} {x1 : Int64} {x3 : Int32} {σ0 σ σ' : cl_S} {T : Nat → Nat × Nat} {H : Heap} {locs : List Loc} {ls : Array Slot} {cells slots : Nat} (h : bc_X0_labelOf_2 a x1 x3 σ = some (r, σ')) (G : cl_G true D c0 ({ frames := 0, cells := σ0.2.2.2.2.2.1, slots := σ0.2.2.2.2.2.2, locals := 0 }) s σ0.2.2.2.1 T σ H locs cells slots) (ha : (T a).1 = 16) (hl : lv_has ls 4 [(0, .ref (c0 + a)), (1, .long x1), (3, .int x3)]) : W p l e ({ frames := 0, cells := σ0.2.2.2.2.2.1, slots := σ0.2.2.2.2.2.2, locals := 0 }) s m args below meth c H locs cells slots (MQ below (cl_Q true D c0 (some (.int r)) cl_no σ0 σ') args s (σ0.2.2.2.2.2.1 - σ'.2.2.2.2.2.1) (σ0.2.2.2.2.2.2 - σ'.2.2.2.2.2.2) (cl_A c0 σ0.2.2.2.1 s.heap.size)) (F0 m 2 ls []) := by
  unfold bc_X0_labelOf_2 at h
  obtain ⟨y, hy, h⟩ := bd_some h
  have hE : (Sum.elim (fun z : Int32 × cl_S => z = (r, σ')) (fun z : (Int32 × cl_S) => ∀ (T : Nat → Nat × Nat) (H : Heap) (locs : List Loc) (ls : Array Slot) (cells slots : Nat), cl_G true D c0 ({ frames := 0, cells := σ0.2.2.2.2.2.1, slots := σ0.2.2.2.2.2.2, locals := 0 }) s σ0.2.2.2.1 T z.2 H locs cells slots → (T a).1 = 16 → lv_has ls 4 [(0, .ref (c0 + a)), (1, .long x1), (3, .int (z.1))] → W p l e ({ frames := 0, cells := σ0.2.2.2.2.2.1, slots := σ0.2.2.2.2.2.2, locals := 0 }) s m args below meth c H locs cells slots (MQ below (cl_Q true D c0 (some (.int r)) cl_no σ0 σ') args s (σ0.2.2.2.2.2.1 - σ'.2.2.2.2.2.1) (σ0.2.2.2.2.2.2 - σ'.2.2.2.2.2.2) (cl_A c0 σ0.2.2.2.1 s.heap.size)) (F0 m 29 ls []))) y := by
    clear hy G ha hl
    cases y with
    | inl z =>
      exact Option.some.inj h
    | inr z =>
      intro T H locs ls cells slots G ha hl
      have h := se_r h
      obtain ⟨x3, σ⟩ := z
      dsimp only at h G ha hl
      unfold ec_X0_labelOf_2 at h
      refine lv_iconst (v := (-1:Int32)) C.1 C.2.1 dX0_labelOf_29 (by decide) ?_
      exact cl_iret ⟨rfl, rfl⟩ rfl C G h dX0_labelOf_30
  refine lp_recE (fun z : (Int32 × cl_S) => ∀ (T : Nat → Nat × Nat) (H : Heap) (locs : List Loc) (ls : Array Slot) (cells slots : Nat), cl_G true D c0 ({ frames := 0, cells := σ0.2.2.2.2.2.1, slots := σ0.2.2.2.2.2.2, locals := 0 }) s σ0.2.2.2.1 T z.2 H locs cells slots → (T a).1 = 16 → lv_has ls 4 [(0, .ref (c0 + a)), (1, .long x1), (3, .int (z.1))] → W p l e ({ frames := 0, cells := σ0.2.2.2.2.2.1, slots := σ0.2.2.2.2.2.2, locals := 0 }) s m args below meth c H locs cells slots (MQ below (cl_Q true D c0 (some (.int r)) cl_no σ0 σ') args s (σ0.2.2.2.2.2.1 - σ'.2.2.2.2.2.1) (σ0.2.2.2.2.2.2 - σ'.2.2.2.2.2.2) (cl_A c0 σ0.2.2.2.1 s.heap.size)) (F0 m 2 ls [])) (Sum.elim (fun z : Int32 × cl_S => z = (r, σ')) (fun z : (Int32 × cl_S) => ∀ (T : Nat → Nat × Nat) (H : Heap) (locs : List Loc) (ls : Array Slot) (cells slots : Nat), cl_G true D c0 ({ frames := 0, cells := σ0.2.2.2.2.2.1, slots := σ0.2.2.2.2.2.2, locals := 0 }) s σ0.2.2.2.1 T z.2 H locs cells slots → (T a).1 = 16 → lv_has ls 4 [(0, .ref (c0 + a)), (1, .long x1), (3, .int (z.1))] → W p l e ({ frames := 0, cells := σ0.2.2.2.2.2.1, slots := σ0.2.2.2.2.2.2, locals := 0 }) s m args below meth c H locs cells slots (MQ below (cl_Q true D c0 (some (.int r)) cl_no σ0 σ') args s (σ0.2.2.2.2.2.1 - σ'.2.2.2.2.2.1) (σ0.2.2.2.2.2.2 - σ'.2.2.2.2.2.2) (cl_A c0 σ0.2.2.2.1 s.heap.size)) (F0 m 29 ls []))) ?_ _ _ hy hE _ _ _ _ _ _ G ha hl
  clear hE hy G ha hl h
  intro z o h hP T H locs ls cells slots G ha hl
  obtain ⟨x3, σ⟩ := z
  dsimp only at h G ha hl
  unfold lc_X0_labelOf_2 at h
  refine lv_iload_n C.1 C.2.1 dX0_labelOf_2 rfl (lv_at hl 2 rfl) ?_
  refine lv_aload_n C.1 C.2.1 dX0_labelOf_3 rfl (lv_at hl 0 rfl) ?_
  refine cg_0_61 C G ha dX0_labelOf_4 ?_
  refine lv_icmp_ge (tgt := 29) C.1 C.2.1 dX0_labelOf_7 (by decide) (fun hc => ?_) (fun hc => ?_)
  · rw [if_pos hc] at h
    cases h
    exact hP _ _ _ _ _ _ G ha (lv_sub hl [0, 1, 2] rfl)
  · rw [if_neg hc] at h
    refine lv_aload_n C.1 C.2.1 dX0_labelOf_10 rfl (lv_at hl 0 rfl) ?_
    refine cg_0_19 C G ha dX0_labelOf_11 (fun t_2 => ?_)
    refine lv_iload_n C.1 C.2.1 dX0_labelOf_14 rfl (lv_at hl 2 rfl) ?_
    obtain ⟨hi, h_3⟩ := ix_some h
    refine cl_lald C G t_2 hi dX0_labelOf_15 ?_
    refine lv_lload_n C.1 C.2.1 dX0_labelOf_16 rfl (lv_at hl 1 rfl) ?_
    refine W.lcmp C.1 C.2.1 dX0_labelOf_17 ?_
    refine lv_if_ne (tgt := 23) C.1 C.2.1 dX0_labelOf_18 (by decide) (fun hc => ?_) (fun hc => ?_)
    · rw [if_neg hc] at h_3
      refine vl_ex h_3 (fun x3_4 ey h_5 => ?_)
      refine lv_iinc (v := x3_4) (lv' := [(3, .int x3_4), (0, .ref (c0 + a)), (1, .long x1)]) C.1 C.2.1 dX0_labelOf_23 hl (k := 2) rfl (by rw [ey]; rfl) (by decide) rfl (fun ls hl_6 => ?_)
      refine lv_goto (tgt := 2) C.1 C.2.1 dX0_labelOf_26 (by decide) ?_
      cases h_5
      exact hP _ _ _ _ _ _ G ha (lv_sub hl_6 [1, 2, 0] rfl)
    · rw [if_pos hc] at h_3
      refine lv_iload_n C.1 C.2.1 dX0_labelOf_21 rfl (lv_at hl 2 rfl) ?_
      cases h_3
      have hP := congrArg some hP
      exact cl_iret ⟨rfl, rfl⟩ rfl C G hP dX0_labelOf_22
noncomputable def bc_X0_labelOf_0 (a : Nat) (x1 : Int64) (σ : cl_S) : Option (Int32 × cl_S) := bc_X0_labelOf_2 a x1 (0:Int32) σ
set_option maxHeartbeats 4000000 in
theorem wc_X0_labelOf_0 (C : cl_C D p s m args meth c cX0_labelOf 4 (some .int) RX0) {r : Int32} {a : Nat} {x1 : Int64} {σ0 σ σ' : cl_S} {T : Nat → Nat × Nat} {H : Heap} {locs : List Loc} {ls : Array Slot} {cells slots : Nat} (h : bc_X0_labelOf_0 a x1 σ = some (r, σ')) (G : cl_G true D c0 ({ frames := 0, cells := σ0.2.2.2.2.2.1, slots := σ0.2.2.2.2.2.2, locals := 0 }) s σ0.2.2.2.1 T σ H locs cells slots) (ha : (T a).1 = 16) (hl : lv_has ls 4 [(0, .ref (c0 + a)), (1, .long x1)]) : W p l e ({ frames := 0, cells := σ0.2.2.2.2.2.1, slots := σ0.2.2.2.2.2.2, locals := 0 }) s m args below meth c H locs cells slots (MQ below (cl_Q true D c0 (some (.int r)) cl_no σ0 σ') args s (σ0.2.2.2.2.2.1 - σ'.2.2.2.2.2.1) (σ0.2.2.2.2.2.2 - σ'.2.2.2.2.2.2) (cl_A c0 σ0.2.2.2.1 s.heap.size)) (F0 m 0 ls []) := by
  unfold bc_X0_labelOf_0 at h
  refine lv_iconst (v := (0:Int32)) C.1 C.2.1 dX0_labelOf_0 (by decide) ?_
  refine lv_istore_n (lv' := [(3, .int (0:Int32)), (0, .ref (c0 + a)), (1, .long x1)]) C.1 C.2.1 dX0_labelOf_1 rfl hl (by decide) rfl (fun ls hl_1 => ?_)
  exact wc_X0_labelOf_2 C h G ha (lv_sub hl_1 [1, 2, 0] rfl)
noncomputable def fc_X0_labelOf (a : Nat) (x1 : Int64) (σ : cl_S) : Option (Int32 × cl_S) := bc_X0_labelOf_0 a x1 σ
theorem kc_X0_labelOf (l : Launch) (D : cl_D) (c0 : Nat) {r : Int32} {a : Nat} {x1 : Int64} {σ σ' : cl_S} (ha : (σ.2.2.2.1 a).1 = 16) (h : fc_X0_labelOf a x1 σ = some (r, σ')) : cl_Met true l D c0 yX0_labelOf cX0_labelOf 4 (some .int) 0 0 [.ref (c0 + a), .long x1] σ (some (.int r)) cl_no σ' :=
  cl_of (by decide) (Nat.le_of_ble_eq_true rfl) (fun p e s m args below meth c ls C hn G hl => wc_X0_labelOf_0 C h G ha hl)
abbrev cX0_fail : ByteArray := prog_2_method_6_code
def yX0_fail : MethodName := ⟨RX0, "fail", "(II)V"⟩
theorem dX0_fail_0 : decode cX0_fail 0 = .ok (.aload_n 0, 1) := by decide +kernel
theorem dX0_fail_1 : decode cX0_fail 1 = .ok (.getfield 67, 3) := by decide +kernel
theorem dX0_fail_4 : decode cX0_fail 4 = .ok (.ifCond .ne 13, 3) := by decide +kernel
theorem dX0_fail_7 : decode cX0_fail 7 = .ok (.aload_n 0, 1) := by decide +kernel
theorem dX0_fail_8 : decode cX0_fail 8 = .ok (.iload_n 1, 1) := by decide +kernel
theorem dX0_fail_9 : decode cX0_fail 9 = .ok (.putfield 67, 3) := by decide +kernel
theorem dX0_fail_12 : decode cX0_fail 12 = .ok (.aload_n 0, 1) := by decide +kernel
theorem dX0_fail_13 : decode cX0_fail 13 = .ok (.iload_n 2, 1) := by decide +kernel
theorem dX0_fail_14 : decode cX0_fail 14 = .ok (.putfield 34, 3) := by decide +kernel
theorem dX0_fail_17 : decode cX0_fail 17 = .ok (.return_, 1) := by decide +kernel
theorem cc_X0_fail : Cond.code yX0_fail cX0_fail 3 none ∈ rf_tb := rf_at 804 (by decide +kernel) (by decide +kernel)
noncomputable def bc_X0_fail_0 (a : Nat) (x1 : Int32) (x2 : Int32) (σ : cl_S) : Option (cl_S) := (if (σ.1 a 12) = 0 then vl (cl_w σ a 12 x1) (fun σ_1 => vl (cl_w σ_1 a 13 x2) (fun σ_5 => some σ_5)) else some σ)
set_option maxHeartbeats 4000000 in
theorem wc_X0_fail_0 (C : cl_C D p s m args meth c cX0_fail 3 none RX0) {a : Nat} {x1 : Int32} {x2 : Int32} {σ0 σ σ' : cl_S} {T : Nat → Nat × Nat} {H : Heap} {locs : List Loc} {ls : Array Slot} {cells slots : Nat} (h : bc_X0_fail_0 a x1 x2 σ = some σ') (G : cl_G true D c0 ({ frames := 0, cells := σ0.2.2.2.2.2.1, slots := σ0.2.2.2.2.2.2, locals := 0 }) s σ0.2.2.2.1 T σ H locs cells slots) (ha : (T a).1 = 16) (hl : lv_has ls 3 [(0, .ref (c0 + a)), (1, .int x1), (2, .int x2)]) : W p l e ({ frames := 0, cells := σ0.2.2.2.2.2.1, slots := σ0.2.2.2.2.2.2, locals := 0 }) s m args below meth c H locs cells slots (MQ below (cl_Q true D c0 none cl_no σ0 σ') args s (σ0.2.2.2.2.2.1 - σ'.2.2.2.2.2.1) (σ0.2.2.2.2.2.2 - σ'.2.2.2.2.2.2) (cl_A c0 σ0.2.2.2.1 s.heap.size)) (F0 m 0 ls []) := by
  unfold bc_X0_fail_0 at h
  refine lv_aload_n C.1 C.2.1 dX0_fail_0 rfl (lv_at hl 0 rfl) ?_
  refine cg_0_67 C G ha dX0_fail_1 ?_
  refine lv_if_ne (tgt := 17) C.1 C.2.1 dX0_fail_4 (by decide) (fun hc => ?_) (fun hc => ?_)
  · rw [if_neg hc] at h
    exact cl_vret ⟨rfl, rfl⟩ rfl C G h dX0_fail_17
  · rw [if_pos hc] at h
    refine lv_aload_n C.1 C.2.1 dX0_fail_7 rfl (lv_at hl 0 rfl) ?_
    refine lv_iload_n C.1 C.2.1 dX0_fail_8 rfl (lv_at hl 1 rfl) ?_
    refine cp_0_67 C G ha dX0_fail_9 (fun H locs G_2 => ?_)
    refine cl_nm G_2 h (fun σ_1 G_3 h_4 => ?_)
    refine lv_aload_n C.1 C.2.1 dX0_fail_12 rfl (lv_at hl 0 rfl) ?_
    refine lv_iload_n C.1 C.2.1 dX0_fail_13 rfl (lv_at hl 2 rfl) ?_
    refine cp_0_34 C G_3 ha dX0_fail_14 (fun H locs G_6 => ?_)
    refine cl_nm G_6 h_4 (fun σ_5 G_7 h_8 => ?_)
    exact cl_vret ⟨rfl, rfl⟩ rfl C G_7 h_8 dX0_fail_17
noncomputable def fc_X0_fail (a : Nat) (x1 : Int32) (x2 : Int32) (σ : cl_S) : Option (cl_S) := bc_X0_fail_0 a x1 x2 σ
theorem kc_X0_fail (l : Launch) (D : cl_D) (c0 : Nat) {a : Nat} {x1 : Int32} {x2 : Int32} {σ σ' : cl_S} (ha : (σ.2.2.2.1 a).1 = 16) (h : fc_X0_fail a x1 x2 σ = some σ') : cl_Met true l D c0 yX0_fail cX0_fail 3 none 0 0 [.ref (c0 + a), .int x1, .int x2] σ none cl_no σ' :=
  cl_of (by decide) (Nat.le_of_ble_eq_true rfl) (fun p e s m args below meth c ls C hn G hl => wc_X0_fail_0 C h G ha hl)
abbrev cX0_tellLabel : ByteArray := prog_2_method_9_code
def yX0_tellLabel : MethodName := ⟨RX0, "tellLabel", "(JI)V"⟩
theorem dX0_tellLabel_0 : decode cX0_tellLabel 0 = .ok (.aload_n 0, 1) := by decide +kernel
theorem dX0_tellLabel_1 : decode cX0_tellLabel 1 = .ok (.lload_n 1, 1) := by decide +kernel
theorem dX0_tellLabel_2 : decode cX0_tellLabel 2 = .ok (.invokevirtual 119, 3) := by decide +kernel
theorem dX0_tellLabel_5 : decode cX0_tellLabel 5 = .ok (.ifCond .lt 12, 3) := by decide +kernel
theorem dX0_tellLabel_8 : decode cX0_tellLabel 8 = .ok (.aload_n 0, 1) := by decide +kernel
theorem dX0_tellLabel_9 : decode cX0_tellLabel 9 = .ok (.iconst 4, 1) := by decide +kernel
theorem dX0_tellLabel_10 : decode cX0_tellLabel 10 = .ok (.iload_n 3, 1) := by decide +kernel
theorem dX0_tellLabel_11 : decode cX0_tellLabel 11 = .ok (.invokevirtual 99, 3) := by decide +kernel
theorem dX0_tellLabel_14 : decode cX0_tellLabel 14 = .ok (.goto 56, 3) := by decide +kernel
theorem dX0_tellLabel_17 : decode cX0_tellLabel 17 = .ok (.aload_n 0, 1) := by decide +kernel
theorem dX0_tellLabel_18 : decode cX0_tellLabel 18 = .ok (.getfield 61, 3) := by decide +kernel
theorem dX0_tellLabel_21 : decode cX0_tellLabel 21 = .ok (.sipush 200, 3) := by decide +kernel
theorem dX0_tellLabel_24 : decode cX0_tellLabel 24 = .ok (.if_icmp .lt 13, 3) := by decide +kernel
theorem dX0_tellLabel_27 : decode cX0_tellLabel 27 = .ok (.aload_n 0, 1) := by decide +kernel
theorem dX0_tellLabel_28 : decode cX0_tellLabel 28 = .ok (.bipush 6, 2) := by decide +kernel
theorem dX0_tellLabel_30 : decode cX0_tellLabel 30 = .ok (.iload_n 3, 1) := by decide +kernel
theorem dX0_tellLabel_31 : decode cX0_tellLabel 31 = .ok (.invokevirtual 99, 3) := by decide +kernel
theorem dX0_tellLabel_34 : decode cX0_tellLabel 34 = .ok (.goto 36, 3) := by decide +kernel
theorem dX0_tellLabel_37 : decode cX0_tellLabel 37 = .ok (.aload_n 0, 1) := by decide +kernel
theorem dX0_tellLabel_38 : decode cX0_tellLabel 38 = .ok (.getfield 19, 3) := by decide +kernel
theorem dX0_tellLabel_41 : decode cX0_tellLabel 41 = .ok (.aload_n 0, 1) := by decide +kernel
theorem dX0_tellLabel_42 : decode cX0_tellLabel 42 = .ok (.getfield 61, 3) := by decide +kernel
theorem dX0_tellLabel_45 : decode cX0_tellLabel 45 = .ok (.lload_n 1, 1) := by decide +kernel
theorem dX0_tellLabel_46 : decode cX0_tellLabel 46 = .ok (.lastore, 1) := by decide +kernel
theorem dX0_tellLabel_47 : decode cX0_tellLabel 47 = .ok (.aload_n 0, 1) := by decide +kernel
theorem dX0_tellLabel_48 : decode cX0_tellLabel 48 = .ok (.getfield 22, 3) := by decide +kernel
theorem dX0_tellLabel_51 : decode cX0_tellLabel 51 = .ok (.aload_n 0, 1) := by decide +kernel
theorem dX0_tellLabel_52 : decode cX0_tellLabel 52 = .ok (.getfield 61, 3) := by decide +kernel
theorem dX0_tellLabel_55 : decode cX0_tellLabel 55 = .ok (.aload_n 0, 1) := by decide +kernel
theorem dX0_tellLabel_56 : decode cX0_tellLabel 56 = .ok (.getfield 58, 3) := by decide +kernel
theorem dX0_tellLabel_59 : decode cX0_tellLabel 59 = .ok (.iastore, 1) := by decide +kernel
theorem dX0_tellLabel_60 : decode cX0_tellLabel 60 = .ok (.aload_n 0, 1) := by decide +kernel
theorem dX0_tellLabel_61 : decode cX0_tellLabel 61 = .ok (.dup, 1) := by decide +kernel
theorem dX0_tellLabel_62 : decode cX0_tellLabel 62 = .ok (.getfield 61, 3) := by decide +kernel
theorem dX0_tellLabel_65 : decode cX0_tellLabel 65 = .ok (.iconst 1, 1) := by decide +kernel
theorem dX0_tellLabel_66 : decode cX0_tellLabel 66 = .ok (.iadd, 1) := by decide +kernel
theorem dX0_tellLabel_67 : decode cX0_tellLabel 67 = .ok (.putfield 61, 3) := by decide +kernel
theorem dX0_tellLabel_70 : decode cX0_tellLabel 70 = .ok (.return_, 1) := by decide +kernel
theorem cc_X0_tellLabel : Cond.code yX0_tellLabel cX0_tellLabel 4 none ∈ rf_tb := rf_at 796 (by decide +kernel) (by decide +kernel)
theorem cw_RX0_99 : cl_wV RX0 RX0 yX0_fail cX0_fail 3 none 99 2 := ⟨⟨rf_at 801 (by decide +kernel) (by decide +kernel), rf_at 803 (by decide +kernel) (by decide +kernel), rf_sel (q := (yX0_fail, 16)) 9 (by decide +kernel) (by decide +kernel), cc_X0_fail, rf_at 3 (by decide +kernel) (by decide +kernel)⟩, ⟨by decide, by decide, by decide +kernel⟩⟩
theorem cw_RX0_119 : cl_wV RX0 RX0 yX0_labelOf cX0_labelOf 4 (some .int) 119 1 := ⟨⟨rf_at 797 (by decide +kernel) (by decide +kernel), rf_at 799 (by decide +kernel) (by decide +kernel), rf_sel (q := (yX0_labelOf, 16)) 8 (by decide +kernel) (by decide +kernel), cc_X0_labelOf, rf_at 3 (by decide +kernel) (by decide +kernel)⟩, ⟨by decide, by decide, by decide +kernel⟩⟩
noncomputable def bc_X0_tellLabel_0 (a : Nat) (x1 : Int64) (x3 : Int32) (σ : cl_S) : Option (cl_S) := bd2 (fc_X0_labelOf a x1 σ) (fun r_2 σ_1 => (if r_2 < 0 then (if (σ_1.1 a 7) < (200:Int32) then ix (σ_1.1 a 7) 200 (vl (cl_wl σ_1 (a + 3) (σ_1.1 a 7).toNatClampNeg x1) (fun σ_8 => ix (σ_8.1 a 7) 200 (vl (cl_w σ_8 (a + 4) (σ_8.1 a 7).toNatClampNeg (σ_8.1 a 4)) (fun σ_14 => vl (cl_w σ_14 a 7 ((σ_14.1 a 7) + (1:Int32))) (fun σ_19 => some σ_19))))) else bd1 (fc_X0_fail a (6:Int32) x3 σ_1) (fun σ_23 => some σ_23)) else bd1 (fc_X0_fail a (4:Int32) x3 σ_1) (fun σ_28 => some σ_28)))
set_option maxHeartbeats 4000000 in
theorem wc_X0_tellLabel_0 (C : cl_C D p s m args meth c cX0_tellLabel 4 none RX0) {a : Nat} {x1 : Int64} {x3 : Int32} {σ0 σ σ' : cl_S} {T : Nat → Nat × Nat} {H : Heap} {locs : List Loc} {ls : Array Slot} {cells slots : Nat} (h : bc_X0_tellLabel_0 a x1 x3 σ = some σ') (G : cl_G true D c0 ({ frames := 1, cells := σ0.2.2.2.2.2.1, slots := σ0.2.2.2.2.2.2, locals := 23 }) s σ0.2.2.2.1 T σ H locs cells slots) (ha : (T a).1 = 16) (hl : lv_has ls 4 [(0, .ref (c0 + a)), (1, .long x1), (3, .int x3)]) : W p l e ({ frames := 1, cells := σ0.2.2.2.2.2.1, slots := σ0.2.2.2.2.2.2, locals := 23 }) s m args below meth c H locs cells slots (MQ below (cl_Q true D c0 none cl_no σ0 σ') args s (σ0.2.2.2.2.2.1 - σ'.2.2.2.2.2.1) (σ0.2.2.2.2.2.2 - σ'.2.2.2.2.2.2) (cl_A c0 σ0.2.2.2.1 s.heap.size)) (F0 m 0 ls []) := by
  unfold bc_X0_tellLabel_0 at h
  refine lv_aload_n C.1 C.2.1 dX0_tellLabel_0 rfl (lv_at hl 0 rfl) ?_
  refine lv_lload_n C.1 C.2.1 dX0_tellLabel_1 rfl (lv_at hl 1 rfl) ?_
  obtain ⟨r_2, σ_1, hq, h_3⟩ := bd2_some h
  refine cl_callV (ci := 0) (rest := []) C G rfl ha cw_RX0_119 [.long x1] _ (kc_X0_labelOf l D c0 (by rw [G.1]; exact ha) hq) (Nat.le_of_ble_eq_true rfl) (Nat.le_of_ble_eq_true rfl) rfl rfl hl.1 (Nat.le_of_ble_eq_true rfl) dX0_tellLabel_2 (fun T_4 H locs cells slots t_5 hu G_6 => ?_)
  have ha := hu.kind ha (by decide)
  refine W.eq (g2 := F0 m 5 ls [.int r_2]) rfl ?_
  refine lv_if_lt (tgt := 17) C.1 C.2.1 dX0_tellLabel_5 (by decide) (fun hc => ?_) (fun hc => ?_)
  · rw [if_pos hc] at h_3
    refine lv_aload_n C.1 C.2.1 dX0_tellLabel_17 rfl (lv_at hl 0 rfl) ?_
    refine cg_0_61 C G_6 ha dX0_tellLabel_18 ?_
    refine lv_sipush (v := (200:Int32)) C.1 C.2.1 dX0_tellLabel_21 (by decide) ?_
    refine lv_icmp_lt (tgt := 37) C.1 C.2.1 dX0_tellLabel_24 (by decide) (fun hc => ?_) (fun hc => ?_)
    · rw [if_pos hc] at h_3
      refine lv_aload_n C.1 C.2.1 dX0_tellLabel_37 rfl (lv_at hl 0 rfl) ?_
      refine cg_0_19 C G_6 ha dX0_tellLabel_38 (fun t_7 => ?_)
      refine lv_aload_n C.1 C.2.1 dX0_tellLabel_41 rfl (lv_at hl 0 rfl) ?_
      refine cg_0_61 C G_6 ha dX0_tellLabel_42 ?_
      refine lv_lload_n C.1 C.2.1 dX0_tellLabel_45 rfl (lv_at hl 1 rfl) ?_
      obtain ⟨hi, h_9⟩ := ix_some h_3
      refine cl_last C G_6 t_7 hi dX0_tellLabel_46 (fun H locs G_10 => ?_)
      refine cl_nm G_10 h_9 (fun σ_8 G_11 h_12 => ?_)
      refine lv_aload_n C.1 C.2.1 dX0_tellLabel_47 rfl (lv_at hl 0 rfl) ?_
      refine cg_0_22 C G_11 ha dX0_tellLabel_48 (fun t_13 => ?_)
      refine lv_aload_n C.1 C.2.1 dX0_tellLabel_51 rfl (lv_at hl 0 rfl) ?_
      refine cg_0_61 C G_11 ha dX0_tellLabel_52 ?_
      refine lv_aload_n C.1 C.2.1 dX0_tellLabel_55 rfl (lv_at hl 0 rfl) ?_
      refine cg_0_58 C G_11 ha dX0_tellLabel_56 ?_
      obtain ⟨hi, h_15⟩ := ix_some h_12
      refine cl_iast C G_11 t_13 hi dX0_tellLabel_59 (fun H locs G_16 => ?_)
      refine cl_nm G_16 h_15 (fun σ_14 G_17 h_18 => ?_)
      refine lv_aload_n C.1 C.2.1 dX0_tellLabel_60 rfl (lv_at hl 0 rfl) ?_
      refine lv_dup C.1 C.2.1 dX0_tellLabel_61 rfl ?_
      refine cg_0_61 C G_17 ha dX0_tellLabel_62 ?_
      refine lv_iconst (v := (1:Int32)) C.1 C.2.1 dX0_tellLabel_65 (by decide) ?_
      refine lv_iadd C.1 C.2.1 dX0_tellLabel_66 ?_
      refine cp_0_61 C G_17 ha dX0_tellLabel_67 (fun H locs G_20 => ?_)
      refine cl_nm G_20 h_18 (fun σ_19 G_21 h_22 => ?_)
      exact cl_vret ⟨rfl, rfl⟩ rfl C G_21 h_22 dX0_tellLabel_70
    · rw [if_neg hc] at h_3
      refine lv_aload_n C.1 C.2.1 dX0_tellLabel_27 rfl (lv_at hl 0 rfl) ?_
      refine lv_bipush (v := (6:Int32)) C.1 C.2.1 dX0_tellLabel_28 (by decide) ?_
      refine lv_iload_n C.1 C.2.1 dX0_tellLabel_30 rfl (lv_at hl 2 rfl) ?_
      obtain ⟨σ_23, hq, h_24⟩ := bd1_some h_3
      refine cl_callV (ci := 0) (rest := []) C G_6 rfl ha cw_RX0_99 [.int (6:Int32), .int x3] _ (kc_X0_fail l D c0 (by rw [G_6.1]; exact ha) hq) (Nat.le_of_ble_eq_true rfl) (Nat.le_of_ble_eq_true rfl) rfl rfl hl.1 (Nat.le_of_ble_eq_true rfl) dX0_tellLabel_31 (fun T_25 H locs cells slots t_26 hu G_27 => ?_)
      have ha := hu.kind ha (by decide)
      refine W.eq (g2 := F0 m 34 ls []) rfl ?_
      refine lv_goto (tgt := 70) C.1 C.2.1 dX0_tellLabel_34 (by decide) ?_
      exact cl_vret ⟨rfl, rfl⟩ rfl C G_27 h_24 dX0_tellLabel_70
  · rw [if_neg hc] at h_3
    refine lv_aload_n C.1 C.2.1 dX0_tellLabel_8 rfl (lv_at hl 0 rfl) ?_
    refine lv_iconst (v := (4:Int32)) C.1 C.2.1 dX0_tellLabel_9 (by decide) ?_
    refine lv_iload_n C.1 C.2.1 dX0_tellLabel_10 rfl (lv_at hl 2 rfl) ?_
    obtain ⟨σ_28, hq, h_29⟩ := bd1_some h_3
    refine cl_callV (ci := 0) (rest := []) C G_6 rfl ha cw_RX0_99 [.int (4:Int32), .int x3] _ (kc_X0_fail l D c0 (by rw [G_6.1]; exact ha) hq) (Nat.le_of_ble_eq_true rfl) (Nat.le_of_ble_eq_true rfl) rfl rfl hl.1 (Nat.le_of_ble_eq_true rfl) dX0_tellLabel_11 (fun T_30 H locs cells slots t_31 hu G_32 => ?_)
    have ha := hu.kind ha (by decide)
    refine W.eq (g2 := F0 m 14 ls []) rfl ?_
    refine lv_goto (tgt := 70) C.1 C.2.1 dX0_tellLabel_14 (by decide) ?_
    exact cl_vret ⟨rfl, rfl⟩ rfl C G_32 h_29 dX0_tellLabel_70
noncomputable def fc_X0_tellLabel (a : Nat) (x1 : Int64) (x3 : Int32) (σ : cl_S) : Option (cl_S) := bc_X0_tellLabel_0 a x1 x3 σ
theorem kc_X0_tellLabel (l : Launch) (D : cl_D) (c0 : Nat) {a : Nat} {x1 : Int64} {x3 : Int32} {σ σ' : cl_S} (ha : (σ.2.2.2.1 a).1 = 16) (h : fc_X0_tellLabel a x1 x3 σ = some σ') : cl_Met true l D c0 yX0_tellLabel cX0_tellLabel 4 none 1 23 [.ref (c0 + a), .long x1, .int x3] σ none cl_no σ' :=
  cl_of (by decide) (Nat.le_of_ble_eq_true rfl) (fun p e s m args below meth c ls C hn G hl => wc_X0_tellLabel_0 C h G ha hl)
abbrev cX0_advance : ByteArray := prog_2_method_5_code
def yX0_advance : MethodName := ⟨RX0, "advance", "()V"⟩
theorem dX0_advance_0 : decode cX0_advance 0 = .ok (.aload_n 0, 1) := by decide +kernel
theorem dX0_advance_1 : decode cX0_advance 1 = .ok (.getfield 70, 3) := by decide +kernel
theorem dX0_advance_4 : decode cX0_advance 4 = .ok (.iconst 1, 1) := by decide +kernel
theorem dX0_advance_5 : decode cX0_advance 5 = .ok (.iadd, 1) := by decide +kernel
theorem dX0_advance_6 : decode cX0_advance 6 = .ok (.aload_n 0, 1) := by decide +kernel
theorem dX0_advance_7 : decode cX0_advance 7 = .ok (.getfield 42, 3) := by decide +kernel
theorem dX0_advance_10 : decode cX0_advance 10 = .ok (.getfield 95, 3) := by decide +kernel
theorem dX0_advance_13 : decode cX0_advance 13 = .ok (.if_icmp .ge 13, 3) := by decide +kernel
theorem dX0_advance_16 : decode cX0_advance 16 = .ok (.aload_n 0, 1) := by decide +kernel
theorem dX0_advance_17 : decode cX0_advance 17 = .ok (.dup, 1) := by decide +kernel
theorem dX0_advance_18 : decode cX0_advance 18 = .ok (.getfield 70, 3) := by decide +kernel
theorem dX0_advance_21 : decode cX0_advance 21 = .ok (.iconst 1, 1) := by decide +kernel
theorem dX0_advance_22 : decode cX0_advance 22 = .ok (.iadd, 1) := by decide +kernel
theorem dX0_advance_23 : decode cX0_advance 23 = .ok (.putfield 70, 3) := by decide +kernel
theorem dX0_advance_26 : decode cX0_advance 26 = .ok (.return_, 1) := by decide +kernel
theorem cc_X0_advance : Cond.code yX0_advance cX0_advance 1 none ∈ rf_tb := rf_at 808 (by decide +kernel) (by decide +kernel)
noncomputable def bc_X0_advance_0 (a : Nat) (σ : cl_S) : Option (cl_S) := (if (σ.1 1 6) ≤ ((σ.1 a 2) + (1:Int32)) then some σ else vl (cl_w σ a 2 ((σ.1 a 2) + (1:Int32))) (fun σ_2 => some σ_2))
set_option maxHeartbeats 4000000 in
theorem wc_X0_advance_0 (C : cl_C D p s m args meth c cX0_advance 1 none RX0) {a : Nat} {σ0 σ σ' : cl_S} {T : Nat → Nat × Nat} {H : Heap} {locs : List Loc} {ls : Array Slot} {cells slots : Nat} (h : bc_X0_advance_0 a σ = some σ') (G : cl_G true D c0 ({ frames := 0, cells := σ0.2.2.2.2.2.1, slots := σ0.2.2.2.2.2.2, locals := 0 }) s σ0.2.2.2.1 T σ H locs cells slots) (ha : (T a).1 = 16) (hl : lv_has ls 1 [(0, .ref (c0 + a))]) : W p l e ({ frames := 0, cells := σ0.2.2.2.2.2.1, slots := σ0.2.2.2.2.2.2, locals := 0 }) s m args below meth c H locs cells slots (MQ below (cl_Q true D c0 none cl_no σ0 σ') args s (σ0.2.2.2.2.2.1 - σ'.2.2.2.2.2.1) (σ0.2.2.2.2.2.2 - σ'.2.2.2.2.2.2) (cl_A c0 σ0.2.2.2.1 s.heap.size)) (F0 m 0 ls []) := by
  unfold bc_X0_advance_0 at h
  refine lv_aload_n C.1 C.2.1 dX0_advance_0 rfl (lv_at hl 0 rfl) ?_
  refine cg_0_70 C G ha dX0_advance_1 ?_
  refine lv_iconst (v := (1:Int32)) C.1 C.2.1 dX0_advance_4 (by decide) ?_
  refine lv_iadd C.1 C.2.1 dX0_advance_5 ?_
  refine lv_aload_n C.1 C.2.1 dX0_advance_6 rfl (lv_at hl 0 rfl) ?_
  refine cg_0_42 C G ha dX0_advance_7 (fun t_1 => ?_)
  have t_1 : (T 1).1 = 20 := by rw [t_1]
  refine cg_0_95 C G t_1 dX0_advance_10 ?_
  refine lv_icmp_ge (tgt := 26) C.1 C.2.1 dX0_advance_13 (by decide) (fun hc => ?_) (fun hc => ?_)
  · rw [if_pos hc] at h
    exact cl_vret ⟨rfl, rfl⟩ rfl C G h dX0_advance_26
  · rw [if_neg hc] at h
    refine lv_aload_n C.1 C.2.1 dX0_advance_16 rfl (lv_at hl 0 rfl) ?_
    refine lv_dup C.1 C.2.1 dX0_advance_17 rfl ?_
    refine cg_0_70 C G ha dX0_advance_18 ?_
    refine lv_iconst (v := (1:Int32)) C.1 C.2.1 dX0_advance_21 (by decide) ?_
    refine lv_iadd C.1 C.2.1 dX0_advance_22 ?_
    refine cp_0_70 C G ha dX0_advance_23 (fun H locs G_3 => ?_)
    refine cl_nm G_3 h (fun σ_2 G_4 h_5 => ?_)
    exact cl_vret ⟨rfl, rfl⟩ rfl C G_4 h_5 dX0_advance_26
noncomputable def fc_X0_advance (a : Nat) (σ : cl_S) : Option (cl_S) := bc_X0_advance_0 a σ
theorem kc_X0_advance (l : Launch) (D : cl_D) (c0 : Nat) {a : Nat} {σ σ' : cl_S} (ha : (σ.2.2.2.1 a).1 = 16) (h : fc_X0_advance a σ = some σ') : cl_Met true l D c0 yX0_advance cX0_advance 1 none 0 0 [.ref (c0 + a)] σ none cl_no σ' :=
  cl_of (by decide) (Nat.le_of_ble_eq_true rfl) (fun p e s m args below meth c ls C hn G hl => wc_X0_advance_0 C h G ha hl)
abbrev cX0_opOf : ByteArray := prog_2_method_12_code
def yX0_opOf : MethodName := ⟨RX0, "opOf", "(J)I"⟩
theorem dX0_opOf_0 : decode cX0_opOf 0 = .ok (.iconst 1, 1) := by decide +kernel
theorem dX0_opOf_1 : decode cX0_opOf 1 = .ok (.istore_n 3, 1) := by decide +kernel
theorem dX0_opOf_2 : decode cX0_opOf 2 = .ok (.iload_n 3, 1) := by decide +kernel
theorem dX0_opOf_3 : decode cX0_opOf 3 = .ok (.bipush 41, 2) := by decide +kernel
theorem dX0_opOf_5 : decode cX0_opOf 5 = .ok (.if_icmp .gt 22, 3) := by decide +kernel
theorem dX0_opOf_8 : decode cX0_opOf 8 = .ok (.aload_n 0, 1) := by decide +kernel
theorem dX0_opOf_9 : decode cX0_opOf 9 = .ok (.getfield 9, 3) := by decide +kernel
theorem dX0_opOf_12 : decode cX0_opOf 12 = .ok (.iload_n 3, 1) := by decide +kernel
theorem dX0_opOf_13 : decode cX0_opOf 13 = .ok (.laload, 1) := by decide +kernel
theorem dX0_opOf_14 : decode cX0_opOf 14 = .ok (.lload_n 1, 1) := by decide +kernel
theorem dX0_opOf_15 : decode cX0_opOf 15 = .ok (.lcmp, 1) := by decide +kernel
theorem dX0_opOf_16 : decode cX0_opOf 16 = .ok (.ifCond .ne 5, 3) := by decide +kernel
theorem dX0_opOf_19 : decode cX0_opOf 19 = .ok (.iload_n 3, 1) := by decide +kernel
theorem dX0_opOf_20 : decode cX0_opOf 20 = .ok (.ireturn, 1) := by decide +kernel
theorem dX0_opOf_21 : decode cX0_opOf 21 = .ok (.iinc 3 1, 3) := by decide +kernel
theorem dX0_opOf_24 : decode cX0_opOf 24 = .ok (.goto (-22), 3) := by decide +kernel
theorem dX0_opOf_27 : decode cX0_opOf 27 = .ok (.iconst 0, 1) := by decide +kernel
theorem dX0_opOf_28 : decode cX0_opOf 28 = .ok (.ireturn, 1) := by decide +kernel
theorem cc_X0_opOf : Cond.code yX0_opOf cX0_opOf 4 (some .int) ∈ rf_tb := rf_at 816 (by decide +kernel) (by decide +kernel)
noncomputable def lc_X0_opOf_2 (a : Nat) (x1 : Int64) (x3 : Int32) (σ : cl_S) : Option ((Int32 × cl_S) ⊕ ((Int32 × cl_S) ⊕ (Int32 × cl_S))) := (if (41:Int32) < x3 then some (.inr (.inr (x3, σ))) else ix x3 42 ((if (lg_cmp (σ.2.1 (a + 1) x3.toNatClampNeg) x1) = 0 then some (.inr (.inl (x3, σ))) else vl (x3 + (1:Int32)) (fun x3_4 => some (.inl (x3_4, σ))))))
noncomputable def ec_X0_opOf_2 (a : Nat) (x1 : Int64) (x3 : Int32) (σ : cl_S) : Option (Int32 × cl_S) := some ((0:Int32), σ)
noncomputable def bc_X0_opOf_2 (a : Nat) (x1 : Int64) (x3 : Int32) (σ : cl_S) : Option (Int32 × cl_S) := (lp (fun z : (Int32 × cl_S) => lc_X0_opOf_2 a x1 z.1 z.2) (x3, σ)).bind (fun y => Sum.elim (fun z => some z) (fun z => ec_X0_opOf_2 a x1 z.1 z.2) y)
set_option maxHeartbeats 4000000 in
theorem wc_X0_opOf_2 (C : cl_C D p s m args meth c cX0_opOf 4 (some .int) RX0) {r : Int32} {a : Nat} {x1 : Int64} {x3 : Int32} {σ0 σ σ' : cl_S} {T : Nat → Nat × Nat} {H : Heap} {locs : List Loc} {ls : Array Slot} {cells slots : Nat} (h : bc_X0_opOf_2 a x1 x3 σ = some (r, σ')) (G : cl_G true D c0 ({ frames := 0, cells := σ0.2.2.2.2.2.1, slots := σ0.2.2.2.2.2.2, locals := 0 }) s σ0.2.2.2.1 T σ H locs cells slots) (ha : (T a).1 = 16) (hl : lv_has ls 4 [(0, .ref (c0 + a)), (1, .long x1), (3, .int x3)]) : W p l e ({ frames := 0, cells := σ0.2.2.2.2.2.1, slots := σ0.2.2.2.2.2.2, locals := 0 }) s m args below meth c H locs cells slots (MQ below (cl_Q true D c0 (some (.int r)) cl_no σ0 σ') args s (σ0.2.2.2.2.2.1 - σ'.2.2.2.2.2.1) (σ0.2.2.2.2.2.2 - σ'.2.2.2.2.2.2) (cl_A c0 σ0.2.2.2.1 s.heap.size)) (F0 m 2 ls []) := by
  unfold bc_X0_opOf_2 at h
  obtain ⟨y, hy, h⟩ := bd_some h
  have hE : (Sum.elim (fun z : Int32 × cl_S => z = (r, σ')) (fun z : (Int32 × cl_S) => ∀ (T : Nat → Nat × Nat) (H : Heap) (locs : List Loc) (ls : Array Slot) (cells slots : Nat), cl_G true D c0 ({ frames := 0, cells := σ0.2.2.2.2.2.1, slots := σ0.2.2.2.2.2.2, locals := 0 }) s σ0.2.2.2.1 T z.2 H locs cells slots → (T a).1 = 16 → lv_has ls 4 [(0, .ref (c0 + a)), (1, .long x1), (3, .int (z.1))] → W p l e ({ frames := 0, cells := σ0.2.2.2.2.2.1, slots := σ0.2.2.2.2.2.2, locals := 0 }) s m args below meth c H locs cells slots (MQ below (cl_Q true D c0 (some (.int r)) cl_no σ0 σ') args s (σ0.2.2.2.2.2.1 - σ'.2.2.2.2.2.1) (σ0.2.2.2.2.2.2 - σ'.2.2.2.2.2.2) (cl_A c0 σ0.2.2.2.1 s.heap.size)) (F0 m 27 ls []))) y := by
    clear hy G ha hl
    cases y with
    | inl z =>
      exact Option.some.inj h
    | inr z =>
      intro T H locs ls cells slots G ha hl
      have h := se_r h
      obtain ⟨x3, σ⟩ := z
      dsimp only at h G ha hl
      unfold ec_X0_opOf_2 at h
      refine lv_iconst (v := (0:Int32)) C.1 C.2.1 dX0_opOf_27 (by decide) ?_
      exact cl_iret ⟨rfl, rfl⟩ rfl C G h dX0_opOf_28
  refine lp_recE (fun z : (Int32 × cl_S) => ∀ (T : Nat → Nat × Nat) (H : Heap) (locs : List Loc) (ls : Array Slot) (cells slots : Nat), cl_G true D c0 ({ frames := 0, cells := σ0.2.2.2.2.2.1, slots := σ0.2.2.2.2.2.2, locals := 0 }) s σ0.2.2.2.1 T z.2 H locs cells slots → (T a).1 = 16 → lv_has ls 4 [(0, .ref (c0 + a)), (1, .long x1), (3, .int (z.1))] → W p l e ({ frames := 0, cells := σ0.2.2.2.2.2.1, slots := σ0.2.2.2.2.2.2, locals := 0 }) s m args below meth c H locs cells slots (MQ below (cl_Q true D c0 (some (.int r)) cl_no σ0 σ') args s (σ0.2.2.2.2.2.1 - σ'.2.2.2.2.2.1) (σ0.2.2.2.2.2.2 - σ'.2.2.2.2.2.2) (cl_A c0 σ0.2.2.2.1 s.heap.size)) (F0 m 2 ls [])) (Sum.elim (fun z : Int32 × cl_S => z = (r, σ')) (fun z : (Int32 × cl_S) => ∀ (T : Nat → Nat × Nat) (H : Heap) (locs : List Loc) (ls : Array Slot) (cells slots : Nat), cl_G true D c0 ({ frames := 0, cells := σ0.2.2.2.2.2.1, slots := σ0.2.2.2.2.2.2, locals := 0 }) s σ0.2.2.2.1 T z.2 H locs cells slots → (T a).1 = 16 → lv_has ls 4 [(0, .ref (c0 + a)), (1, .long x1), (3, .int (z.1))] → W p l e ({ frames := 0, cells := σ0.2.2.2.2.2.1, slots := σ0.2.2.2.2.2.2, locals := 0 }) s m args below meth c H locs cells slots (MQ below (cl_Q true D c0 (some (.int r)) cl_no σ0 σ') args s (σ0.2.2.2.2.2.1 - σ'.2.2.2.2.2.1) (σ0.2.2.2.2.2.2 - σ'.2.2.2.2.2.2) (cl_A c0 σ0.2.2.2.1 s.heap.size)) (F0 m 27 ls []))) ?_ _ _ hy hE _ _ _ _ _ _ G ha hl
  clear hE hy G ha hl h
  intro z o h hP T H locs ls cells slots G ha hl
  obtain ⟨x3, σ⟩ := z
  dsimp only at h G ha hl
  unfold lc_X0_opOf_2 at h
  refine lv_iload_n C.1 C.2.1 dX0_opOf_2 rfl (lv_at hl 2 rfl) ?_
  refine lv_bipush (v := (41:Int32)) C.1 C.2.1 dX0_opOf_3 (by decide) ?_
  refine lv_icmp_gt (tgt := 27) C.1 C.2.1 dX0_opOf_5 (by decide) (fun hc => ?_) (fun hc => ?_)
  · rw [if_pos hc] at h
    cases h
    exact hP _ _ _ _ _ _ G ha (lv_sub hl [0, 1, 2] rfl)
  · rw [if_neg hc] at h
    refine lv_aload_n C.1 C.2.1 dX0_opOf_8 rfl (lv_at hl 0 rfl) ?_
    refine cg_0_9 C G ha dX0_opOf_9 (fun t_2 => ?_)
    refine lv_iload_n C.1 C.2.1 dX0_opOf_12 rfl (lv_at hl 2 rfl) ?_
    obtain ⟨hi, h_3⟩ := ix_some h
    refine cl_lald C G t_2 hi dX0_opOf_13 ?_
    refine lv_lload_n C.1 C.2.1 dX0_opOf_14 rfl (lv_at hl 1 rfl) ?_
    refine W.lcmp C.1 C.2.1 dX0_opOf_15 ?_
    refine lv_if_ne (tgt := 21) C.1 C.2.1 dX0_opOf_16 (by decide) (fun hc => ?_) (fun hc => ?_)
    · rw [if_neg hc] at h_3
      refine vl_ex h_3 (fun x3_4 ey h_5 => ?_)
      refine lv_iinc (v := x3_4) (lv' := [(3, .int x3_4), (0, .ref (c0 + a)), (1, .long x1)]) C.1 C.2.1 dX0_opOf_21 hl (k := 2) rfl (by rw [ey]; rfl) (by decide) rfl (fun ls hl_6 => ?_)
      refine lv_goto (tgt := 2) C.1 C.2.1 dX0_opOf_24 (by decide) ?_
      cases h_5
      exact hP _ _ _ _ _ _ G ha (lv_sub hl_6 [1, 2, 0] rfl)
    · rw [if_pos hc] at h_3
      refine lv_iload_n C.1 C.2.1 dX0_opOf_19 rfl (lv_at hl 2 rfl) ?_
      cases h_3
      have hP := congrArg some hP
      exact cl_iret ⟨rfl, rfl⟩ rfl C G hP dX0_opOf_20
noncomputable def bc_X0_opOf_0 (a : Nat) (x1 : Int64) (σ : cl_S) : Option (Int32 × cl_S) := bc_X0_opOf_2 a x1 (1:Int32) σ
set_option maxHeartbeats 4000000 in
theorem wc_X0_opOf_0 (C : cl_C D p s m args meth c cX0_opOf 4 (some .int) RX0) {r : Int32} {a : Nat} {x1 : Int64} {σ0 σ σ' : cl_S} {T : Nat → Nat × Nat} {H : Heap} {locs : List Loc} {ls : Array Slot} {cells slots : Nat} (h : bc_X0_opOf_0 a x1 σ = some (r, σ')) (G : cl_G true D c0 ({ frames := 0, cells := σ0.2.2.2.2.2.1, slots := σ0.2.2.2.2.2.2, locals := 0 }) s σ0.2.2.2.1 T σ H locs cells slots) (ha : (T a).1 = 16) (hl : lv_has ls 4 [(0, .ref (c0 + a)), (1, .long x1)]) : W p l e ({ frames := 0, cells := σ0.2.2.2.2.2.1, slots := σ0.2.2.2.2.2.2, locals := 0 }) s m args below meth c H locs cells slots (MQ below (cl_Q true D c0 (some (.int r)) cl_no σ0 σ') args s (σ0.2.2.2.2.2.1 - σ'.2.2.2.2.2.1) (σ0.2.2.2.2.2.2 - σ'.2.2.2.2.2.2) (cl_A c0 σ0.2.2.2.1 s.heap.size)) (F0 m 0 ls []) := by
  unfold bc_X0_opOf_0 at h
  refine lv_iconst (v := (1:Int32)) C.1 C.2.1 dX0_opOf_0 (by decide) ?_
  refine lv_istore_n (lv' := [(3, .int (1:Int32)), (0, .ref (c0 + a)), (1, .long x1)]) C.1 C.2.1 dX0_opOf_1 rfl hl (by decide) rfl (fun ls hl_1 => ?_)
  exact wc_X0_opOf_2 C h G ha (lv_sub hl_1 [1, 2, 0] rfl)
noncomputable def fc_X0_opOf (a : Nat) (x1 : Int64) (σ : cl_S) : Option (Int32 × cl_S) := bc_X0_opOf_0 a x1 σ
theorem kc_X0_opOf (l : Launch) (D : cl_D) (c0 : Nat) {r : Int32} {a : Nat} {x1 : Int64} {σ σ' : cl_S} (ha : (σ.2.2.2.1 a).1 = 16) (h : fc_X0_opOf a x1 σ = some (r, σ')) : cl_Met true l D c0 yX0_opOf cX0_opOf 4 (some .int) 0 0 [.ref (c0 + a), .long x1] σ (some (.int r)) cl_no σ' :=
  cl_of (by decide) (Nat.le_of_ble_eq_true rfl) (fun p e s m args below meth c ls C hn G hl => wc_X0_opOf_0 C h G ha hl)
abbrev cX0_takesLabel : ByteArray := prog_2_method_19_code
def yX0_takesLabel : MethodName := ⟨RX0, "takesLabel", "(I)Z"⟩
theorem dX0_takesLabel_0 : decode cX0_takesLabel 0 = .ok (.iload_n 0, 1) := by decide +kernel
theorem dX0_takesLabel_1 : decode cX0_takesLabel 1 = .ok (.bipush 30, 2) := by decide +kernel
theorem dX0_takesLabel_3 : decode cX0_takesLabel 3 = .ok (.if_icmp .lt 9, 3) := by decide +kernel
theorem dX0_takesLabel_6 : decode cX0_takesLabel 6 = .ok (.iload_n 0, 1) := by decide +kernel
theorem dX0_takesLabel_7 : decode cX0_takesLabel 7 = .ok (.bipush 36, 2) := by decide +kernel
theorem dX0_takesLabel_9 : decode cX0_takesLabel 9 = .ok (.if_icmp .le 9, 3) := by decide +kernel
theorem dX0_takesLabel_12 : decode cX0_takesLabel 12 = .ok (.iload_n 0, 1) := by decide +kernel
theorem dX0_takesLabel_13 : decode cX0_takesLabel 13 = .ok (.bipush 40, 2) := by decide +kernel
theorem dX0_takesLabel_15 : decode cX0_takesLabel 15 = .ok (.if_icmp .ne 7, 3) := by decide +kernel
theorem dX0_takesLabel_18 : decode cX0_takesLabel 18 = .ok (.iconst 1, 1) := by decide +kernel
theorem dX0_takesLabel_19 : decode cX0_takesLabel 19 = .ok (.goto 4, 3) := by decide +kernel
theorem dX0_takesLabel_22 : decode cX0_takesLabel 22 = .ok (.iconst 0, 1) := by decide +kernel
theorem dX0_takesLabel_23 : decode cX0_takesLabel 23 = .ok (.ireturn, 1) := by decide +kernel
theorem cc_X0_takesLabel : Cond.code yX0_takesLabel cX0_takesLabel 1 (some .boolean) ∈ rf_tb := rf_at 823 (by decide +kernel) (by decide +kernel)
noncomputable def bc_X0_takesLabel_12 (x0 : Int32) (σ : cl_S) : Option (Int32 × cl_S) := (if x0 = (40:Int32) then some ((1:Int32), σ) else some ((0:Int32), σ))
set_option maxHeartbeats 4000000 in
theorem wc_X0_takesLabel_12 (C : cl_C D p s m args meth c cX0_takesLabel 1 (some .boolean) RX0) {r : Int32} {x0 : Int32} {σ0 σ σ' : cl_S} {T : Nat → Nat × Nat} {H : Heap} {locs : List Loc} {ls : Array Slot} {cells slots : Nat} (h : bc_X0_takesLabel_12 x0 σ = some (r, σ')) (G : cl_G true D c0 ({ frames := 0, cells := σ0.2.2.2.2.2.1, slots := σ0.2.2.2.2.2.2, locals := 0 }) s σ0.2.2.2.1 T σ H locs cells slots) (hl : lv_has ls 1 [(0, .int x0)]) : W p l e ({ frames := 0, cells := σ0.2.2.2.2.2.1, slots := σ0.2.2.2.2.2.2, locals := 0 }) s m args below meth c H locs cells slots (MQ below (cl_Q true D c0 (some (.int r)) cl_no σ0 σ') args s (σ0.2.2.2.2.2.1 - σ'.2.2.2.2.2.1) (σ0.2.2.2.2.2.2 - σ'.2.2.2.2.2.2) (cl_A c0 σ0.2.2.2.1 s.heap.size)) (F0 m 12 ls []) := by
  unfold bc_X0_takesLabel_12 at h
  refine lv_iload_n C.1 C.2.1 dX0_takesLabel_12 rfl (lv_at hl 0 rfl) ?_
  refine lv_bipush (v := (40:Int32)) C.1 C.2.1 dX0_takesLabel_13 (by decide) ?_
  refine lv_icmp_ne (tgt := 22) C.1 C.2.1 dX0_takesLabel_15 (by decide) (fun hc => ?_) (fun hc => ?_)
  · rw [if_neg hc] at h
    refine lv_iconst (v := (0:Int32)) C.1 C.2.1 dX0_takesLabel_22 (by decide) ?_
    exact cl_zret ⟨rfl, rfl⟩ rfl C G h rfl dX0_takesLabel_23
  · rw [if_pos hc] at h
    refine lv_iconst (v := (1:Int32)) C.1 C.2.1 dX0_takesLabel_18 (by decide) ?_
    refine lv_goto (tgt := 23) C.1 C.2.1 dX0_takesLabel_19 (by decide) ?_
    exact cl_zret ⟨rfl, rfl⟩ rfl C G h rfl dX0_takesLabel_23
noncomputable def bc_X0_takesLabel_0 (x0 : Int32) (σ : cl_S) : Option (Int32 × cl_S) := (if x0 < (30:Int32) then bc_X0_takesLabel_12 x0 σ else (if x0 ≤ (36:Int32) then some ((1:Int32), σ) else bc_X0_takesLabel_12 x0 σ))
set_option maxHeartbeats 4000000 in
theorem wc_X0_takesLabel_0 (C : cl_C D p s m args meth c cX0_takesLabel 1 (some .boolean) RX0) {r : Int32} {x0 : Int32} {σ0 σ σ' : cl_S} {T : Nat → Nat × Nat} {H : Heap} {locs : List Loc} {ls : Array Slot} {cells slots : Nat} (h : bc_X0_takesLabel_0 x0 σ = some (r, σ')) (G : cl_G true D c0 ({ frames := 0, cells := σ0.2.2.2.2.2.1, slots := σ0.2.2.2.2.2.2, locals := 0 }) s σ0.2.2.2.1 T σ H locs cells slots) (hl : lv_has ls 1 [(0, .int x0)]) : W p l e ({ frames := 0, cells := σ0.2.2.2.2.2.1, slots := σ0.2.2.2.2.2.2, locals := 0 }) s m args below meth c H locs cells slots (MQ below (cl_Q true D c0 (some (.int r)) cl_no σ0 σ') args s (σ0.2.2.2.2.2.1 - σ'.2.2.2.2.2.1) (σ0.2.2.2.2.2.2 - σ'.2.2.2.2.2.2) (cl_A c0 σ0.2.2.2.1 s.heap.size)) (F0 m 0 ls []) := by
  unfold bc_X0_takesLabel_0 at h
  refine lv_iload_n C.1 C.2.1 dX0_takesLabel_0 rfl (lv_at hl 0 rfl) ?_
  refine lv_bipush (v := (30:Int32)) C.1 C.2.1 dX0_takesLabel_1 (by decide) ?_
  refine lv_icmp_lt (tgt := 12) C.1 C.2.1 dX0_takesLabel_3 (by decide) (fun hc => ?_) (fun hc => ?_)
  · rw [if_pos hc] at h
    exact wc_X0_takesLabel_12 C h G (lv_sub hl [0] rfl)
  · rw [if_neg hc] at h
    refine lv_iload_n C.1 C.2.1 dX0_takesLabel_6 rfl (lv_at hl 0 rfl) ?_
    refine lv_bipush (v := (36:Int32)) C.1 C.2.1 dX0_takesLabel_7 (by decide) ?_
    refine lv_icmp_le (tgt := 18) C.1 C.2.1 dX0_takesLabel_9 (by decide) (fun hc => ?_) (fun hc => ?_)
    · rw [if_pos hc] at h
      refine lv_iconst (v := (1:Int32)) C.1 C.2.1 dX0_takesLabel_18 (by decide) ?_
      refine lv_goto (tgt := 23) C.1 C.2.1 dX0_takesLabel_19 (by decide) ?_
      exact cl_zret ⟨rfl, rfl⟩ rfl C G h rfl dX0_takesLabel_23
    · rw [if_neg hc] at h
      exact wc_X0_takesLabel_12 C h G (lv_sub hl [0] rfl)
noncomputable def fc_X0_takesLabel (x0 : Int32) (σ : cl_S) : Option (Int32 × cl_S) := bc_X0_takesLabel_0 x0 σ
theorem kc_X0_takesLabel (l : Launch) (D : cl_D) (c0 : Nat) {r : Int32} {x0 : Int32} {σ σ' : cl_S} (h : fc_X0_takesLabel x0 σ = some (r, σ')) : cl_Met true l D c0 yX0_takesLabel cX0_takesLabel 1 (some .boolean) 0 0 [.int x0] σ (some (.int r)) cl_no σ' :=
  cl_of (by decide) (Nat.le_of_ble_eq_true rfl) (fun p e s m args below meth c ls C hn G hl => wc_X0_takesLabel_0 C h G  hl)
abbrev cX0_noteUse : ByteArray := prog_2_method_26_code
def yX0_noteUse : MethodName := ⟨RX0, "noteUse", "()V"⟩
theorem dX0_noteUse_0 : decode cX0_noteUse 0 = .ok (.aload_n 0, 1) := by decide +kernel
theorem dX0_noteUse_1 : decode cX0_noteUse 1 = .ok (.getfield 64, 3) := by decide +kernel
theorem dX0_noteUse_4 : decode cX0_noteUse 4 = .ok (.sipush 2048, 3) := by decide +kernel
theorem dX0_noteUse_7 : decode cX0_noteUse 7 = .ok (.if_icmp .ge 68, 3) := by decide +kernel
theorem dX0_noteUse_10 : decode cX0_noteUse 10 = .ok (.aload_n 0, 1) := by decide +kernel
theorem dX0_noteUse_11 : decode cX0_noteUse 11 = .ok (.getfield 25, 3) := by decide +kernel
theorem dX0_noteUse_14 : decode cX0_noteUse 14 = .ok (.aload_n 0, 1) := by decide +kernel
theorem dX0_noteUse_15 : decode cX0_noteUse 15 = .ok (.getfield 64, 3) := by decide +kernel
theorem dX0_noteUse_18 : decode cX0_noteUse 18 = .ok (.aload_n 0, 1) := by decide +kernel
theorem dX0_noteUse_19 : decode cX0_noteUse 19 = .ok (.getfield 42, 3) := by decide +kernel
theorem dX0_noteUse_22 : decode cX0_noteUse 22 = .ok (.getfield 103, 3) := by decide +kernel
theorem dX0_noteUse_25 : decode cX0_noteUse 25 = .ok (.aload_n 0, 1) := by decide +kernel
theorem dX0_noteUse_26 : decode cX0_noteUse 26 = .ok (.getfield 70, 3) := by decide +kernel
theorem dX0_noteUse_29 : decode cX0_noteUse 29 = .ok (.laload, 1) := by decide +kernel
theorem dX0_noteUse_30 : decode cX0_noteUse 30 = .ok (.lastore, 1) := by decide +kernel
theorem dX0_noteUse_31 : decode cX0_noteUse 31 = .ok (.aload_n 0, 1) := by decide +kernel
theorem dX0_noteUse_32 : decode cX0_noteUse 32 = .ok (.getfield 28, 3) := by decide +kernel
theorem dX0_noteUse_35 : decode cX0_noteUse 35 = .ok (.aload_n 0, 1) := by decide +kernel
theorem dX0_noteUse_36 : decode cX0_noteUse 36 = .ok (.getfield 64, 3) := by decide +kernel
theorem dX0_noteUse_39 : decode cX0_noteUse 39 = .ok (.aload_n 0, 1) := by decide +kernel
theorem dX0_noteUse_40 : decode cX0_noteUse 40 = .ok (.getfield 58, 3) := by decide +kernel
theorem dX0_noteUse_43 : decode cX0_noteUse 43 = .ok (.iastore, 1) := by decide +kernel
theorem dX0_noteUse_44 : decode cX0_noteUse 44 = .ok (.aload_n 0, 1) := by decide +kernel
theorem dX0_noteUse_45 : decode cX0_noteUse 45 = .ok (.getfield 31, 3) := by decide +kernel
theorem dX0_noteUse_48 : decode cX0_noteUse 48 = .ok (.aload_n 0, 1) := by decide +kernel
theorem dX0_noteUse_49 : decode cX0_noteUse 49 = .ok (.getfield 64, 3) := by decide +kernel
theorem dX0_noteUse_52 : decode cX0_noteUse 52 = .ok (.aload_n 0, 1) := by decide +kernel
theorem dX0_noteUse_53 : decode cX0_noteUse 53 = .ok (.getfield 42, 3) := by decide +kernel
theorem dX0_noteUse_56 : decode cX0_noteUse 56 = .ok (.getfield 96, 3) := by decide +kernel
theorem dX0_noteUse_59 : decode cX0_noteUse 59 = .ok (.aload_n 0, 1) := by decide +kernel
theorem dX0_noteUse_60 : decode cX0_noteUse 60 = .ok (.getfield 70, 3) := by decide +kernel
theorem dX0_noteUse_63 : decode cX0_noteUse 63 = .ok (.iaload, 1) := by decide +kernel
theorem dX0_noteUse_64 : decode cX0_noteUse 64 = .ok (.iastore, 1) := by decide +kernel
theorem dX0_noteUse_65 : decode cX0_noteUse 65 = .ok (.aload_n 0, 1) := by decide +kernel
theorem dX0_noteUse_66 : decode cX0_noteUse 66 = .ok (.dup, 1) := by decide +kernel
theorem dX0_noteUse_67 : decode cX0_noteUse 67 = .ok (.getfield 64, 3) := by decide +kernel
theorem dX0_noteUse_70 : decode cX0_noteUse 70 = .ok (.iconst 1, 1) := by decide +kernel
theorem dX0_noteUse_71 : decode cX0_noteUse 71 = .ok (.iadd, 1) := by decide +kernel
theorem dX0_noteUse_72 : decode cX0_noteUse 72 = .ok (.putfield 64, 3) := by decide +kernel
theorem dX0_noteUse_75 : decode cX0_noteUse 75 = .ok (.return_, 1) := by decide +kernel
theorem cc_X0_noteUse : Cond.code yX0_noteUse cX0_noteUse 1 none ∈ rf_tb := rf_at 827 (by decide +kernel) (by decide +kernel)
noncomputable def bc_X0_noteUse_0 (a : Nat) (σ : cl_S) : Option (cl_S) := (if (2048:Int32) ≤ (σ.1 a 11) then some σ else ix (σ.1 a 2) 6001 (ix (σ.1 a 11) 2048 (vl (cl_wl σ (a + 5) (σ.1 a 11).toNatClampNeg (σ.2.1 (1 + 4) (σ.1 a 2).toNatClampNeg)) (fun σ_5 => ix (σ_5.1 a 11) 2048 (vl (cl_w σ_5 (a + 6) (σ_5.1 a 11).toNatClampNeg (σ_5.1 a 4)) (fun σ_11 => ix (σ_11.1 a 2) 6001 (ix (σ_11.1 a 11) 2048 (vl (cl_w σ_11 (a + 7) (σ_11.1 a 11).toNatClampNeg (σ_11.1 (1 + 3) (σ_11.1 a 2).toNatClampNeg)) (fun σ_20 => vl (cl_w σ_20 a 11 ((σ_20.1 a 11) + (1:Int32))) (fun σ_25 => some σ_25))))))))))
set_option maxHeartbeats 4000000 in
theorem wc_X0_noteUse_0 (C : cl_C D p s m args meth c cX0_noteUse 1 none RX0) {a : Nat} {σ0 σ σ' : cl_S} {T : Nat → Nat × Nat} {H : Heap} {locs : List Loc} {ls : Array Slot} {cells slots : Nat} (h : bc_X0_noteUse_0 a σ = some σ') (G : cl_G true D c0 ({ frames := 0, cells := σ0.2.2.2.2.2.1, slots := σ0.2.2.2.2.2.2, locals := 0 }) s σ0.2.2.2.1 T σ H locs cells slots) (ha : (T a).1 = 16) (hl : lv_has ls 1 [(0, .ref (c0 + a))]) : W p l e ({ frames := 0, cells := σ0.2.2.2.2.2.1, slots := σ0.2.2.2.2.2.2, locals := 0 }) s m args below meth c H locs cells slots (MQ below (cl_Q true D c0 none cl_no σ0 σ') args s (σ0.2.2.2.2.2.1 - σ'.2.2.2.2.2.1) (σ0.2.2.2.2.2.2 - σ'.2.2.2.2.2.2) (cl_A c0 σ0.2.2.2.1 s.heap.size)) (F0 m 0 ls []) := by
  unfold bc_X0_noteUse_0 at h
  refine lv_aload_n C.1 C.2.1 dX0_noteUse_0 rfl (lv_at hl 0 rfl) ?_
  refine cg_0_64 C G ha dX0_noteUse_1 ?_
  refine lv_sipush (v := (2048:Int32)) C.1 C.2.1 dX0_noteUse_4 (by decide) ?_
  refine lv_icmp_ge (tgt := 75) C.1 C.2.1 dX0_noteUse_7 (by decide) (fun hc => ?_) (fun hc => ?_)
  · rw [if_pos hc] at h
    exact cl_vret ⟨rfl, rfl⟩ rfl C G h dX0_noteUse_75
  · rw [if_neg hc] at h
    refine lv_aload_n C.1 C.2.1 dX0_noteUse_10 rfl (lv_at hl 0 rfl) ?_
    refine cg_0_25 C G ha dX0_noteUse_11 (fun t_1 => ?_)
    refine lv_aload_n C.1 C.2.1 dX0_noteUse_14 rfl (lv_at hl 0 rfl) ?_
    refine cg_0_64 C G ha dX0_noteUse_15 ?_
    refine lv_aload_n C.1 C.2.1 dX0_noteUse_18 rfl (lv_at hl 0 rfl) ?_
    refine cg_0_42 C G ha dX0_noteUse_19 (fun t_2 => ?_)
    have t_2 : (T 1).1 = 20 := by rw [t_2]
    refine cg_0_103 C G t_2 dX0_noteUse_22 (fun t_3 => ?_)
    refine lv_aload_n C.1 C.2.1 dX0_noteUse_25 rfl (lv_at hl 0 rfl) ?_
    refine cg_0_70 C G ha dX0_noteUse_26 ?_
    obtain ⟨hi, h_4⟩ := ix_some h
    refine cl_lald C G t_3 hi dX0_noteUse_29 ?_
    obtain ⟨hi, h_6⟩ := ix_some h_4
    refine cl_last C G t_1 hi dX0_noteUse_30 (fun H locs G_7 => ?_)
    refine cl_nm G_7 h_6 (fun σ_5 G_8 h_9 => ?_)
    refine lv_aload_n C.1 C.2.1 dX0_noteUse_31 rfl (lv_at hl 0 rfl) ?_
    refine cg_0_28 C G_8 ha dX0_noteUse_32 (fun t_10 => ?_)
    refine lv_aload_n C.1 C.2.1 dX0_noteUse_35 rfl (lv_at hl 0 rfl) ?_
    refine cg_0_64 C G_8 ha dX0_noteUse_36 ?_
    refine lv_aload_n C.1 C.2.1 dX0_noteUse_39 rfl (lv_at hl 0 rfl) ?_
    refine cg_0_58 C G_8 ha dX0_noteUse_40 ?_
    obtain ⟨hi, h_12⟩ := ix_some h_9
    refine cl_iast C G_8 t_10 hi dX0_noteUse_43 (fun H locs G_13 => ?_)
    refine cl_nm G_13 h_12 (fun σ_11 G_14 h_15 => ?_)
    refine lv_aload_n C.1 C.2.1 dX0_noteUse_44 rfl (lv_at hl 0 rfl) ?_
    refine cg_0_31 C G_14 ha dX0_noteUse_45 (fun t_16 => ?_)
    refine lv_aload_n C.1 C.2.1 dX0_noteUse_48 rfl (lv_at hl 0 rfl) ?_
    refine cg_0_64 C G_14 ha dX0_noteUse_49 ?_
    refine lv_aload_n C.1 C.2.1 dX0_noteUse_52 rfl (lv_at hl 0 rfl) ?_
    refine cg_0_42 C G_14 ha dX0_noteUse_53 (fun t_17 => ?_)
    have t_17 : (T 1).1 = 20 := by rw [t_17]
    refine cg_0_96 C G_14 t_17 dX0_noteUse_56 (fun t_18 => ?_)
    refine lv_aload_n C.1 C.2.1 dX0_noteUse_59 rfl (lv_at hl 0 rfl) ?_
    refine cg_0_70 C G_14 ha dX0_noteUse_60 ?_
    obtain ⟨hi, h_19⟩ := ix_some h_15
    refine cl_iald C G_14 t_18 hi dX0_noteUse_63 ?_
    obtain ⟨hi, h_21⟩ := ix_some h_19
    refine cl_iast C G_14 t_16 hi dX0_noteUse_64 (fun H locs G_22 => ?_)
    refine cl_nm G_22 h_21 (fun σ_20 G_23 h_24 => ?_)
    refine lv_aload_n C.1 C.2.1 dX0_noteUse_65 rfl (lv_at hl 0 rfl) ?_
    refine lv_dup C.1 C.2.1 dX0_noteUse_66 rfl ?_
    refine cg_0_64 C G_23 ha dX0_noteUse_67 ?_
    refine lv_iconst (v := (1:Int32)) C.1 C.2.1 dX0_noteUse_70 (by decide) ?_
    refine lv_iadd C.1 C.2.1 dX0_noteUse_71 ?_
    refine cp_0_64 C G_23 ha dX0_noteUse_72 (fun H locs G_26 => ?_)
    refine cl_nm G_26 h_24 (fun σ_25 G_27 h_28 => ?_)
    exact cl_vret ⟨rfl, rfl⟩ rfl C G_27 h_28 dX0_noteUse_75
noncomputable def fc_X0_noteUse (a : Nat) (σ : cl_S) : Option (cl_S) := bc_X0_noteUse_0 a σ
theorem kc_X0_noteUse (l : Launch) (D : cl_D) (c0 : Nat) {a : Nat} {σ σ' : cl_S} (ha : (σ.2.2.2.1 a).1 = 16) (h : fc_X0_noteUse a σ = some σ') : cl_Met true l D c0 yX0_noteUse cX0_noteUse 1 none 0 0 [.ref (c0 + a)] σ none cl_no σ' :=
  cl_of (by decide) (Nat.le_of_ble_eq_true rfl) (fun p e s m args below meth c ls C hn G hl => wc_X0_noteUse_0 C h G ha hl)
abbrev cX0_failAtToken : ByteArray := prog_2_method_7_code
def yX0_failAtToken : MethodName := ⟨RX0, "failAtToken", "()V"⟩
theorem dX0_failAtToken_0 : decode cX0_failAtToken 0 = .ok (.aload_n 0, 1) := by decide +kernel
theorem dX0_failAtToken_1 : decode cX0_failAtToken 1 = .ok (.aload_n 0, 1) := by decide +kernel
theorem dX0_failAtToken_2 : decode cX0_failAtToken 2 = .ok (.invokevirtual 78, 3) := by decide +kernel
theorem dX0_failAtToken_5 : decode cX0_failAtToken 5 = .ok (.bipush 7, 2) := by decide +kernel
theorem dX0_failAtToken_7 : decode cX0_failAtToken 7 = .ok (.if_icmp .ne 7, 3) := by decide +kernel
theorem dX0_failAtToken_10 : decode cX0_failAtToken 10 = .ok (.iconst 1, 1) := by decide +kernel
theorem dX0_failAtToken_11 : decode cX0_failAtToken 11 = .ok (.goto 4, 3) := by decide +kernel
theorem dX0_failAtToken_14 : decode cX0_failAtToken 14 = .ok (.iconst 2, 1) := by decide +kernel
theorem dX0_failAtToken_15 : decode cX0_failAtToken 15 = .ok (.aload_n 0, 1) := by decide +kernel
theorem dX0_failAtToken_16 : decode cX0_failAtToken 16 = .ok (.getfield 42, 3) := by decide +kernel
theorem dX0_failAtToken_19 : decode cX0_failAtToken 19 = .ok (.getfield 96, 3) := by decide +kernel
theorem dX0_failAtToken_22 : decode cX0_failAtToken 22 = .ok (.aload_n 0, 1) := by decide +kernel
theorem dX0_failAtToken_23 : decode cX0_failAtToken 23 = .ok (.getfield 70, 3) := by decide +kernel
theorem dX0_failAtToken_26 : decode cX0_failAtToken 26 = .ok (.iaload, 1) := by decide +kernel
theorem dX0_failAtToken_27 : decode cX0_failAtToken 27 = .ok (.invokevirtual 99, 3) := by decide +kernel
theorem dX0_failAtToken_30 : decode cX0_failAtToken 30 = .ok (.return_, 1) := by decide +kernel
theorem cc_X0_failAtToken : Cond.code yX0_failAtToken cX0_failAtToken 1 none ∈ rf_tb := rf_at 831 (by decide +kernel) (by decide +kernel)
theorem cw_RX0_78 : cl_wV RX0 RX0 yX0_token cX0_token 1 (some .int) 78 0 := ⟨⟨rf_at 785 (by decide +kernel) (by decide +kernel), rf_at 787 (by decide +kernel) (by decide +kernel), rf_sel (q := (yX0_token, 16)) 5 (by decide +kernel) (by decide +kernel), cc_X0_token, rf_at 3 (by decide +kernel) (by decide +kernel)⟩, ⟨by decide, by decide, by decide +kernel⟩⟩
noncomputable def bc_X0_failAtToken_15 (a : Nat) (v0 : (Option Nat)) (v1 : Int32) (σ : cl_S) : Option (cl_S) := ix (σ.1 a 2) 6001 (nn v0 (fun a_10 => bd1 (fc_X0_fail a_10 v1 (σ.1 (1 + 3) (σ.1 a 2).toNatClampNeg) σ) (fun σ_13 => some σ_13)))
set_option maxHeartbeats 4000000 in
theorem wc_X0_failAtToken_15 (C : cl_C D p s m args meth c cX0_failAtToken 1 none RX0) {a : Nat} {v0 : (Option Nat)} {v1 : Int32} {σ0 σ σ' : cl_S} {T : Nat → Nat × Nat} {H : Heap} {locs : List Loc} {ls : Array Slot} {cells slots : Nat} (h : bc_X0_failAtToken_15 a v0 v1 σ = some σ') (G : cl_G true D c0 ({ frames := 1, cells := σ0.2.2.2.2.2.1, slots := σ0.2.2.2.2.2.2, locals := 22 }) s σ0.2.2.2.1 T σ H locs cells slots) (ha : (T a).1 = 16) (g0 : cl_RT T v0 16) (hl : lv_has ls 1 [(0, .ref (c0 + a))]) : W p l e ({ frames := 1, cells := σ0.2.2.2.2.2.1, slots := σ0.2.2.2.2.2.2, locals := 22 }) s m args below meth c H locs cells slots (MQ below (cl_Q true D c0 none cl_no σ0 σ') args s (σ0.2.2.2.2.2.1 - σ'.2.2.2.2.2.1) (σ0.2.2.2.2.2.2 - σ'.2.2.2.2.2.2) (cl_A c0 σ0.2.2.2.1 s.heap.size)) (F0 m 15 ls [.int v1, cl_rf c0 v0]) := by
  unfold bc_X0_failAtToken_15 at h
  refine lv_aload_n C.1 C.2.1 dX0_failAtToken_15 rfl (lv_at hl 0 rfl) ?_
  refine cg_0_42 C G ha dX0_failAtToken_16 (fun t_7 => ?_)
  have t_7 : (T 1).1 = 20 := by rw [t_7]
  refine cg_0_96 C G t_7 dX0_failAtToken_19 (fun t_8 => ?_)
  refine lv_aload_n C.1 C.2.1 dX0_failAtToken_22 rfl (lv_at hl 0 rfl) ?_
  refine cg_0_70 C G ha dX0_failAtToken_23 ?_
  obtain ⟨hi, h_9⟩ := ix_some h
  refine cl_iald C G t_8 hi dX0_failAtToken_26 ?_
  obtain ⟨a_10, rfl, h_12⟩ := nn_some h_9
  have t_11 := g0 _ rfl
  obtain ⟨σ_13, hq, h_14⟩ := bd1_some h_12
  refine cl_callV (ci := 0) (rest := []) C G rfl t_11 cw_RX0_99 [.int v1, .int (σ.1 (1 + 3) (σ.1 a 2).toNatClampNeg)] _ (kc_X0_fail l D c0 (by rw [G.1]; exact t_11) hq) (Nat.le_of_ble_eq_true rfl) (Nat.le_of_ble_eq_true rfl) rfl rfl hl.1 (Nat.le_of_ble_eq_true rfl) dX0_failAtToken_27 (fun T_15 H locs cells slots t_16 hu G_17 => ?_)
  have ha := hu.kind ha (by decide)
  refine W.eq (g2 := F0 m 30 ls []) rfl ?_
  exact cl_vret ⟨rfl, rfl⟩ rfl C G_17 h_14 dX0_failAtToken_30
noncomputable def bc_X0_failAtToken_0 (a : Nat) (σ : cl_S) : Option (cl_S) := bd2 (fc_X0_token a σ) (fun r_2 σ_1 => (if r_2 = (7:Int32) then bc_X0_failAtToken_15 a (some a) (1:Int32) σ_1 else bc_X0_failAtToken_15 a (some a) (2:Int32) σ_1))
set_option maxHeartbeats 4000000 in
theorem wc_X0_failAtToken_0 (C : cl_C D p s m args meth c cX0_failAtToken 1 none RX0) {a : Nat} {σ0 σ σ' : cl_S} {T : Nat → Nat × Nat} {H : Heap} {locs : List Loc} {ls : Array Slot} {cells slots : Nat} (h : bc_X0_failAtToken_0 a σ = some σ') (G : cl_G true D c0 ({ frames := 1, cells := σ0.2.2.2.2.2.1, slots := σ0.2.2.2.2.2.2, locals := 22 }) s σ0.2.2.2.1 T σ H locs cells slots) (ha : (T a).1 = 16) (hl : lv_has ls 1 [(0, .ref (c0 + a))]) : W p l e ({ frames := 1, cells := σ0.2.2.2.2.2.1, slots := σ0.2.2.2.2.2.2, locals := 22 }) s m args below meth c H locs cells slots (MQ below (cl_Q true D c0 none cl_no σ0 σ') args s (σ0.2.2.2.2.2.1 - σ'.2.2.2.2.2.1) (σ0.2.2.2.2.2.2 - σ'.2.2.2.2.2.2) (cl_A c0 σ0.2.2.2.1 s.heap.size)) (F0 m 0 ls []) := by
  unfold bc_X0_failAtToken_0 at h
  refine lv_aload_n C.1 C.2.1 dX0_failAtToken_0 rfl (lv_at hl 0 rfl) ?_
  refine lv_aload_n C.1 C.2.1 dX0_failAtToken_1 rfl (lv_at hl 0 rfl) ?_
  obtain ⟨r_2, σ_1, hq, h_3⟩ := bd2_some h
  refine cl_callV (ci := 0) (rest := [.ref (c0 + a)]) C G rfl ha cw_RX0_78 [] _ (kc_X0_token l D c0 (by rw [G.1]; exact ha) hq) (Nat.le_of_ble_eq_true rfl) (Nat.le_of_ble_eq_true rfl) rfl rfl hl.1 (Nat.le_of_ble_eq_true rfl) dX0_failAtToken_2 (fun T_4 H locs cells slots t_5 hu G_6 => ?_)
  have ha := hu.kind ha (by decide)
  refine W.eq (g2 := F0 m 5 ls [.int r_2, .ref (c0 + a)]) rfl ?_
  refine lv_bipush (v := (7:Int32)) C.1 C.2.1 dX0_failAtToken_5 (by decide) ?_
  refine lv_icmp_ne (tgt := 14) C.1 C.2.1 dX0_failAtToken_7 (by decide) (fun hc => ?_) (fun hc => ?_)
  · rw [if_neg hc] at h_3
    refine lv_iconst (v := (2:Int32)) C.1 C.2.1 dX0_failAtToken_14 (by decide) ?_
    exact wc_X0_failAtToken_15 C h_3 G_6 ha (cl_RTs ha) (lv_sub hl [0] rfl)
  · rw [if_pos hc] at h_3
    refine lv_iconst (v := (1:Int32)) C.1 C.2.1 dX0_failAtToken_10 (by decide) ?_
    refine lv_goto (tgt := 15) C.1 C.2.1 dX0_failAtToken_11 (by decide) ?_
    exact wc_X0_failAtToken_15 C h_3 G_6 ha (cl_RTs ha) (lv_sub hl [0] rfl)
noncomputable def fc_X0_failAtToken (a : Nat) (σ : cl_S) : Option (cl_S) := bc_X0_failAtToken_0 a σ
theorem kc_X0_failAtToken (l : Launch) (D : cl_D) (c0 : Nat) {a : Nat} {σ σ' : cl_S} (ha : (σ.2.2.2.1 a).1 = 16) (h : fc_X0_failAtToken a σ = some σ') : cl_Met true l D c0 yX0_failAtToken cX0_failAtToken 1 none 1 22 [.ref (c0 + a)] σ none cl_no σ' :=
  cl_of (by decide) (Nat.le_of_ble_eq_true rfl) (fun p e s m args below meth c ls C hn G hl => wc_X0_failAtToken_0 C h G ha hl)
abbrev cX0_least : ByteArray := prog_2_method_24_code
def yX0_least : MethodName := ⟨RX0, "least", "(I)J"⟩
theorem dX0_least_0 : decode cX0_least 0 = .ok (.iload_n 0, 1) := by decide +kernel
theorem dX0_least_1 : decode cX0_least 1 = .ok (.lookupswitch 51 #[(21, 43), (38, 43), (40, 45), (41, 49)], 43) := by decide +kernel
theorem dX0_least_44 : decode cX0_least 44 = .ok (.lconst 0, 1) := by decide +kernel
theorem dX0_least_45 : decode cX0_least 45 = .ok (.lreturn, 1) := by decide +kernel
theorem dX0_least_46 : decode cX0_least 46 = .ok (.ldc2_w 184, 3) := by decide +kernel
theorem dX0_least_49 : decode cX0_least 49 = .ok (.lreturn, 1) := by decide +kernel
theorem dX0_least_50 : decode cX0_least 50 = .ok (.lconst 1, 1) := by decide +kernel
theorem dX0_least_51 : decode cX0_least 51 = .ok (.lreturn, 1) := by decide +kernel
theorem dX0_least_52 : decode cX0_least 52 = .ok (.ldc2_w 186, 3) := by decide +kernel
theorem dX0_least_55 : decode cX0_least 55 = .ok (.lreturn, 1) := by decide +kernel
theorem cc_X0_least : Cond.code yX0_least cX0_least 1 (some .long) ∈ rf_tb := rf_at 834 (by decide +kernel) (by decide +kernel)
theorem kc_RX0_184 : Cond.constantLong RX0 184 (-2147483648 : Int64) ∈ rf_tb := rf_at 835 (by decide +kernel) (by decide +kernel)
theorem kc_RX0_186 : Cond.constantLong RX0 186 (-131072 : Int64) ∈ rf_tb := rf_at 836 (by decide +kernel) (by decide +kernel)
noncomputable def bc_X0_least_0 (x0 : Int32) (σ : cl_S) : Option (Int64 × cl_S) := (if x0 = (21:Int32) then some ((0:Int64), σ) else if x0 = (38:Int32) then some ((0:Int64), σ) else if x0 = (40:Int32) then some ((-2147483648:Int64), σ) else if x0 = (41:Int32) then some ((1:Int64), σ) else some ((-131072:Int64), σ))
set_option maxHeartbeats 4000000 in
theorem wc_X0_least_0 (C : cl_C D p s m args meth c cX0_least 1 (some .long) RX0) {r : Int64} {x0 : Int32} {σ0 σ σ' : cl_S} {T : Nat → Nat × Nat} {H : Heap} {locs : List Loc} {ls : Array Slot} {cells slots : Nat} (h : bc_X0_least_0 x0 σ = some (r, σ')) (G : cl_G true D c0 ({ frames := 0, cells := σ0.2.2.2.2.2.1, slots := σ0.2.2.2.2.2.2, locals := 0 }) s σ0.2.2.2.1 T σ H locs cells slots) (hl : lv_has ls 1 [(0, .int x0)]) : W p l e ({ frames := 0, cells := σ0.2.2.2.2.2.1, slots := σ0.2.2.2.2.2.2, locals := 0 }) s m args below meth c H locs cells slots (MQ below (cl_Q true D c0 (some (.long r)) cl_no σ0 σ') args s (σ0.2.2.2.2.2.1 - σ'.2.2.2.2.2.1) (σ0.2.2.2.2.2.2 - σ'.2.2.2.2.2.2) (cl_A c0 σ0.2.2.2.1 s.heap.size)) (F0 m 0 ls []) := by
  unfold bc_X0_least_0 at h
  refine lv_iload_n C.1 C.2.1 dX0_least_0 rfl (lv_at hl 0 rfl) ?_
  by_cases hk21 : x0 = (21:Int32)
  · rw [if_pos hk21] at h
    refine lv_lookup (tgt := 44) C.1 C.2.1 dX0_least_1 (by decide) (by rw [hk21] <;> rfl) (by decide) ?_
    refine lv_lconst (v := (0:Int64)) C.1 C.2.1 dX0_least_44 (by decide) ?_
    exact cl_lret ⟨rfl, rfl⟩ rfl C G h dX0_least_45
  rw [if_neg hk21] at h
  by_cases hk38 : x0 = (38:Int32)
  · rw [if_pos hk38] at h
    refine lv_lookup (tgt := 44) C.1 C.2.1 dX0_least_1 (by decide) (by rw [hk38] <;> rfl) (by decide) ?_
    refine lv_lconst (v := (0:Int64)) C.1 C.2.1 dX0_least_44 (by decide) ?_
    exact cl_lret ⟨rfl, rfl⟩ rfl C G h dX0_least_45
  rw [if_neg hk38] at h
  by_cases hk40 : x0 = (40:Int32)
  · rw [if_pos hk40] at h
    refine lv_lookup (tgt := 46) C.1 C.2.1 dX0_least_1 (by decide) (by rw [hk40] <;> rfl) (by decide) ?_
    refine lv_ldc2 (v := (-2147483648:Int64)) C.1 C.2.1 C.2.2.2.1 (C.2.2.2.2.1 _ kc_RX0_184) dX0_least_46 ?_
    exact cl_lret ⟨rfl, rfl⟩ rfl C G h dX0_least_49
  rw [if_neg hk40] at h
  by_cases hk41 : x0 = (41:Int32)
  · rw [if_pos hk41] at h
    refine lv_lookup (tgt := 50) C.1 C.2.1 dX0_least_1 (by decide) (by rw [hk41] <;> rfl) (by decide) ?_
    refine lv_lconst (v := (1:Int64)) C.1 C.2.1 dX0_least_50 (by decide) ?_
    exact cl_lret ⟨rfl, rfl⟩ rfl C G h dX0_least_51
  rw [if_neg hk41] at h
  refine lv_lookup (tgt := 52) (off := 51) C.1 C.2.1 dX0_least_1 (by decide) ?_ (by decide) ?_
  · exact cl_lsw (by intro q hq; simp only [List.mem_cons, List.not_mem_nil, or_false] at hq; rcases hq with rfl | rfl | rfl | rfl <;> intro e9 <;> first | exact hk21 (Int32.toInt_inj.mp (e9.symm.trans (by decide))) | exact hk38 (Int32.toInt_inj.mp (e9.symm.trans (by decide))) | exact hk40 (Int32.toInt_inj.mp (e9.symm.trans (by decide))) | exact hk41 (Int32.toInt_inj.mp (e9.symm.trans (by decide))))
  · refine lv_ldc2 (v := (-131072:Int64)) C.1 C.2.1 C.2.2.2.1 (C.2.2.2.2.1 _ kc_RX0_186) dX0_least_52 ?_
    exact cl_lret ⟨rfl, rfl⟩ rfl C G h dX0_least_55
noncomputable def fc_X0_least (x0 : Int32) (σ : cl_S) : Option (Int64 × cl_S) := bc_X0_least_0 x0 σ
theorem kc_X0_least (l : Launch) (D : cl_D) (c0 : Nat) {r : Int64} {x0 : Int32} {σ σ' : cl_S} (h : fc_X0_least x0 σ = some (r, σ')) : cl_Met true l D c0 yX0_least cX0_least 1 (some .long) 0 0 [.int x0] σ (some (.long r)) cl_no σ' :=
  cl_of (by decide) (Nat.le_of_ble_eq_true rfl) (fun p e s m args below meth c ls C hn G hl => wc_X0_least_0 C h G  hl)
abbrev cX0_most : ByteArray := prog_2_method_25_code
def yX0_most : MethodName := ⟨RX0, "most", "(I)J"⟩
theorem dX0_most_0 : decode cX0_most 0 = .ok (.iload_n 0, 1) := by decide +kernel
theorem dX0_most_1 : decode cX0_most 1 = .ok (.lookupswitch 47 #[(21, 35), (40, 39), (41, 43)], 35) := by decide +kernel
theorem dX0_most_36 : decode cX0_most 36 = .ok (.ldc2_w 188, 3) := by decide +kernel
theorem dX0_most_39 : decode cX0_most 39 = .ok (.lreturn, 1) := by decide +kernel
theorem dX0_most_40 : decode cX0_most 40 = .ok (.ldc2_w 190, 3) := by decide +kernel
theorem dX0_most_43 : decode cX0_most 43 = .ok (.lreturn, 1) := by decide +kernel
theorem dX0_most_44 : decode cX0_most 44 = .ok (.ldc2_w 192, 3) := by decide +kernel
theorem dX0_most_47 : decode cX0_most 47 = .ok (.lreturn, 1) := by decide +kernel
theorem dX0_most_48 : decode cX0_most 48 = .ok (.ldc2_w 194, 3) := by decide +kernel
theorem dX0_most_51 : decode cX0_most 51 = .ok (.lreturn, 1) := by decide +kernel
theorem cc_X0_most : Cond.code yX0_most cX0_most 1 (some .long) ∈ rf_tb := rf_at 839 (by decide +kernel) (by decide +kernel)
theorem kc_RX0_188 : Cond.constantLong RX0 188 (262143 : Int64) ∈ rf_tb := rf_at 840 (by decide +kernel) (by decide +kernel)
theorem kc_RX0_190 : Cond.constantLong RX0 190 (4294967295 : Int64) ∈ rf_tb := rf_at 841 (by decide +kernel) (by decide +kernel)
theorem kc_RX0_192 : Cond.constantLong RX0 192 (2048 : Int64) ∈ rf_tb := rf_at 842 (by decide +kernel) (by decide +kernel)
theorem kc_RX0_194 : Cond.constantLong RX0 194 (131071 : Int64) ∈ rf_tb := rf_at 843 (by decide +kernel) (by decide +kernel)
noncomputable def bc_X0_most_0 (x0 : Int32) (σ : cl_S) : Option (Int64 × cl_S) := (if x0 = (21:Int32) then some ((262143:Int64), σ) else if x0 = (40:Int32) then some ((4294967295:Int64), σ) else if x0 = (41:Int32) then some ((2048:Int64), σ) else some ((131071:Int64), σ))
set_option maxHeartbeats 4000000 in
theorem wc_X0_most_0 (C : cl_C D p s m args meth c cX0_most 1 (some .long) RX0) {r : Int64} {x0 : Int32} {σ0 σ σ' : cl_S} {T : Nat → Nat × Nat} {H : Heap} {locs : List Loc} {ls : Array Slot} {cells slots : Nat} (h : bc_X0_most_0 x0 σ = some (r, σ')) (G : cl_G true D c0 ({ frames := 0, cells := σ0.2.2.2.2.2.1, slots := σ0.2.2.2.2.2.2, locals := 0 }) s σ0.2.2.2.1 T σ H locs cells slots) (hl : lv_has ls 1 [(0, .int x0)]) : W p l e ({ frames := 0, cells := σ0.2.2.2.2.2.1, slots := σ0.2.2.2.2.2.2, locals := 0 }) s m args below meth c H locs cells slots (MQ below (cl_Q true D c0 (some (.long r)) cl_no σ0 σ') args s (σ0.2.2.2.2.2.1 - σ'.2.2.2.2.2.1) (σ0.2.2.2.2.2.2 - σ'.2.2.2.2.2.2) (cl_A c0 σ0.2.2.2.1 s.heap.size)) (F0 m 0 ls []) := by
  unfold bc_X0_most_0 at h
  refine lv_iload_n C.1 C.2.1 dX0_most_0 rfl (lv_at hl 0 rfl) ?_
  by_cases hk21 : x0 = (21:Int32)
  · rw [if_pos hk21] at h
    refine lv_lookup (tgt := 36) C.1 C.2.1 dX0_most_1 (by decide) (by rw [hk21] <;> rfl) (by decide) ?_
    refine lv_ldc2 (v := (262143:Int64)) C.1 C.2.1 C.2.2.2.1 (C.2.2.2.2.1 _ kc_RX0_188) dX0_most_36 ?_
    exact cl_lret ⟨rfl, rfl⟩ rfl C G h dX0_most_39
  rw [if_neg hk21] at h
  by_cases hk40 : x0 = (40:Int32)
  · rw [if_pos hk40] at h
    refine lv_lookup (tgt := 40) C.1 C.2.1 dX0_most_1 (by decide) (by rw [hk40] <;> rfl) (by decide) ?_
    refine lv_ldc2 (v := (4294967295:Int64)) C.1 C.2.1 C.2.2.2.1 (C.2.2.2.2.1 _ kc_RX0_190) dX0_most_40 ?_
    exact cl_lret ⟨rfl, rfl⟩ rfl C G h dX0_most_43
  rw [if_neg hk40] at h
  by_cases hk41 : x0 = (41:Int32)
  · rw [if_pos hk41] at h
    refine lv_lookup (tgt := 44) C.1 C.2.1 dX0_most_1 (by decide) (by rw [hk41] <;> rfl) (by decide) ?_
    refine lv_ldc2 (v := (2048:Int64)) C.1 C.2.1 C.2.2.2.1 (C.2.2.2.2.1 _ kc_RX0_192) dX0_most_44 ?_
    exact cl_lret ⟨rfl, rfl⟩ rfl C G h dX0_most_47
  rw [if_neg hk41] at h
  refine lv_lookup (tgt := 48) (off := 47) C.1 C.2.1 dX0_most_1 (by decide) ?_ (by decide) ?_
  · exact cl_lsw (by intro q hq; simp only [List.mem_cons, List.not_mem_nil, or_false] at hq; rcases hq with rfl | rfl | rfl <;> intro e9 <;> first | exact hk21 (Int32.toInt_inj.mp (e9.symm.trans (by decide))) | exact hk40 (Int32.toInt_inj.mp (e9.symm.trans (by decide))) | exact hk41 (Int32.toInt_inj.mp (e9.symm.trans (by decide))))
  · refine lv_ldc2 (v := (131071:Int64)) C.1 C.2.1 C.2.2.2.1 (C.2.2.2.2.1 _ kc_RX0_194) dX0_most_48 ?_
    exact cl_lret ⟨rfl, rfl⟩ rfl C G h dX0_most_51
noncomputable def fc_X0_most (x0 : Int32) (σ : cl_S) : Option (Int64 × cl_S) := bc_X0_most_0 x0 σ
theorem kc_X0_most (l : Launch) (D : cl_D) (c0 : Nat) {r : Int64} {x0 : Int32} {σ σ' : cl_S} (h : fc_X0_most x0 σ = some (r, σ')) : cl_Met true l D c0 yX0_most cX0_most 1 (some .long) 0 0 [.int x0] σ (some (.long r)) cl_no σ' :=
  cl_of (by decide) (Nat.le_of_ble_eq_true rfl) (fun p e s m args below meth c ls C hn G hl => wc_X0_most_0 C h G  hl)
abbrev cX0_readValue : ByteArray := prog_2_method_23_code
def yX0_readValue : MethodName := ⟨RX0, "readValue", "(I)J"⟩
theorem dX0_readValue_0 : decode cX0_readValue 0 = .ok (.aload_n 0, 1) := by decide +kernel
theorem dX0_readValue_1 : decode cX0_readValue 1 = .ok (.getfield 67, 3) := by decide +kernel
theorem dX0_readValue_4 : decode cX0_readValue 4 = .ok (.ifCond .eq 5, 3) := by decide +kernel
theorem dX0_readValue_7 : decode cX0_readValue 7 = .ok (.lconst 0, 1) := by decide +kernel
theorem dX0_readValue_8 : decode cX0_readValue 8 = .ok (.lreturn, 1) := by decide +kernel
theorem dX0_readValue_9 : decode cX0_readValue 9 = .ok (.aload_n 0, 1) := by decide +kernel
theorem dX0_readValue_10 : decode cX0_readValue 10 = .ok (.invokevirtual 78, 3) := by decide +kernel
theorem dX0_readValue_13 : decode cX0_readValue 13 = .ok (.iconst 2, 1) := by decide +kernel
theorem dX0_readValue_14 : decode cX0_readValue 14 = .ok (.if_icmp .ne 20, 3) := by decide +kernel
theorem dX0_readValue_17 : decode cX0_readValue 17 = .ok (.iload_n 1, 1) := by decide +kernel
theorem dX0_readValue_18 : decode cX0_readValue 18 = .ok (.invokestatic 172, 3) := by decide +kernel
theorem dX0_readValue_21 : decode cX0_readValue 21 = .ok (.ifCond .eq 13, 3) := by decide +kernel
theorem dX0_readValue_24 : decode cX0_readValue 24 = .ok (.aload_n 0, 1) := by decide +kernel
theorem dX0_readValue_25 : decode cX0_readValue 25 = .ok (.invokevirtual 175, 3) := by decide +kernel
theorem dX0_readValue_28 : decode cX0_readValue 28 = .ok (.aload_n 0, 1) := by decide +kernel
theorem dX0_readValue_29 : decode cX0_readValue 29 = .ok (.invokevirtual 110, 3) := by decide +kernel
theorem dX0_readValue_32 : decode cX0_readValue 32 = .ok (.lconst 0, 1) := by decide +kernel
theorem dX0_readValue_33 : decode cX0_readValue 33 = .ok (.lreturn, 1) := by decide +kernel
theorem dX0_readValue_34 : decode cX0_readValue 34 = .ok (.aload_n 0, 1) := by decide +kernel
theorem dX0_readValue_35 : decode cX0_readValue 35 = .ok (.invokevirtual 78, 3) := by decide +kernel
theorem dX0_readValue_38 : decode cX0_readValue 38 = .ok (.bipush 6, 2) := by decide +kernel
theorem dX0_readValue_40 : decode cX0_readValue 40 = .ok (.if_icmp .ne 7, 3) := by decide +kernel
theorem dX0_readValue_43 : decode cX0_readValue 43 = .ok (.iconst 1, 1) := by decide +kernel
theorem dX0_readValue_44 : decode cX0_readValue 44 = .ok (.goto 4, 3) := by decide +kernel
theorem dX0_readValue_47 : decode cX0_readValue 47 = .ok (.iconst 0, 1) := by decide +kernel
theorem dX0_readValue_48 : decode cX0_readValue 48 = .ok (.istore_n 2, 1) := by decide +kernel
theorem dX0_readValue_49 : decode cX0_readValue 49 = .ok (.iload_n 2, 1) := by decide +kernel
theorem dX0_readValue_50 : decode cX0_readValue 50 = .ok (.ifCond .eq 7, 3) := by decide +kernel
theorem dX0_readValue_53 : decode cX0_readValue 53 = .ok (.aload_n 0, 1) := by decide +kernel
theorem dX0_readValue_54 : decode cX0_readValue 54 = .ok (.invokevirtual 110, 3) := by decide +kernel
theorem dX0_readValue_57 : decode cX0_readValue 57 = .ok (.aload_n 0, 1) := by decide +kernel
theorem dX0_readValue_58 : decode cX0_readValue 58 = .ok (.invokevirtual 78, 3) := by decide +kernel
theorem dX0_readValue_61 : decode cX0_readValue 61 = .ok (.iconst 3, 1) := by decide +kernel
theorem dX0_readValue_62 : decode cX0_readValue 62 = .ok (.if_icmp .eq 9, 3) := by decide +kernel
theorem dX0_readValue_65 : decode cX0_readValue 65 = .ok (.aload_n 0, 1) := by decide +kernel
theorem dX0_readValue_66 : decode cX0_readValue 66 = .ok (.invokevirtual 116, 3) := by decide +kernel
theorem dX0_readValue_69 : decode cX0_readValue 69 = .ok (.lconst 0, 1) := by decide +kernel
theorem dX0_readValue_70 : decode cX0_readValue 70 = .ok (.lreturn, 1) := by decide +kernel
theorem dX0_readValue_71 : decode cX0_readValue 71 = .ok (.iload_n 2, 1) := by decide +kernel
theorem dX0_readValue_72 : decode cX0_readValue 72 = .ok (.ifCond .eq 19, 3) := by decide +kernel
theorem dX0_readValue_75 : decode cX0_readValue 75 = .ok (.aload_n 0, 1) := by decide +kernel
theorem dX0_readValue_76 : decode cX0_readValue 76 = .ok (.getfield 42, 3) := by decide +kernel
theorem dX0_readValue_79 : decode cX0_readValue 79 = .ok (.getfield 103, 3) := by decide +kernel
theorem dX0_readValue_82 : decode cX0_readValue 82 = .ok (.aload_n 0, 1) := by decide +kernel
theorem dX0_readValue_83 : decode cX0_readValue 83 = .ok (.getfield 70, 3) := by decide +kernel
theorem dX0_readValue_86 : decode cX0_readValue 86 = .ok (.laload, 1) := by decide +kernel
theorem dX0_readValue_87 : decode cX0_readValue 87 = .ok (.lneg, 1) := by decide +kernel
theorem dX0_readValue_88 : decode cX0_readValue 88 = .ok (.goto 15, 3) := by decide +kernel
theorem dX0_readValue_91 : decode cX0_readValue 91 = .ok (.aload_n 0, 1) := by decide +kernel
theorem dX0_readValue_92 : decode cX0_readValue 92 = .ok (.getfield 42, 3) := by decide +kernel
theorem dX0_readValue_95 : decode cX0_readValue 95 = .ok (.getfield 103, 3) := by decide +kernel
theorem dX0_readValue_98 : decode cX0_readValue 98 = .ok (.aload_n 0, 1) := by decide +kernel
theorem dX0_readValue_99 : decode cX0_readValue 99 = .ok (.getfield 70, 3) := by decide +kernel
theorem dX0_readValue_102 : decode cX0_readValue 102 = .ok (.laload, 1) := by decide +kernel
theorem dX0_readValue_103 : decode cX0_readValue 103 = .ok (.lstore_n 3, 1) := by decide +kernel
theorem dX0_readValue_104 : decode cX0_readValue 104 = .ok (.lload_n 3, 1) := by decide +kernel
theorem dX0_readValue_105 : decode cX0_readValue 105 = .ok (.iload_n 1, 1) := by decide +kernel
theorem dX0_readValue_106 : decode cX0_readValue 106 = .ok (.invokestatic 178, 3) := by decide +kernel
theorem dX0_readValue_109 : decode cX0_readValue 109 = .ok (.lcmp, 1) := by decide +kernel
theorem dX0_readValue_110 : decode cX0_readValue 110 = .ok (.ifCond .lt 12, 3) := by decide +kernel
theorem dX0_readValue_113 : decode cX0_readValue 113 = .ok (.lload_n 3, 1) := by decide +kernel
theorem dX0_readValue_114 : decode cX0_readValue 114 = .ok (.iload_n 1, 1) := by decide +kernel
theorem dX0_readValue_115 : decode cX0_readValue 115 = .ok (.invokestatic 181, 3) := by decide +kernel
theorem dX0_readValue_118 : decode cX0_readValue 118 = .ok (.lcmp, 1) := by decide +kernel
theorem dX0_readValue_119 : decode cX0_readValue 119 = .ok (.ifCond .le 22, 3) := by decide +kernel
theorem dX0_readValue_122 : decode cX0_readValue 122 = .ok (.aload_n 0, 1) := by decide +kernel
theorem dX0_readValue_123 : decode cX0_readValue 123 = .ok (.iconst 5, 1) := by decide +kernel
theorem dX0_readValue_124 : decode cX0_readValue 124 = .ok (.aload_n 0, 1) := by decide +kernel
theorem dX0_readValue_125 : decode cX0_readValue 125 = .ok (.getfield 42, 3) := by decide +kernel
theorem dX0_readValue_128 : decode cX0_readValue 128 = .ok (.getfield 96, 3) := by decide +kernel
theorem dX0_readValue_131 : decode cX0_readValue 131 = .ok (.aload_n 0, 1) := by decide +kernel
theorem dX0_readValue_132 : decode cX0_readValue 132 = .ok (.getfield 70, 3) := by decide +kernel
theorem dX0_readValue_135 : decode cX0_readValue 135 = .ok (.iaload, 1) := by decide +kernel
theorem dX0_readValue_136 : decode cX0_readValue 136 = .ok (.invokevirtual 99, 3) := by decide +kernel
theorem dX0_readValue_139 : decode cX0_readValue 139 = .ok (.lconst 0, 1) := by decide +kernel
theorem dX0_readValue_140 : decode cX0_readValue 140 = .ok (.lreturn, 1) := by decide +kernel
theorem dX0_readValue_141 : decode cX0_readValue 141 = .ok (.aload_n 0, 1) := by decide +kernel
theorem dX0_readValue_142 : decode cX0_readValue 142 = .ok (.invokevirtual 110, 3) := by decide +kernel
theorem dX0_readValue_145 : decode cX0_readValue 145 = .ok (.lload_n 3, 1) := by decide +kernel
theorem dX0_readValue_146 : decode cX0_readValue 146 = .ok (.lreturn, 1) := by decide +kernel
theorem cc_X0_readValue : Cond.code yX0_readValue cX0_readValue 5 (some .long) ∈ rf_tb := rf_at 820 (by decide +kernel) (by decide +kernel)
theorem cw_RX0_110 : cl_wV RX0 RX0 yX0_advance cX0_advance 1 none 110 0 := ⟨⟨rf_at 805 (by decide +kernel) (by decide +kernel), rf_at 807 (by decide +kernel) (by decide +kernel), rf_sel (q := (yX0_advance, 16)) 10 (by decide +kernel) (by decide +kernel), cc_X0_advance, rf_at 3 (by decide +kernel) (by decide +kernel)⟩, ⟨by decide, by decide, by decide +kernel⟩⟩
theorem cw_RX0_116 : cl_wV RX0 RX0 yX0_failAtToken cX0_failAtToken 1 none 116 0 := ⟨⟨rf_at 828 (by decide +kernel) (by decide +kernel), rf_at 830 (by decide +kernel) (by decide +kernel), rf_sel (q := (yX0_failAtToken, 16)) 15 (by decide +kernel) (by decide +kernel), cc_X0_failAtToken, rf_at 3 (by decide +kernel) (by decide +kernel)⟩, ⟨by decide, by decide, by decide +kernel⟩⟩
theorem cw_RX0_172 : cl_wS RX0 yX0_takesLabel cX0_takesLabel 1 (some .boolean) 172 1 := ⟨⟨rf_at 821 (by decide +kernel) (by decide +kernel), rf_at 822 (by decide +kernel) (by decide +kernel), cc_X0_takesLabel, rf_at 3 (by decide +kernel) (by decide +kernel)⟩, ⟨by decide, by decide, by decide +kernel⟩⟩
theorem cw_RX0_175 : cl_wV RX0 RX0 yX0_noteUse cX0_noteUse 1 none 175 0 := ⟨⟨rf_at 824 (by decide +kernel) (by decide +kernel), rf_at 826 (by decide +kernel) (by decide +kernel), rf_sel (q := (yX0_noteUse, 16)) 14 (by decide +kernel) (by decide +kernel), cc_X0_noteUse, rf_at 3 (by decide +kernel) (by decide +kernel)⟩, ⟨by decide, by decide, by decide +kernel⟩⟩
theorem cw_RX0_178 : cl_wS RX0 yX0_least cX0_least 1 (some .long) 178 1 := ⟨⟨rf_at 832 (by decide +kernel) (by decide +kernel), rf_at 833 (by decide +kernel) (by decide +kernel), cc_X0_least, rf_at 3 (by decide +kernel) (by decide +kernel)⟩, ⟨by decide, by decide, by decide +kernel⟩⟩
theorem cw_RX0_181 : cl_wS RX0 yX0_most cX0_most 1 (some .long) 181 1 := ⟨⟨rf_at 837 (by decide +kernel) (by decide +kernel), rf_at 838 (by decide +kernel) (by decide +kernel), cc_X0_most, rf_at 3 (by decide +kernel) (by decide +kernel)⟩, ⟨by decide, by decide, by decide +kernel⟩⟩
noncomputable def bc_X0_readValue_122 (a : Nat) (σ : cl_S) : Option (Int64 × cl_S) := ix (σ.1 a 2) 6001 (bd1 (fc_X0_fail a (5:Int32) (σ.1 (1 + 3) (σ.1 a 2).toNatClampNeg) σ) (fun σ_33 => some ((0:Int64), σ_33)))
set_option maxHeartbeats 4000000 in
theorem wc_X0_readValue_122 (C : cl_C D p s m args meth c cX0_readValue 5 (some .long) RX0) {r : Int64} {a : Nat} {σ0 σ σ' : cl_S} {T : Nat → Nat × Nat} {H : Heap} {locs : List Loc} {ls : Array Slot} {cells slots : Nat} (h : bc_X0_readValue_122 a σ = some (r, σ')) (G : cl_G true D c0 ({ frames := 2, cells := σ0.2.2.2.2.2.1, slots := σ0.2.2.2.2.2.2, locals := 42 }) s σ0.2.2.2.1 T σ H locs cells slots) (ha : (T a).1 = 16) (hl : lv_has ls 5 [(0, .ref (c0 + a))]) : W p l e ({ frames := 2, cells := σ0.2.2.2.2.2.1, slots := σ0.2.2.2.2.2.2, locals := 42 }) s m args below meth c H locs cells slots (MQ below (cl_Q true D c0 (some (.long r)) cl_no σ0 σ') args s (σ0.2.2.2.2.2.1 - σ'.2.2.2.2.2.1) (σ0.2.2.2.2.2.2 - σ'.2.2.2.2.2.2) (cl_A c0 σ0.2.2.2.1 s.heap.size)) (F0 m 122 ls []) := by
  unfold bc_X0_readValue_122 at h
  refine lv_aload_n C.1 C.2.1 dX0_readValue_122 rfl (lv_at hl 0 rfl) ?_
  refine lv_iconst (v := (5:Int32)) C.1 C.2.1 dX0_readValue_123 (by decide) ?_
  refine lv_aload_n C.1 C.2.1 dX0_readValue_124 rfl (lv_at hl 0 rfl) ?_
  refine cg_0_42 C G ha dX0_readValue_125 (fun t_30 => ?_)
  have t_30 : (T 1).1 = 20 := by rw [t_30]
  refine cg_0_96 C G t_30 dX0_readValue_128 (fun t_31 => ?_)
  refine lv_aload_n C.1 C.2.1 dX0_readValue_131 rfl (lv_at hl 0 rfl) ?_
  refine cg_0_70 C G ha dX0_readValue_132 ?_
  obtain ⟨hi, h_32⟩ := ix_some h
  refine cl_iald C G t_31 hi dX0_readValue_135 ?_
  obtain ⟨σ_33, hq, h_34⟩ := bd1_some h_32
  refine cl_callV (ci := 0) (rest := []) C G rfl ha cw_RX0_99 [.int (5:Int32), .int (σ.1 (1 + 3) (σ.1 a 2).toNatClampNeg)] _ (kc_X0_fail l D c0 (by rw [G.1]; exact ha) hq) (Nat.le_of_ble_eq_true rfl) (Nat.le_of_ble_eq_true rfl) rfl rfl hl.1 (Nat.le_of_ble_eq_true rfl) dX0_readValue_136 (fun T_35 H locs cells slots t_36 hu G_37 => ?_)
  have ha := hu.kind ha (by decide)
  refine W.eq (g2 := F0 m 139 ls []) rfl ?_
  refine lv_lconst (v := (0:Int64)) C.1 C.2.1 dX0_readValue_139 (by decide) ?_
  exact cl_lret ⟨rfl, rfl⟩ rfl C G_37 h_34 dX0_readValue_140
noncomputable def bc_X0_readValue_103 (a : Nat) (x1 : Int32) (v0 : Int64) (σ : cl_S) : Option (Int64 × cl_S) := bd2 (fc_X0_least x1 σ) (fun r_25 σ_24 => (if (lg_cmp v0 r_25) < 0 then bc_X0_readValue_122 a σ_24 else bd2 (fc_X0_most x1 σ_24) (fun r_39 σ_38 => (if (lg_cmp v0 r_39) ≤ 0 then bd1 (fc_X0_advance a σ_38) (fun σ_44 => some (v0, σ_44)) else bc_X0_readValue_122 a σ_38))))
set_option maxHeartbeats 4000000 in
theorem wc_X0_readValue_103 (C : cl_C D p s m args meth c cX0_readValue 5 (some .long) RX0) {r : Int64} {a : Nat} {x1 : Int32} {v0 : Int64} {σ0 σ σ' : cl_S} {T : Nat → Nat × Nat} {H : Heap} {locs : List Loc} {ls : Array Slot} {cells slots : Nat} (h : bc_X0_readValue_103 a x1 v0 σ = some (r, σ')) (G : cl_G true D c0 ({ frames := 2, cells := σ0.2.2.2.2.2.1, slots := σ0.2.2.2.2.2.2, locals := 42 }) s σ0.2.2.2.1 T σ H locs cells slots) (ha : (T a).1 = 16) (hl : lv_has ls 5 [(0, .ref (c0 + a)), (1, .int x1)]) : W p l e ({ frames := 2, cells := σ0.2.2.2.2.2.1, slots := σ0.2.2.2.2.2.2, locals := 42 }) s m args below meth c H locs cells slots (MQ below (cl_Q true D c0 (some (.long r)) cl_no σ0 σ') args s (σ0.2.2.2.2.2.1 - σ'.2.2.2.2.2.1) (σ0.2.2.2.2.2.2 - σ'.2.2.2.2.2.2) (cl_A c0 σ0.2.2.2.1 s.heap.size)) (F0 m 103 ls [.long v0]) := by
  unfold bc_X0_readValue_103 at h
  refine lv_lstore_n (lv' := [(3, .long v0), (0, .ref (c0 + a)), (1, .int x1)]) C.1 C.2.1 dX0_readValue_103 rfl hl (by decide) rfl (fun ls hl_23 => ?_)
  refine lv_lload_n C.1 C.2.1 dX0_readValue_104 rfl (lv_at hl_23 0 rfl) ?_
  refine lv_iload_n C.1 C.2.1 dX0_readValue_105 rfl (lv_at hl_23 2 rfl) ?_
  obtain ⟨r_25, σ_24, hq, h_26⟩ := bd2_some h
  refine cl_callS (rest := [.long v0]) C G cw_RX0_178 [.int x1] _ (kc_X0_least l D c0 hq) (Nat.le_of_ble_eq_true rfl) (Nat.le_of_ble_eq_true rfl) rfl rfl hl_23.1 (Nat.le_of_ble_eq_true rfl) dX0_readValue_106 (fun T_27 H locs cells slots t_28 hu G_29 => ?_)
  have ha := hu.kind ha (by decide)
  refine W.eq (g2 := F0 m 109 ls [.long r_25, .long v0]) rfl ?_
  refine W.lcmp C.1 C.2.1 dX0_readValue_109 ?_
  refine lv_if_lt (tgt := 122) C.1 C.2.1 dX0_readValue_110 (by decide) (fun hc => ?_) (fun hc => ?_)
  · rw [if_pos hc] at h_26
    exact wc_X0_readValue_122 C h_26 G_29 ha (lv_sub hl_23 [1] rfl)
  · rw [if_neg hc] at h_26
    refine lv_lload_n C.1 C.2.1 dX0_readValue_113 rfl (lv_at hl_23 0 rfl) ?_
    refine lv_iload_n C.1 C.2.1 dX0_readValue_114 rfl (lv_at hl_23 2 rfl) ?_
    obtain ⟨r_39, σ_38, hq, h_40⟩ := bd2_some h_26
    refine cl_callS (rest := [.long v0]) C G_29 cw_RX0_181 [.int x1] _ (kc_X0_most l D c0 hq) (Nat.le_of_ble_eq_true rfl) (Nat.le_of_ble_eq_true rfl) rfl rfl hl_23.1 (Nat.le_of_ble_eq_true rfl) dX0_readValue_115 (fun T_41 H locs cells slots t_42 hu G_43 => ?_)
    have ha := hu.kind ha (by decide)
    refine W.eq (g2 := F0 m 118 ls [.long r_39, .long v0]) rfl ?_
    refine W.lcmp C.1 C.2.1 dX0_readValue_118 ?_
    refine lv_if_le (tgt := 141) C.1 C.2.1 dX0_readValue_119 (by decide) (fun hc => ?_) (fun hc => ?_)
    · rw [if_pos hc] at h_40
      refine lv_aload_n C.1 C.2.1 dX0_readValue_141 rfl (lv_at hl_23 1 rfl) ?_
      obtain ⟨σ_44, hq, h_45⟩ := bd1_some h_40
      refine cl_callV (ci := 0) (rest := []) C G_43 rfl ha cw_RX0_110 [] _ (kc_X0_advance l D c0 (by rw [G_43.1]; exact ha) hq) (Nat.le_of_ble_eq_true rfl) (Nat.le_of_ble_eq_true rfl) rfl rfl hl_23.1 (Nat.le_of_ble_eq_true rfl) dX0_readValue_142 (fun T_46 H locs cells slots t_47 hu G_48 => ?_)
      have ha := hu.kind ha (by decide)
      refine W.eq (g2 := F0 m 145 ls []) rfl ?_
      refine lv_lload_n C.1 C.2.1 dX0_readValue_145 rfl (lv_at hl_23 0 rfl) ?_
      exact cl_lret ⟨rfl, rfl⟩ rfl C G_48 h_45 dX0_readValue_146
    · rw [if_neg hc] at h_40
      exact wc_X0_readValue_122 C h_40 G_43 ha (lv_sub hl_23 [1] rfl)
noncomputable def bc_X0_readValue_57 (a : Nat) (x1 : Int32) (x2 : Int32) (σ : cl_S) : Option (Int64 × cl_S) := bd2 (fc_X0_token a σ) (fun r_15 σ_14 => (if r_15 = (3:Int32) then (if x2 = 0 then ix (σ_14.1 a 2) 6001 (bc_X0_readValue_103 a x1 (σ_14.2.1 (1 + 4) (σ_14.1 a 2).toNatClampNeg) σ_14) else ix (σ_14.1 a 2) 6001 (bc_X0_readValue_103 a x1 (-(σ_14.2.1 (1 + 4) (σ_14.1 a 2).toNatClampNeg)) σ_14)) else bd1 (fc_X0_failAtToken a σ_14) (fun σ_52 => some ((0:Int64), σ_52))))
set_option maxHeartbeats 4000000 in
theorem wc_X0_readValue_57 (C : cl_C D p s m args meth c cX0_readValue 5 (some .long) RX0) {r : Int64} {a : Nat} {x1 : Int32} {x2 : Int32} {σ0 σ σ' : cl_S} {T : Nat → Nat × Nat} {H : Heap} {locs : List Loc} {ls : Array Slot} {cells slots : Nat} (h : bc_X0_readValue_57 a x1 x2 σ = some (r, σ')) (G : cl_G true D c0 ({ frames := 2, cells := σ0.2.2.2.2.2.1, slots := σ0.2.2.2.2.2.2, locals := 42 }) s σ0.2.2.2.1 T σ H locs cells slots) (ha : (T a).1 = 16) (hl : lv_has ls 5 [(0, .ref (c0 + a)), (1, .int x1), (2, .int x2)]) : W p l e ({ frames := 2, cells := σ0.2.2.2.2.2.1, slots := σ0.2.2.2.2.2.2, locals := 42 }) s m args below meth c H locs cells slots (MQ below (cl_Q true D c0 (some (.long r)) cl_no σ0 σ') args s (σ0.2.2.2.2.2.1 - σ'.2.2.2.2.2.1) (σ0.2.2.2.2.2.2 - σ'.2.2.2.2.2.2) (cl_A c0 σ0.2.2.2.1 s.heap.size)) (F0 m 57 ls []) := by
  unfold bc_X0_readValue_57 at h
  refine lv_aload_n C.1 C.2.1 dX0_readValue_57 rfl (lv_at hl 0 rfl) ?_
  obtain ⟨r_15, σ_14, hq, h_16⟩ := bd2_some h
  refine cl_callV (ci := 0) (rest := []) C G rfl ha cw_RX0_78 [] _ (kc_X0_token l D c0 (by rw [G.1]; exact ha) hq) (Nat.le_of_ble_eq_true rfl) (Nat.le_of_ble_eq_true rfl) rfl rfl hl.1 (Nat.le_of_ble_eq_true rfl) dX0_readValue_58 (fun T_17 H locs cells slots t_18 hu G_19 => ?_)
  have ha := hu.kind ha (by decide)
  refine W.eq (g2 := F0 m 61 ls [.int r_15]) rfl ?_
  refine lv_iconst (v := (3:Int32)) C.1 C.2.1 dX0_readValue_61 (by decide) ?_
  refine lv_icmp_eq (tgt := 71) C.1 C.2.1 dX0_readValue_62 (by decide) (fun hc => ?_) (fun hc => ?_)
  · rw [if_pos hc] at h_16
    refine lv_iload_n C.1 C.2.1 dX0_readValue_71 rfl (lv_at hl 2 rfl) ?_
    refine lv_if_eq (tgt := 91) C.1 C.2.1 dX0_readValue_72 (by decide) (fun hc => ?_) (fun hc => ?_)
    · rw [if_pos hc] at h_16
      refine lv_aload_n C.1 C.2.1 dX0_readValue_91 rfl (lv_at hl 0 rfl) ?_
      refine cg_0_42 C G_19 ha dX0_readValue_92 (fun t_20 => ?_)
      have t_20 : (T_17 1).1 = 20 := by rw [t_20]
      refine cg_0_103 C G_19 t_20 dX0_readValue_95 (fun t_21 => ?_)
      refine lv_aload_n C.1 C.2.1 dX0_readValue_98 rfl (lv_at hl 0 rfl) ?_
      refine cg_0_70 C G_19 ha dX0_readValue_99 ?_
      obtain ⟨hi, h_22⟩ := ix_some h_16
      refine cl_lald C G_19 t_21 hi dX0_readValue_102 ?_
      exact wc_X0_readValue_103 C h_22 G_19 ha (lv_sub hl [0, 1] rfl)
    · rw [if_neg hc] at h_16
      refine lv_aload_n C.1 C.2.1 dX0_readValue_75 rfl (lv_at hl 0 rfl) ?_
      refine cg_0_42 C G_19 ha dX0_readValue_76 (fun t_49 => ?_)
      have t_49 : (T_17 1).1 = 20 := by rw [t_49]
      refine cg_0_103 C G_19 t_49 dX0_readValue_79 (fun t_50 => ?_)
      refine lv_aload_n C.1 C.2.1 dX0_readValue_82 rfl (lv_at hl 0 rfl) ?_
      refine cg_0_70 C G_19 ha dX0_readValue_83 ?_
      obtain ⟨hi, h_51⟩ := ix_some h_16
      refine cl_lald C G_19 t_50 hi dX0_readValue_86 ?_
      refine lv_lneg C.1 C.2.1 dX0_readValue_87 ?_
      refine lv_goto (tgt := 103) C.1 C.2.1 dX0_readValue_88 (by decide) ?_
      exact wc_X0_readValue_103 C h_51 G_19 ha (lv_sub hl [0, 1] rfl)
  · rw [if_neg hc] at h_16
    refine lv_aload_n C.1 C.2.1 dX0_readValue_65 rfl (lv_at hl 0 rfl) ?_
    obtain ⟨σ_52, hq, h_53⟩ := bd1_some h_16
    refine cl_callV (ci := 0) (rest := []) C G_19 rfl ha cw_RX0_116 [] _ (kc_X0_failAtToken l D c0 (by rw [G_19.1]; exact ha) hq) (Nat.le_of_ble_eq_true rfl) (Nat.le_of_ble_eq_true rfl) rfl rfl hl.1 (Nat.le_of_ble_eq_true rfl) dX0_readValue_66 (fun T_54 H locs cells slots t_55 hu G_56 => ?_)
    have ha := hu.kind ha (by decide)
    refine W.eq (g2 := F0 m 69 ls []) rfl ?_
    refine lv_lconst (v := (0:Int64)) C.1 C.2.1 dX0_readValue_69 (by decide) ?_
    exact cl_lret ⟨rfl, rfl⟩ rfl C G_56 h_53 dX0_readValue_70
noncomputable def bc_X0_readValue_48 (a : Nat) (x1 : Int32) (v0 : Int32) (σ : cl_S) : Option (Int64 × cl_S) := (if v0 = 0 then bc_X0_readValue_57 a x1 v0 σ else bd1 (fc_X0_advance a σ) (fun σ_57 => bc_X0_readValue_57 a x1 v0 σ_57))
set_option maxHeartbeats 4000000 in
theorem wc_X0_readValue_48 (C : cl_C D p s m args meth c cX0_readValue 5 (some .long) RX0) {r : Int64} {a : Nat} {x1 : Int32} {v0 : Int32} {σ0 σ σ' : cl_S} {T : Nat → Nat × Nat} {H : Heap} {locs : List Loc} {ls : Array Slot} {cells slots : Nat} (h : bc_X0_readValue_48 a x1 v0 σ = some (r, σ')) (G : cl_G true D c0 ({ frames := 2, cells := σ0.2.2.2.2.2.1, slots := σ0.2.2.2.2.2.2, locals := 42 }) s σ0.2.2.2.1 T σ H locs cells slots) (ha : (T a).1 = 16) (hl : lv_has ls 5 [(0, .ref (c0 + a)), (1, .int x1)]) : W p l e ({ frames := 2, cells := σ0.2.2.2.2.2.1, slots := σ0.2.2.2.2.2.2, locals := 42 }) s m args below meth c H locs cells slots (MQ below (cl_Q true D c0 (some (.long r)) cl_no σ0 σ') args s (σ0.2.2.2.2.2.1 - σ'.2.2.2.2.2.1) (σ0.2.2.2.2.2.2 - σ'.2.2.2.2.2.2) (cl_A c0 σ0.2.2.2.1 s.heap.size)) (F0 m 48 ls [.int v0]) := by
  unfold bc_X0_readValue_48 at h
  refine lv_istore_n (lv' := [(2, .int v0), (0, .ref (c0 + a)), (1, .int x1)]) C.1 C.2.1 dX0_readValue_48 rfl hl (by decide) rfl (fun ls hl_13 => ?_)
  refine lv_iload_n C.1 C.2.1 dX0_readValue_49 rfl (lv_at hl_13 0 rfl) ?_
  refine lv_if_eq (tgt := 57) C.1 C.2.1 dX0_readValue_50 (by decide) (fun hc => ?_) (fun hc => ?_)
  · rw [if_pos hc] at h
    exact wc_X0_readValue_57 C h G ha (lv_sub hl_13 [1, 2, 0] rfl)
  · rw [if_neg hc] at h
    refine lv_aload_n C.1 C.2.1 dX0_readValue_53 rfl (lv_at hl_13 1 rfl) ?_
    obtain ⟨σ_57, hq, h_58⟩ := bd1_some h
    refine cl_callV (ci := 0) (rest := []) C G rfl ha cw_RX0_110 [] _ (kc_X0_advance l D c0 (by rw [G.1]; exact ha) hq) (Nat.le_of_ble_eq_true rfl) (Nat.le_of_ble_eq_true rfl) rfl rfl hl_13.1 (Nat.le_of_ble_eq_true rfl) dX0_readValue_54 (fun T_59 H locs cells slots t_60 hu G_61 => ?_)
    have ha := hu.kind ha (by decide)
    refine W.eq (g2 := F0 m 57 ls []) rfl ?_
    exact wc_X0_readValue_57 C h_58 G_61 ha (lv_sub hl_13 [1, 2, 0] rfl)
noncomputable def bc_X0_readValue_34 (a : Nat) (x1 : Int32) (σ : cl_S) : Option (Int64 × cl_S) := bd2 (fc_X0_token a σ) (fun r_8 σ_7 => (if r_8 = (6:Int32) then bc_X0_readValue_48 a x1 (1:Int32) σ_7 else bc_X0_readValue_48 a x1 (0:Int32) σ_7))
set_option maxHeartbeats 4000000 in
theorem wc_X0_readValue_34 (C : cl_C D p s m args meth c cX0_readValue 5 (some .long) RX0) {r : Int64} {a : Nat} {x1 : Int32} {σ0 σ σ' : cl_S} {T : Nat → Nat × Nat} {H : Heap} {locs : List Loc} {ls : Array Slot} {cells slots : Nat} (h : bc_X0_readValue_34 a x1 σ = some (r, σ')) (G : cl_G true D c0 ({ frames := 2, cells := σ0.2.2.2.2.2.1, slots := σ0.2.2.2.2.2.2, locals := 42 }) s σ0.2.2.2.1 T σ H locs cells slots) (ha : (T a).1 = 16) (hl : lv_has ls 5 [(0, .ref (c0 + a)), (1, .int x1)]) : W p l e ({ frames := 2, cells := σ0.2.2.2.2.2.1, slots := σ0.2.2.2.2.2.2, locals := 42 }) s m args below meth c H locs cells slots (MQ below (cl_Q true D c0 (some (.long r)) cl_no σ0 σ') args s (σ0.2.2.2.2.2.1 - σ'.2.2.2.2.2.1) (σ0.2.2.2.2.2.2 - σ'.2.2.2.2.2.2) (cl_A c0 σ0.2.2.2.1 s.heap.size)) (F0 m 34 ls []) := by
  unfold bc_X0_readValue_34 at h
  refine lv_aload_n C.1 C.2.1 dX0_readValue_34 rfl (lv_at hl 0 rfl) ?_
  obtain ⟨r_8, σ_7, hq, h_9⟩ := bd2_some h
  refine cl_callV (ci := 0) (rest := []) C G rfl ha cw_RX0_78 [] _ (kc_X0_token l D c0 (by rw [G.1]; exact ha) hq) (Nat.le_of_ble_eq_true rfl) (Nat.le_of_ble_eq_true rfl) rfl rfl hl.1 (Nat.le_of_ble_eq_true rfl) dX0_readValue_35 (fun T_10 H locs cells slots t_11 hu G_12 => ?_)
  have ha := hu.kind ha (by decide)
  refine W.eq (g2 := F0 m 38 ls [.int r_8]) rfl ?_
  refine lv_bipush (v := (6:Int32)) C.1 C.2.1 dX0_readValue_38 (by decide) ?_
  refine lv_icmp_ne (tgt := 47) C.1 C.2.1 dX0_readValue_40 (by decide) (fun hc => ?_) (fun hc => ?_)
  · rw [if_neg hc] at h_9
    refine lv_iconst (v := (0:Int32)) C.1 C.2.1 dX0_readValue_47 (by decide) ?_
    exact wc_X0_readValue_48 C h_9 G_12 ha (lv_sub hl [0, 1] rfl)
  · rw [if_pos hc] at h_9
    refine lv_iconst (v := (1:Int32)) C.1 C.2.1 dX0_readValue_43 (by decide) ?_
    refine lv_goto (tgt := 48) C.1 C.2.1 dX0_readValue_44 (by decide) ?_
    exact wc_X0_readValue_48 C h_9 G_12 ha (lv_sub hl [0, 1] rfl)
noncomputable def bc_X0_readValue_0 (a : Nat) (x1 : Int32) (σ : cl_S) : Option (Int64 × cl_S) := (if (σ.1 a 12) = 0 then bd2 (fc_X0_token a σ) (fun r_2 σ_1 => (if r_2 = (2:Int32) then bd2 (fc_X0_takesLabel x1 σ_1) (fun r_63 σ_62 => (if r_63 = 0 then bc_X0_readValue_34 a x1 σ_62 else bd1 (fc_X0_noteUse a σ_62) (fun σ_68 => bd1 (fc_X0_advance a σ_68) (fun σ_73 => some ((0:Int64), σ_73))))) else bc_X0_readValue_34 a x1 σ_1)) else some ((0:Int64), σ))
set_option maxHeartbeats 4000000 in
theorem wc_X0_readValue_0 (C : cl_C D p s m args meth c cX0_readValue 5 (some .long) RX0) {r : Int64} {a : Nat} {x1 : Int32} {σ0 σ σ' : cl_S} {T : Nat → Nat × Nat} {H : Heap} {locs : List Loc} {ls : Array Slot} {cells slots : Nat} (h : bc_X0_readValue_0 a x1 σ = some (r, σ')) (G : cl_G true D c0 ({ frames := 2, cells := σ0.2.2.2.2.2.1, slots := σ0.2.2.2.2.2.2, locals := 42 }) s σ0.2.2.2.1 T σ H locs cells slots) (ha : (T a).1 = 16) (hl : lv_has ls 5 [(0, .ref (c0 + a)), (1, .int x1)]) : W p l e ({ frames := 2, cells := σ0.2.2.2.2.2.1, slots := σ0.2.2.2.2.2.2, locals := 42 }) s m args below meth c H locs cells slots (MQ below (cl_Q true D c0 (some (.long r)) cl_no σ0 σ') args s (σ0.2.2.2.2.2.1 - σ'.2.2.2.2.2.1) (σ0.2.2.2.2.2.2 - σ'.2.2.2.2.2.2) (cl_A c0 σ0.2.2.2.1 s.heap.size)) (F0 m 0 ls []) := by
  unfold bc_X0_readValue_0 at h
  refine lv_aload_n C.1 C.2.1 dX0_readValue_0 rfl (lv_at hl 0 rfl) ?_
  refine cg_0_67 C G ha dX0_readValue_1 ?_
  refine lv_if_eq (tgt := 9) C.1 C.2.1 dX0_readValue_4 (by decide) (fun hc => ?_) (fun hc => ?_)
  · rw [if_pos hc] at h
    refine lv_aload_n C.1 C.2.1 dX0_readValue_9 rfl (lv_at hl 0 rfl) ?_
    obtain ⟨r_2, σ_1, hq, h_3⟩ := bd2_some h
    refine cl_callV (ci := 0) (rest := []) C G rfl ha cw_RX0_78 [] _ (kc_X0_token l D c0 (by rw [G.1]; exact ha) hq) (Nat.le_of_ble_eq_true rfl) (Nat.le_of_ble_eq_true rfl) rfl rfl hl.1 (Nat.le_of_ble_eq_true rfl) dX0_readValue_10 (fun T_4 H locs cells slots t_5 hu G_6 => ?_)
    have ha := hu.kind ha (by decide)
    refine W.eq (g2 := F0 m 13 ls [.int r_2]) rfl ?_
    refine lv_iconst (v := (2:Int32)) C.1 C.2.1 dX0_readValue_13 (by decide) ?_
    refine lv_icmp_ne (tgt := 34) C.1 C.2.1 dX0_readValue_14 (by decide) (fun hc => ?_) (fun hc => ?_)
    · rw [if_neg hc] at h_3
      exact wc_X0_readValue_34 C h_3 G_6 ha (lv_sub hl [0, 1] rfl)
    · rw [if_pos hc] at h_3
      refine lv_iload_n C.1 C.2.1 dX0_readValue_17 rfl (lv_at hl 1 rfl) ?_
      obtain ⟨r_63, σ_62, hq, h_64⟩ := bd2_some h_3
      refine cl_callS (rest := []) C G_6 cw_RX0_172 [.int x1] _ (kc_X0_takesLabel l D c0 hq) (Nat.le_of_ble_eq_true rfl) (Nat.le_of_ble_eq_true rfl) rfl rfl hl.1 (Nat.le_of_ble_eq_true rfl) dX0_readValue_18 (fun T_65 H locs cells slots t_66 hu G_67 => ?_)
      have ha := hu.kind ha (by decide)
      refine W.eq (g2 := F0 m 21 ls [.int r_63]) rfl ?_
      refine lv_if_eq (tgt := 34) C.1 C.2.1 dX0_readValue_21 (by decide) (fun hc => ?_) (fun hc => ?_)
      · rw [if_pos hc] at h_64
        exact wc_X0_readValue_34 C h_64 G_67 ha (lv_sub hl [0, 1] rfl)
      · rw [if_neg hc] at h_64
        refine lv_aload_n C.1 C.2.1 dX0_readValue_24 rfl (lv_at hl 0 rfl) ?_
        obtain ⟨σ_68, hq, h_69⟩ := bd1_some h_64
        refine cl_callV (ci := 0) (rest := []) C G_67 rfl ha cw_RX0_175 [] _ (kc_X0_noteUse l D c0 (by rw [G_67.1]; exact ha) hq) (Nat.le_of_ble_eq_true rfl) (Nat.le_of_ble_eq_true rfl) rfl rfl hl.1 (Nat.le_of_ble_eq_true rfl) dX0_readValue_25 (fun T_70 H locs cells slots t_71 hu G_72 => ?_)
        have ha := hu.kind ha (by decide)
        refine W.eq (g2 := F0 m 28 ls []) rfl ?_
        refine lv_aload_n C.1 C.2.1 dX0_readValue_28 rfl (lv_at hl 0 rfl) ?_
        obtain ⟨σ_73, hq, h_74⟩ := bd1_some h_69
        refine cl_callV (ci := 0) (rest := []) C G_72 rfl ha cw_RX0_110 [] _ (kc_X0_advance l D c0 (by rw [G_72.1]; exact ha) hq) (Nat.le_of_ble_eq_true rfl) (Nat.le_of_ble_eq_true rfl) rfl rfl hl.1 (Nat.le_of_ble_eq_true rfl) dX0_readValue_29 (fun T_75 H locs cells slots t_76 hu G_77 => ?_)
        have ha := hu.kind ha (by decide)
        refine W.eq (g2 := F0 m 32 ls []) rfl ?_
        refine lv_lconst (v := (0:Int64)) C.1 C.2.1 dX0_readValue_32 (by decide) ?_
        exact cl_lret ⟨rfl, rfl⟩ rfl C G_77 h_74 dX0_readValue_33
  · rw [if_neg hc] at h
    refine lv_lconst (v := (0:Int64)) C.1 C.2.1 dX0_readValue_7 (by decide) ?_
    exact cl_lret ⟨rfl, rfl⟩ rfl C G h dX0_readValue_8
noncomputable def fc_X0_readValue (a : Nat) (x1 : Int32) (σ : cl_S) : Option (Int64 × cl_S) := bc_X0_readValue_0 a x1 σ
theorem kc_X0_readValue (l : Launch) (D : cl_D) (c0 : Nat) {r : Int64} {a : Nat} {x1 : Int32} {σ σ' : cl_S} (ha : (σ.2.2.2.1 a).1 = 16) (h : fc_X0_readValue a x1 σ = some (r, σ')) : cl_Met true l D c0 yX0_readValue cX0_readValue 5 (some .long) 2 42 [.ref (c0 + a), .int x1] σ (some (.long r)) cl_no σ' :=
  cl_of (by decide) (Nat.le_of_ble_eq_true rfl) (fun p e s m args below meth c ls C hn G hl => wc_X0_readValue_0 C h G ha hl)
abbrev cJ7_rangeCheck_23922 : ByteArray := prog_21_method_30_code
def yJ7_rangeCheck_23922 : MethodName := ⟨RJ7, "rangeCheck", "(III)V"⟩
theorem dJ7_rangeCheck_23922_0 : decode cJ7_rangeCheck_23922 0 = .ok (.iload_n 1, 1) := by decide +kernel
theorem dJ7_rangeCheck_23922_1 : decode cJ7_rangeCheck_23922 1 = .ok (.iload_n 2, 1) := by decide +kernel
theorem dJ7_rangeCheck_23922_2 : decode cJ7_rangeCheck_23922 2 = .ok (.if_icmp .le 44, 3) := by decide +kernel
theorem dJ7_rangeCheck_23922_5 : decode cJ7_rangeCheck_23922 5 = .ok (.new 43, 3) := by decide +kernel
theorem dJ7_rangeCheck_23922_8 : decode cJ7_rangeCheck_23922 8 = .ok (.dup, 1) := by decide +kernel
theorem dJ7_rangeCheck_23922_9 : decode cJ7_rangeCheck_23922 9 = .ok (.new 45, 3) := by decide +kernel
theorem dJ7_rangeCheck_23922_12 : decode cJ7_rangeCheck_23922 12 = .ok (.dup, 1) := by decide +kernel
theorem dJ7_rangeCheck_23922_13 : decode cJ7_rangeCheck_23922 13 = .ok (.invokespecial 47, 3) := by decide +kernel
theorem dJ7_rangeCheck_23922_16 : decode cJ7_rangeCheck_23922 16 = .ok (.ldc 48, 2) := by decide +kernel
theorem dJ7_rangeCheck_23922_18 : decode cJ7_rangeCheck_23922 18 = .ok (.invokevirtual 50, 3) := by decide +kernel
theorem dJ7_rangeCheck_23922_21 : decode cJ7_rangeCheck_23922 21 = .ok (.iload_n 1, 1) := by decide +kernel
theorem dJ7_rangeCheck_23922_22 : decode cJ7_rangeCheck_23922 22 = .ok (.invokevirtual 54, 3) := by decide +kernel
theorem dJ7_rangeCheck_23922_25 : decode cJ7_rangeCheck_23922 25 = .ok (.ldc 57, 2) := by decide +kernel
theorem dJ7_rangeCheck_23922_27 : decode cJ7_rangeCheck_23922 27 = .ok (.invokevirtual 50, 3) := by decide +kernel
theorem dJ7_rangeCheck_23922_30 : decode cJ7_rangeCheck_23922 30 = .ok (.iload_n 2, 1) := by decide +kernel
theorem dJ7_rangeCheck_23922_31 : decode cJ7_rangeCheck_23922 31 = .ok (.invokevirtual 54, 3) := by decide +kernel
theorem dJ7_rangeCheck_23922_34 : decode cJ7_rangeCheck_23922 34 = .ok (.ldc 59, 2) := by decide +kernel
theorem dJ7_rangeCheck_23922_36 : decode cJ7_rangeCheck_23922 36 = .ok (.invokevirtual 50, 3) := by decide +kernel
theorem dJ7_rangeCheck_23922_39 : decode cJ7_rangeCheck_23922 39 = .ok (.invokevirtual 61, 3) := by decide +kernel
theorem dJ7_rangeCheck_23922_42 : decode cJ7_rangeCheck_23922 42 = .ok (.invokespecial 65, 3) := by decide +kernel
theorem dJ7_rangeCheck_23922_45 : decode cJ7_rangeCheck_23922 45 = .ok (.athrow, 1) := by decide +kernel
theorem dJ7_rangeCheck_23922_46 : decode cJ7_rangeCheck_23922 46 = .ok (.iload_n 1, 1) := by decide +kernel
theorem dJ7_rangeCheck_23922_47 : decode cJ7_rangeCheck_23922 47 = .ok (.ifCond .ge 12, 3) := by decide +kernel
theorem dJ7_rangeCheck_23922_50 : decode cJ7_rangeCheck_23922 50 = .ok (.new 68, 3) := by decide +kernel
theorem dJ7_rangeCheck_23922_53 : decode cJ7_rangeCheck_23922 53 = .ok (.dup, 1) := by decide +kernel
theorem dJ7_rangeCheck_23922_54 : decode cJ7_rangeCheck_23922 54 = .ok (.iload_n 1, 1) := by decide +kernel
theorem dJ7_rangeCheck_23922_55 : decode cJ7_rangeCheck_23922 55 = .ok (.invokespecial 70, 3) := by decide +kernel
theorem dJ7_rangeCheck_23922_58 : decode cJ7_rangeCheck_23922 58 = .ok (.athrow, 1) := by decide +kernel
theorem dJ7_rangeCheck_23922_59 : decode cJ7_rangeCheck_23922 59 = .ok (.iload_n 2, 1) := by decide +kernel
theorem dJ7_rangeCheck_23922_60 : decode cJ7_rangeCheck_23922 60 = .ok (.iload_n 0, 1) := by decide +kernel
theorem dJ7_rangeCheck_23922_61 : decode cJ7_rangeCheck_23922 61 = .ok (.if_icmp .le 12, 3) := by decide +kernel
theorem dJ7_rangeCheck_23922_64 : decode cJ7_rangeCheck_23922 64 = .ok (.new 68, 3) := by decide +kernel
theorem dJ7_rangeCheck_23922_67 : decode cJ7_rangeCheck_23922 67 = .ok (.dup, 1) := by decide +kernel
theorem dJ7_rangeCheck_23922_68 : decode cJ7_rangeCheck_23922 68 = .ok (.iload_n 2, 1) := by decide +kernel
theorem dJ7_rangeCheck_23922_69 : decode cJ7_rangeCheck_23922 69 = .ok (.invokespecial 70, 3) := by decide +kernel
theorem dJ7_rangeCheck_23922_72 : decode cJ7_rangeCheck_23922 72 = .ok (.athrow, 1) := by decide +kernel
theorem dJ7_rangeCheck_23922_73 : decode cJ7_rangeCheck_23922 73 = .ok (.return_, 1) := by decide +kernel
theorem cc_J7_rangeCheck_23922 : Cond.code yJ7_rangeCheck_23922 cJ7_rangeCheck_23922 3 none ∈ rf_tb := rf_at 853 (by decide +kernel) (by decide +kernel)
noncomputable def bc_J7_rangeCheck_23922_0 (x0 : Int32) (x1 : Int32) (x2 : Int32) (σ : cl_S) : Option (cl_S) := (if x1 ≤ x2 then (if 0 ≤ x1 then (if x2 ≤ x0 then some σ else none) else none) else none)
set_option maxHeartbeats 4000000 in
theorem wc_J7_rangeCheck_23922_0 (C : cl_C D p s m args meth c cJ7_rangeCheck_23922 3 none RJ7) {x0 : Int32} {x1 : Int32} {x2 : Int32} {σ0 σ σ' : cl_S} {T : Nat → Nat × Nat} {H : Heap} {locs : List Loc} {ls : Array Slot} {cells slots : Nat} (h : bc_J7_rangeCheck_23922_0 x0 x1 x2 σ = some σ') (G : cl_G true D c0 ({ frames := 0, cells := σ0.2.2.2.2.2.1, slots := σ0.2.2.2.2.2.2, locals := 0 }) s σ0.2.2.2.1 T σ H locs cells slots) (hl : lv_has ls 3 [(0, .int x0), (1, .int x1), (2, .int x2)]) : W p l e ({ frames := 0, cells := σ0.2.2.2.2.2.1, slots := σ0.2.2.2.2.2.2, locals := 0 }) s m args below meth c H locs cells slots (MQ below (cl_Q true D c0 none cl_no σ0 σ') args s (σ0.2.2.2.2.2.1 - σ'.2.2.2.2.2.1) (σ0.2.2.2.2.2.2 - σ'.2.2.2.2.2.2) (cl_A c0 σ0.2.2.2.1 s.heap.size)) (F0 m 0 ls []) := by
  unfold bc_J7_rangeCheck_23922_0 at h
  refine lv_iload_n C.1 C.2.1 dJ7_rangeCheck_23922_0 rfl (lv_at hl 1 rfl) ?_
  refine lv_iload_n C.1 C.2.1 dJ7_rangeCheck_23922_1 rfl (lv_at hl 2 rfl) ?_
  refine lv_icmp_le (tgt := 46) C.1 C.2.1 dJ7_rangeCheck_23922_2 (by decide) (fun hc => ?_) (fun hc => ?_)
  · rw [if_pos hc] at h
    refine lv_iload_n C.1 C.2.1 dJ7_rangeCheck_23922_46 rfl (lv_at hl 1 rfl) ?_
    refine lv_if_ge (tgt := 59) C.1 C.2.1 dJ7_rangeCheck_23922_47 (by decide) (fun hc => ?_) (fun hc => ?_)
    · rw [if_pos hc] at h
      refine lv_iload_n C.1 C.2.1 dJ7_rangeCheck_23922_59 rfl (lv_at hl 2 rfl) ?_
      refine lv_iload_n C.1 C.2.1 dJ7_rangeCheck_23922_60 rfl (lv_at hl 0 rfl) ?_
      refine lv_icmp_le (tgt := 73) C.1 C.2.1 dJ7_rangeCheck_23922_61 (by decide) (fun hc => ?_) (fun hc => ?_)
      · rw [if_pos hc] at h
        exact cl_vret ⟨rfl, rfl⟩ rfl C G h dJ7_rangeCheck_23922_73
      · rw [if_neg hc] at h
        cases h
    · rw [if_neg hc] at h
      cases h
  · rw [if_neg hc] at h
    cases h
noncomputable def fc_J7_rangeCheck_23922 (x0 : Int32) (x1 : Int32) (x2 : Int32) (σ : cl_S) : Option (cl_S) := bc_J7_rangeCheck_23922_0 x0 x1 x2 σ
theorem kc_J7_rangeCheck_23922 (l : Launch) (D : cl_D) (c0 : Nat) {x0 : Int32} {x1 : Int32} {x2 : Int32} {σ σ' : cl_S} (h : fc_J7_rangeCheck_23922 x0 x1 x2 σ = some σ') : cl_Met true l D c0 yJ7_rangeCheck_23922 cJ7_rangeCheck_23922 3 none 0 0 [.int x0, .int x1, .int x2] σ none cl_no σ' :=
  cl_of (by decide) (Nat.le_of_ble_eq_true rfl) (fun p e s m args below meth c ls C hn G hl => wc_J7_rangeCheck_23922_0 C h G  hl)
abbrev cJ7_fill_fda19 : ByteArray := prog_21_method_104_code
def yJ7_fill_fda19 : MethodName := ⟨RJ7, "fill", "([IIII)V"⟩
theorem dJ7_fill_fda19_0 : decode cJ7_fill_fda19 0 = .ok (.aload_n 0, 1) := by decide +kernel
theorem dJ7_fill_fda19_1 : decode cJ7_fill_fda19 1 = .ok (.arraylength, 1) := by decide +kernel
theorem dJ7_fill_fda19_2 : decode cJ7_fill_fda19 2 = .ok (.iload_n 1, 1) := by decide +kernel
theorem dJ7_fill_fda19_3 : decode cJ7_fill_fda19 3 = .ok (.iload_n 2, 1) := by decide +kernel
theorem dJ7_fill_fda19_4 : decode cJ7_fill_fda19 4 = .ok (.invokestatic 13, 3) := by decide +kernel
theorem dJ7_fill_fda19_7 : decode cJ7_fill_fda19 7 = .ok (.iload_n 1, 1) := by decide +kernel
theorem dJ7_fill_fda19_8 : decode cJ7_fill_fda19 8 = .ok (.istore 4, 2) := by decide +kernel
theorem dJ7_fill_fda19_10 : decode cJ7_fill_fda19 10 = .ok (.iload 4, 2) := by decide +kernel
theorem dJ7_fill_fda19_12 : decode cJ7_fill_fda19 12 = .ok (.iload_n 2, 1) := by decide +kernel
theorem dJ7_fill_fda19_13 : decode cJ7_fill_fda19 13 = .ok (.if_icmp .ge 14, 3) := by decide +kernel
theorem dJ7_fill_fda19_16 : decode cJ7_fill_fda19 16 = .ok (.aload_n 0, 1) := by decide +kernel
theorem dJ7_fill_fda19_17 : decode cJ7_fill_fda19 17 = .ok (.iload 4, 2) := by decide +kernel
theorem dJ7_fill_fda19_19 : decode cJ7_fill_fda19 19 = .ok (.iload_n 3, 1) := by decide +kernel
theorem dJ7_fill_fda19_20 : decode cJ7_fill_fda19 20 = .ok (.iastore, 1) := by decide +kernel
theorem dJ7_fill_fda19_21 : decode cJ7_fill_fda19 21 = .ok (.iinc 4 1, 3) := by decide +kernel
theorem dJ7_fill_fda19_24 : decode cJ7_fill_fda19 24 = .ok (.goto (-14), 3) := by decide +kernel
theorem dJ7_fill_fda19_27 : decode cJ7_fill_fda19 27 = .ok (.return_, 1) := by decide +kernel
theorem cc_J7_fill_fda19 : Cond.code yJ7_fill_fda19 cJ7_fill_fda19 5 none ∈ rf_tb := rf_at 850 (by decide +kernel) (by decide +kernel)
theorem cw_RJ7_13 : cl_wS RJ7 yJ7_rangeCheck_23922 cJ7_rangeCheck_23922 3 none 13 3 := ⟨⟨rf_at 851 (by decide +kernel) (by decide +kernel), rf_at 852 (by decide +kernel) (by decide +kernel), cc_J7_rangeCheck_23922, rf_at 18 (by decide +kernel) (by decide +kernel)⟩, ⟨by decide, by decide, by decide +kernel⟩⟩
noncomputable def lc_J7_fill_fda19_10 (x0 : (Option Nat)) (x2 : Int32) (x3 : Int32) (x4 : Int32) (σ : cl_S) : Option ((Int32 × cl_S) ⊕ (Int32 × cl_S)) := (if x2 ≤ x4 then some (.inr (x4, σ)) else nn x0 (fun a_11 => ix x4 (σ.2.2.2.1 a_11).2 (vl (cl_w σ a_11 x4.toNatClampNeg x3) (fun σ_15 => vl (x4 + (1:Int32)) (fun x4_20 => some (.inl (x4_20, σ_15)))))))
noncomputable def ec_J7_fill_fda19_10 (x0 : (Option Nat)) (x2 : Int32) (x3 : Int32) (x4 : Int32) (σ : cl_S) : Option (cl_S) := some σ
noncomputable def bc_J7_fill_fda19_10 (x0 : (Option Nat)) (x2 : Int32) (x3 : Int32) (x4 : Int32) (σ : cl_S) : Option (cl_S) := (lp (fun z : (Int32 × cl_S) => lc_J7_fill_fda19_10 x0 x2 x3 z.1 z.2) (x4, σ)).bind (fun z => ec_J7_fill_fda19_10 x0 x2 x3 z.1 z.2)
set_option maxHeartbeats 4000000 in
theorem wc_J7_fill_fda19_10 (C : cl_C D p s m args meth c cJ7_fill_fda19 5 none RJ7) {x0 : (Option Nat)} {x2 : Int32} {x3 : Int32} {x4 : Int32} {σ0 σ σ' : cl_S} {T : Nat → Nat × Nat} {H : Heap} {locs : List Loc} {ls : Array Slot} {cells slots : Nat} (h : bc_J7_fill_fda19_10 x0 x2 x3 x4 σ = some σ') (G : cl_G true D c0 ({ frames := 1, cells := σ0.2.2.2.2.2.1, slots := σ0.2.2.2.2.2.2, locals := 22 }) s σ0.2.2.2.1 T σ H locs cells slots) (f0 : cl_RT T x0 1) (hl : lv_has ls 5 [(0, cl_rf c0 x0), (2, .int x2), (3, .int x3), (4, .int x4)]) : W p l e ({ frames := 1, cells := σ0.2.2.2.2.2.1, slots := σ0.2.2.2.2.2.2, locals := 22 }) s m args below meth c H locs cells slots (MQ below (cl_Q true D c0 none cl_no σ0 σ') args s (σ0.2.2.2.2.2.1 - σ'.2.2.2.2.2.1) (σ0.2.2.2.2.2.2 - σ'.2.2.2.2.2.2) (cl_A c0 σ0.2.2.2.1 s.heap.size)) (F0 m 10 ls []) := by
  unfold bc_J7_fill_fda19_10 at h
  obtain ⟨y, hy, h⟩ := bd_some h
  have hE : (fun z : (Int32 × cl_S) => ∀ (T : Nat → Nat × Nat) (H : Heap) (locs : List Loc) (ls : Array Slot) (cells slots : Nat), cl_G true D c0 ({ frames := 1, cells := σ0.2.2.2.2.2.1, slots := σ0.2.2.2.2.2.2, locals := 22 }) s σ0.2.2.2.1 T z.2 H locs cells slots → cl_RT T x0 1 → lv_has ls 5 [(0, cl_rf c0 x0), (2, .int x2), (3, .int x3), (4, .int (z.1))] → W p l e ({ frames := 1, cells := σ0.2.2.2.2.2.1, slots := σ0.2.2.2.2.2.2, locals := 22 }) s m args below meth c H locs cells slots (MQ below (cl_Q true D c0 none cl_no σ0 σ') args s (σ0.2.2.2.2.2.1 - σ'.2.2.2.2.2.1) (σ0.2.2.2.2.2.2 - σ'.2.2.2.2.2.2) (cl_A c0 σ0.2.2.2.1 s.heap.size)) (F0 m 27 ls [])) y := by
    clear hy G f0 hl
    intro T H locs ls cells slots G f0 hl
    obtain ⟨x4, σ⟩ := y
    dsimp only at h G f0 hl
    unfold ec_J7_fill_fda19_10 at h
    exact cl_vret ⟨rfl, rfl⟩ rfl C G h dJ7_fill_fda19_27
  refine lp_recE (fun z : (Int32 × cl_S) => ∀ (T : Nat → Nat × Nat) (H : Heap) (locs : List Loc) (ls : Array Slot) (cells slots : Nat), cl_G true D c0 ({ frames := 1, cells := σ0.2.2.2.2.2.1, slots := σ0.2.2.2.2.2.2, locals := 22 }) s σ0.2.2.2.1 T z.2 H locs cells slots → cl_RT T x0 1 → lv_has ls 5 [(0, cl_rf c0 x0), (2, .int x2), (3, .int x3), (4, .int (z.1))] → W p l e ({ frames := 1, cells := σ0.2.2.2.2.2.1, slots := σ0.2.2.2.2.2.2, locals := 22 }) s m args below meth c H locs cells slots (MQ below (cl_Q true D c0 none cl_no σ0 σ') args s (σ0.2.2.2.2.2.1 - σ'.2.2.2.2.2.1) (σ0.2.2.2.2.2.2 - σ'.2.2.2.2.2.2) (cl_A c0 σ0.2.2.2.1 s.heap.size)) (F0 m 10 ls [])) (fun z : (Int32 × cl_S) => ∀ (T : Nat → Nat × Nat) (H : Heap) (locs : List Loc) (ls : Array Slot) (cells slots : Nat), cl_G true D c0 ({ frames := 1, cells := σ0.2.2.2.2.2.1, slots := σ0.2.2.2.2.2.2, locals := 22 }) s σ0.2.2.2.1 T z.2 H locs cells slots → cl_RT T x0 1 → lv_has ls 5 [(0, cl_rf c0 x0), (2, .int x2), (3, .int x3), (4, .int (z.1))] → W p l e ({ frames := 1, cells := σ0.2.2.2.2.2.1, slots := σ0.2.2.2.2.2.2, locals := 22 }) s m args below meth c H locs cells slots (MQ below (cl_Q true D c0 none cl_no σ0 σ') args s (σ0.2.2.2.2.2.1 - σ'.2.2.2.2.2.1) (σ0.2.2.2.2.2.2 - σ'.2.2.2.2.2.2) (cl_A c0 σ0.2.2.2.1 s.heap.size)) (F0 m 27 ls [])) ?_ _ _ hy hE _ _ _ _ _ _ G f0 hl
  clear hE hy G f0 hl h
  intro z o h hP T H locs ls cells slots G f0 hl
  obtain ⟨x4, σ⟩ := z
  dsimp only at h G f0 hl
  unfold lc_J7_fill_fda19_10 at h
  refine lv_iload C.1 C.2.1 dJ7_fill_fda19_10 (lv_at hl 3 rfl) ?_
  refine lv_iload_n C.1 C.2.1 dJ7_fill_fda19_12 rfl (lv_at hl 1 rfl) ?_
  refine lv_icmp_ge (tgt := 27) C.1 C.2.1 dJ7_fill_fda19_13 (by decide) (fun hc => ?_) (fun hc => ?_)
  · rw [if_pos hc] at h
    cases h
    exact hP _ _ _ _ _ _ G f0 (lv_sub hl [0, 1, 2, 3] rfl)
  · rw [if_neg hc] at h
    refine cl_aload_n C.1 C.2.1 dJ7_fill_fda19_16 rfl (lv_at hl 0 rfl) ?_
    refine lv_iload C.1 C.2.1 dJ7_fill_fda19_17 (lv_at hl 3 rfl) ?_
    refine lv_iload_n C.1 C.2.1 dJ7_fill_fda19_19 rfl (lv_at hl 2 rfl) ?_
    obtain ⟨a_11, rfl, h_13⟩ := nn_some h
    have t_12 := f0 _ rfl
    have t_14 : T a_11 = (1, (σ.2.2.2.1 a_11).2) := by rw [G.1]; exact Prod.ext t_12 rfl
    obtain ⟨hi, h_16⟩ := ix_some h_13
    refine cl_iast C G t_14 hi dJ7_fill_fda19_20 (fun H locs G_17 => ?_)
    refine cl_nm G_17 h_16 (fun σ_15 G_18 h_19 => ?_)
    refine vl_ex h_19 (fun x4_20 ey h_21 => ?_)
    refine lv_iinc (v := x4_20) (lv' := [(4, .int x4_20), (0, .ref (c0 + a_11)), (2, .int x2), (3, .int x3)]) C.1 C.2.1 dJ7_fill_fda19_21 hl (k := 3) rfl (by rw [ey]; rfl) (by decide) rfl (fun ls hl_22 => ?_)
    refine lv_goto (tgt := 10) C.1 C.2.1 dJ7_fill_fda19_24 (by decide) ?_
    cases h_21
    exact hP _ _ _ _ _ _ G_18 (cl_RTs (by rw [t_12])) (lv_sub hl_22 [1, 2, 3, 0] rfl)
noncomputable def bc_J7_fill_fda19_0 (x0 : (Option Nat)) (x1 : Int32) (x2 : Int32) (x3 : Int32) (σ : cl_S) : Option (cl_S) := nn x0 (fun a_1 => bd1 (fc_J7_rangeCheck_23922 (nI ((σ.2.2.2.1 a_1).2)) x1 x2 σ) (fun σ_5 => bc_J7_fill_fda19_10 (some a_1) x2 x3 x1 σ_5))
set_option maxHeartbeats 4000000 in
theorem wc_J7_fill_fda19_0 (C : cl_C D p s m args meth c cJ7_fill_fda19 5 none RJ7) {x0 : (Option Nat)} {x1 : Int32} {x2 : Int32} {x3 : Int32} {σ0 σ σ' : cl_S} {T : Nat → Nat × Nat} {H : Heap} {locs : List Loc} {ls : Array Slot} {cells slots : Nat} (h : bc_J7_fill_fda19_0 x0 x1 x2 x3 σ = some σ') (G : cl_G true D c0 ({ frames := 1, cells := σ0.2.2.2.2.2.1, slots := σ0.2.2.2.2.2.2, locals := 22 }) s σ0.2.2.2.1 T σ H locs cells slots) (f0 : cl_RT T x0 1) (hl : lv_has ls 5 [(0, cl_rf c0 x0), (1, .int x1), (2, .int x2), (3, .int x3)]) : W p l e ({ frames := 1, cells := σ0.2.2.2.2.2.1, slots := σ0.2.2.2.2.2.2, locals := 22 }) s m args below meth c H locs cells slots (MQ below (cl_Q true D c0 none cl_no σ0 σ') args s (σ0.2.2.2.2.2.1 - σ'.2.2.2.2.2.1) (σ0.2.2.2.2.2.2 - σ'.2.2.2.2.2.2) (cl_A c0 σ0.2.2.2.1 s.heap.size)) (F0 m 0 ls []) := by
  unfold bc_J7_fill_fda19_0 at h
  refine cl_aload_n C.1 C.2.1 dJ7_fill_fda19_0 rfl (lv_at hl 0 rfl) ?_
  obtain ⟨a_1, rfl, h_3⟩ := nn_some h
  have t_2 := f0 _ rfl
  have t_4 : T a_1 = (1, (σ.2.2.2.1 a_1).2) := by rw [G.1]; exact Prod.ext t_2 rfl
  refine cl_alen C G t_4 dJ7_fill_fda19_1 ?_
  refine lv_iload_n C.1 C.2.1 dJ7_fill_fda19_2 rfl (lv_at hl 1 rfl) ?_
  refine lv_iload_n C.1 C.2.1 dJ7_fill_fda19_3 rfl (lv_at hl 2 rfl) ?_
  obtain ⟨σ_5, hq, h_6⟩ := bd1_some h_3
  refine cl_callS (rest := []) C G cw_RJ7_13 [.int (nI ((σ.2.2.2.1 a_1).2)), .int x1, .int x2] _ (kc_J7_rangeCheck_23922 l D c0 hq) (Nat.le_of_ble_eq_true rfl) (Nat.le_of_ble_eq_true rfl) rfl rfl hl.1 (Nat.le_of_ble_eq_true rfl) dJ7_fill_fda19_4 (fun T_7 H locs cells slots t_8 hu G_9 => ?_)
  have t_2 := hu.kind t_2 (by decide)
  refine W.eq (g2 := F0 m 7 ls []) rfl ?_
  refine lv_iload_n C.1 C.2.1 dJ7_fill_fda19_7 rfl (lv_at hl 1 rfl) ?_
  refine lv_istore (lv' := [(4, .int x1), (0, .ref (c0 + a_1)), (1, .int x1), (2, .int x2), (3, .int x3)]) C.1 C.2.1 dJ7_fill_fda19_8 hl (by decide) rfl (fun ls hl_10 => ?_)
  exact wc_J7_fill_fda19_10 C h_6 G_9 (cl_RTs (by rw [t_2])) (lv_sub hl_10 [1, 3, 4, 0] rfl)
noncomputable def fc_J7_fill_fda19 (x0 : (Option Nat)) (x1 : Int32) (x2 : Int32) (x3 : Int32) (σ : cl_S) : Option (cl_S) := bc_J7_fill_fda19_0 x0 x1 x2 x3 σ
theorem kc_J7_fill_fda19 (l : Launch) (D : cl_D) (c0 : Nat) {x0 : (Option Nat)} {x1 : Int32} {x2 : Int32} {x3 : Int32} {σ σ' : cl_S} (h : fc_J7_fill_fda19 x0 x1 x2 x3 σ = some σ') (f0 : cl_RT σ.2.2.2.1 x0 1) : cl_Met true l D c0 yJ7_fill_fda19 cJ7_fill_fda19 5 none 1 22 [cl_rf c0 x0, .int x1, .int x2, .int x3] σ none cl_no σ' :=
  by cases x0 <;> exact cl_of (by decide) (Nat.le_of_ble_eq_true rfl) (fun p e s m args below meth c ls C hn G hl => wc_J7_fill_fda19_0 C h G f0 hl)
abbrev cX0_makeRoom : ByteArray := prog_2_method_13_code
def yX0_makeRoom : MethodName := ⟨RX0, "makeRoom", "(II)V"⟩
theorem dX0_makeRoom_0 : decode cX0_makeRoom 0 = .ok (.aload_n 0, 1) := by decide +kernel
theorem dX0_makeRoom_1 : decode cX0_makeRoom 1 = .ok (.getfield 67, 3) := by decide +kernel
theorem dX0_makeRoom_4 : decode cX0_makeRoom 4 = .ok (.ifCond .eq 4, 3) := by decide +kernel
theorem dX0_makeRoom_7 : decode cX0_makeRoom 7 = .ok (.return_, 1) := by decide +kernel
theorem dX0_makeRoom_8 : decode cX0_makeRoom 8 = .ok (.iload_n 1, 1) := by decide +kernel
theorem dX0_makeRoom_9 : decode cX0_makeRoom 9 = .ok (.ifCond .lt 15, 3) := by decide +kernel
theorem dX0_makeRoom_12 : decode cX0_makeRoom 12 = .ok (.aload_n 0, 1) := by decide +kernel
theorem dX0_makeRoom_13 : decode cX0_makeRoom 13 = .ok (.getfield 58, 3) := by decide +kernel
theorem dX0_makeRoom_16 : decode cX0_makeRoom 16 = .ok (.iload_n 1, 1) := by decide +kernel
theorem dX0_makeRoom_17 : decode cX0_makeRoom 17 = .ok (.iadd, 1) := by decide +kernel
theorem dX0_makeRoom_18 : decode cX0_makeRoom 18 = .ok (.sipush 2048, 3) := by decide +kernel
theorem dX0_makeRoom_21 : decode cX0_makeRoom 21 = .ok (.if_icmp .le 11, 3) := by decide +kernel
theorem dX0_makeRoom_24 : decode cX0_makeRoom 24 = .ok (.aload_n 0, 1) := by decide +kernel
theorem dX0_makeRoom_25 : decode cX0_makeRoom 25 = .ok (.bipush 6, 2) := by decide +kernel
theorem dX0_makeRoom_27 : decode cX0_makeRoom 27 = .ok (.iload_n 2, 1) := by decide +kernel
theorem dX0_makeRoom_28 : decode cX0_makeRoom 28 = .ok (.invokevirtual 99, 3) := by decide +kernel
theorem dX0_makeRoom_31 : decode cX0_makeRoom 31 = .ok (.return_, 1) := by decide +kernel
theorem dX0_makeRoom_32 : decode cX0_makeRoom 32 = .ok (.aload_n 0, 1) := by decide +kernel
theorem dX0_makeRoom_33 : decode cX0_makeRoom 33 = .ok (.getfield 15, 3) := by decide +kernel
theorem dX0_makeRoom_36 : decode cX0_makeRoom 36 = .ok (.aload_n 0, 1) := by decide +kernel
theorem dX0_makeRoom_37 : decode cX0_makeRoom 37 = .ok (.getfield 58, 3) := by decide +kernel
theorem dX0_makeRoom_40 : decode cX0_makeRoom 40 = .ok (.aload_n 0, 1) := by decide +kernel
theorem dX0_makeRoom_41 : decode cX0_makeRoom 41 = .ok (.getfield 58, 3) := by decide +kernel
theorem dX0_makeRoom_44 : decode cX0_makeRoom 44 = .ok (.iload_n 1, 1) := by decide +kernel
theorem dX0_makeRoom_45 : decode cX0_makeRoom 45 = .ok (.iadd, 1) := by decide +kernel
theorem dX0_makeRoom_46 : decode cX0_makeRoom 46 = .ok (.iconst 0, 1) := by decide +kernel
theorem dX0_makeRoom_47 : decode cX0_makeRoom 47 = .ok (.invokestatic 137, 3) := by decide +kernel
theorem dX0_makeRoom_50 : decode cX0_makeRoom 50 = .ok (.aload_n 0, 1) := by decide +kernel
theorem dX0_makeRoom_51 : decode cX0_makeRoom 51 = .ok (.dup, 1) := by decide +kernel
theorem dX0_makeRoom_52 : decode cX0_makeRoom 52 = .ok (.getfield 58, 3) := by decide +kernel
theorem dX0_makeRoom_55 : decode cX0_makeRoom 55 = .ok (.iload_n 1, 1) := by decide +kernel
theorem dX0_makeRoom_56 : decode cX0_makeRoom 56 = .ok (.iadd, 1) := by decide +kernel
theorem dX0_makeRoom_57 : decode cX0_makeRoom 57 = .ok (.putfield 58, 3) := by decide +kernel
theorem dX0_makeRoom_60 : decode cX0_makeRoom 60 = .ok (.return_, 1) := by decide +kernel
theorem cc_X0_makeRoom : Cond.code yX0_makeRoom cX0_makeRoom 3 none ∈ rf_tb := rf_at 847 (by decide +kernel) (by decide +kernel)
theorem cw_RX0_137 : cl_wS RX0 yJ7_fill_fda19 cJ7_fill_fda19 5 none 137 4 := ⟨⟨rf_at 848 (by decide +kernel) (by decide +kernel), rf_at 849 (by decide +kernel) (by decide +kernel), cc_J7_fill_fda19, rf_at 18 (by decide +kernel) (by decide +kernel)⟩, ⟨by decide, by decide, by decide +kernel⟩⟩
noncomputable def bc_X0_makeRoom_24 (a : Nat) (x2 : Int32) (σ : cl_S) : Option (cl_S) := bd1 (fc_X0_fail a (6:Int32) x2 σ) (fun σ_1 => some σ_1)
set_option maxHeartbeats 4000000 in
theorem wc_X0_makeRoom_24 (C : cl_C D p s m args meth c cX0_makeRoom 3 none RX0) {a : Nat} {x2 : Int32} {σ0 σ σ' : cl_S} {T : Nat → Nat × Nat} {H : Heap} {locs : List Loc} {ls : Array Slot} {cells slots : Nat} (h : bc_X0_makeRoom_24 a x2 σ = some σ') (G : cl_G true D c0 ({ frames := 2, cells := σ0.2.2.2.2.2.1, slots := σ0.2.2.2.2.2.2, locals := 46 }) s σ0.2.2.2.1 T σ H locs cells slots) (ha : (T a).1 = 16) (hl : lv_has ls 3 [(0, .ref (c0 + a)), (2, .int x2)]) : W p l e ({ frames := 2, cells := σ0.2.2.2.2.2.1, slots := σ0.2.2.2.2.2.2, locals := 46 }) s m args below meth c H locs cells slots (MQ below (cl_Q true D c0 none cl_no σ0 σ') args s (σ0.2.2.2.2.2.1 - σ'.2.2.2.2.2.1) (σ0.2.2.2.2.2.2 - σ'.2.2.2.2.2.2) (cl_A c0 σ0.2.2.2.1 s.heap.size)) (F0 m 24 ls []) := by
  unfold bc_X0_makeRoom_24 at h
  refine lv_aload_n C.1 C.2.1 dX0_makeRoom_24 rfl (lv_at hl 0 rfl) ?_
  refine lv_bipush (v := (6:Int32)) C.1 C.2.1 dX0_makeRoom_25 (by decide) ?_
  refine lv_iload_n C.1 C.2.1 dX0_makeRoom_27 rfl (lv_at hl 1 rfl) ?_
  obtain ⟨σ_1, hq, h_2⟩ := bd1_some h
  refine cl_callV (ci := 0) (rest := []) C G rfl ha cw_RX0_99 [.int (6:Int32), .int x2] _ (kc_X0_fail l D c0 (by rw [G.1]; exact ha) hq) (Nat.le_of_ble_eq_true rfl) (Nat.le_of_ble_eq_true rfl) rfl rfl hl.1 (Nat.le_of_ble_eq_true rfl) dX0_makeRoom_28 (fun T_3 H locs cells slots t_4 hu G_5 => ?_)
  have ha := hu.kind ha (by decide)
  refine W.eq (g2 := F0 m 31 ls []) rfl ?_
  exact cl_vret ⟨rfl, rfl⟩ rfl C G_5 h_2 dX0_makeRoom_31
noncomputable def bc_X0_makeRoom_0 (a : Nat) (x1 : Int32) (x2 : Int32) (σ : cl_S) : Option (cl_S) := (if (σ.1 a 12) = 0 then (if x1 < 0 then bc_X0_makeRoom_24 a x2 σ else (if ((σ.1 a 4) + x1) ≤ (2048:Int32) then bd1 (fc_J7_fill_fda19 (some (a + 2)) (σ.1 a 4) ((σ.1 a 4) + x1) (0:Int32) σ) (fun σ_7 => vl (cl_w σ_7 a 4 ((σ_7.1 a 4) + x1)) (fun σ_12 => some σ_12)) else bc_X0_makeRoom_24 a x2 σ)) else some σ)
set_option maxHeartbeats 4000000 in
theorem wc_X0_makeRoom_0 (C : cl_C D p s m args meth c cX0_makeRoom 3 none RX0) {a : Nat} {x1 : Int32} {x2 : Int32} {σ0 σ σ' : cl_S} {T : Nat → Nat × Nat} {H : Heap} {locs : List Loc} {ls : Array Slot} {cells slots : Nat} (h : bc_X0_makeRoom_0 a x1 x2 σ = some σ') (G : cl_G true D c0 ({ frames := 2, cells := σ0.2.2.2.2.2.1, slots := σ0.2.2.2.2.2.2, locals := 46 }) s σ0.2.2.2.1 T σ H locs cells slots) (ha : (T a).1 = 16) (hl : lv_has ls 3 [(0, .ref (c0 + a)), (1, .int x1), (2, .int x2)]) : W p l e ({ frames := 2, cells := σ0.2.2.2.2.2.1, slots := σ0.2.2.2.2.2.2, locals := 46 }) s m args below meth c H locs cells slots (MQ below (cl_Q true D c0 none cl_no σ0 σ') args s (σ0.2.2.2.2.2.1 - σ'.2.2.2.2.2.1) (σ0.2.2.2.2.2.2 - σ'.2.2.2.2.2.2) (cl_A c0 σ0.2.2.2.1 s.heap.size)) (F0 m 0 ls []) := by
  unfold bc_X0_makeRoom_0 at h
  refine lv_aload_n C.1 C.2.1 dX0_makeRoom_0 rfl (lv_at hl 0 rfl) ?_
  refine cg_0_67 C G ha dX0_makeRoom_1 ?_
  refine lv_if_eq (tgt := 8) C.1 C.2.1 dX0_makeRoom_4 (by decide) (fun hc => ?_) (fun hc => ?_)
  · rw [if_pos hc] at h
    refine lv_iload_n C.1 C.2.1 dX0_makeRoom_8 rfl (lv_at hl 1 rfl) ?_
    refine lv_if_lt (tgt := 24) C.1 C.2.1 dX0_makeRoom_9 (by decide) (fun hc => ?_) (fun hc => ?_)
    · rw [if_pos hc] at h
      exact wc_X0_makeRoom_24 C h G ha (lv_sub hl [0, 2] rfl)
    · rw [if_neg hc] at h
      refine lv_aload_n C.1 C.2.1 dX0_makeRoom_12 rfl (lv_at hl 0 rfl) ?_
      refine cg_0_58 C G ha dX0_makeRoom_13 ?_
      refine lv_iload_n C.1 C.2.1 dX0_makeRoom_16 rfl (lv_at hl 1 rfl) ?_
      refine lv_iadd C.1 C.2.1 dX0_makeRoom_17 ?_
      refine lv_sipush (v := (2048:Int32)) C.1 C.2.1 dX0_makeRoom_18 (by decide) ?_
      refine lv_icmp_le (tgt := 32) C.1 C.2.1 dX0_makeRoom_21 (by decide) (fun hc => ?_) (fun hc => ?_)
      · rw [if_pos hc] at h
        refine lv_aload_n C.1 C.2.1 dX0_makeRoom_32 rfl (lv_at hl 0 rfl) ?_
        refine cg_0_15 C G ha dX0_makeRoom_33 (fun t_6 => ?_)
        refine lv_aload_n C.1 C.2.1 dX0_makeRoom_36 rfl (lv_at hl 0 rfl) ?_
        refine cg_0_58 C G ha dX0_makeRoom_37 ?_
        refine lv_aload_n C.1 C.2.1 dX0_makeRoom_40 rfl (lv_at hl 0 rfl) ?_
        refine cg_0_58 C G ha dX0_makeRoom_41 ?_
        refine lv_iload_n C.1 C.2.1 dX0_makeRoom_44 rfl (lv_at hl 1 rfl) ?_
        refine lv_iadd C.1 C.2.1 dX0_makeRoom_45 ?_
        refine lv_iconst (v := (0:Int32)) C.1 C.2.1 dX0_makeRoom_46 (by decide) ?_
        obtain ⟨σ_7, hq, h_8⟩ := bd1_some h
        refine cl_callS (rest := []) C G cw_RX0_137 [.ref (c0 + (a + 2)), .int (σ.1 a 4), .int ((σ.1 a 4) + x1), .int (0:Int32)] _ (kc_J7_fill_fda19 l D c0 hq (by rw [G.1]; exact (cl_RTs (by rw [t_6])))) (Nat.le_of_ble_eq_true rfl) (Nat.le_of_ble_eq_true rfl) rfl rfl hl.1 (Nat.le_of_ble_eq_true rfl) dX0_makeRoom_47 (fun T_9 H locs cells slots t_10 hu G_11 => ?_)
        have ha := hu.kind ha (by decide)
        refine W.eq (g2 := F0 m 50 ls []) rfl ?_
        refine lv_aload_n C.1 C.2.1 dX0_makeRoom_50 rfl (lv_at hl 0 rfl) ?_
        refine lv_dup C.1 C.2.1 dX0_makeRoom_51 rfl ?_
        refine cg_0_58 C G_11 ha dX0_makeRoom_52 ?_
        refine lv_iload_n C.1 C.2.1 dX0_makeRoom_55 rfl (lv_at hl 1 rfl) ?_
        refine lv_iadd C.1 C.2.1 dX0_makeRoom_56 ?_
        refine cp_0_58 C G_11 ha dX0_makeRoom_57 (fun H locs G_13 => ?_)
        refine cl_nm G_13 h_8 (fun σ_12 G_14 h_15 => ?_)
        exact cl_vret ⟨rfl, rfl⟩ rfl C G_14 h_15 dX0_makeRoom_60
      · rw [if_neg hc] at h
        exact wc_X0_makeRoom_24 C h G ha (lv_sub hl [0, 2] rfl)
  · rw [if_neg hc] at h
    exact cl_vret ⟨rfl, rfl⟩ rfl C G h dX0_makeRoom_7
noncomputable def fc_X0_makeRoom (a : Nat) (x1 : Int32) (x2 : Int32) (σ : cl_S) : Option (cl_S) := bc_X0_makeRoom_0 a x1 x2 σ
theorem kc_X0_makeRoom (l : Launch) (D : cl_D) (c0 : Nat) {a : Nat} {x1 : Int32} {x2 : Int32} {σ σ' : cl_S} (ha : (σ.2.2.2.1 a).1 = 16) (h : fc_X0_makeRoom a x1 x2 σ = some σ') : cl_Met true l D c0 yX0_makeRoom cX0_makeRoom 3 none 2 46 [.ref (c0 + a), .int x1, .int x2] σ none cl_no σ' :=
  cl_of (by decide) (Nat.le_of_ble_eq_true rfl) (fun p e s m args below meth c ls C hn G hl => wc_X0_makeRoom_0 C h G ha hl)
abbrev cX0_hasD : ByteArray := prog_2_method_15_code
def yX0_hasD : MethodName := ⟨RX0, "hasD", "(I)Z"⟩
theorem dX0_hasD_0 : decode cX0_hasD 0 = .ok (.iload_n 0, 1) := by decide +kernel
theorem dX0_hasD_1 : decode cX0_hasD 1 = .ok (.iconst 1, 1) := by decide +kernel
theorem dX0_hasD_2 : decode cX0_hasD 2 = .ok (.if_icmp .lt 13, 3) := by decide +kernel
theorem dX0_hasD_5 : decode cX0_hasD 5 = .ok (.iload_n 0, 1) := by decide +kernel
theorem dX0_hasD_6 : decode cX0_hasD 6 = .ok (.bipush 37, 2) := by decide +kernel
theorem dX0_hasD_8 : decode cX0_hasD 8 = .ok (.if_icmp .gt 7, 3) := by decide +kernel
theorem dX0_hasD_11 : decode cX0_hasD 11 = .ok (.iconst 1, 1) := by decide +kernel
theorem dX0_hasD_12 : decode cX0_hasD 12 = .ok (.goto 4, 3) := by decide +kernel
theorem dX0_hasD_15 : decode cX0_hasD 15 = .ok (.iconst 0, 1) := by decide +kernel
theorem dX0_hasD_16 : decode cX0_hasD 16 = .ok (.ireturn, 1) := by decide +kernel
theorem cc_X0_hasD : Cond.code yX0_hasD cX0_hasD 1 (some .boolean) ∈ rf_tb := rf_at 860 (by decide +kernel) (by decide +kernel)
noncomputable def bc_X0_hasD_0 (x0 : Int32) (σ : cl_S) : Option (Int32 × cl_S) := (if x0 < (1:Int32) then some ((0:Int32), σ) else (if (37:Int32) < x0 then some ((0:Int32), σ) else some ((1:Int32), σ)))
set_option maxHeartbeats 4000000 in
theorem wc_X0_hasD_0 (C : cl_C D p s m args meth c cX0_hasD 1 (some .boolean) RX0) {r : Int32} {x0 : Int32} {σ0 σ σ' : cl_S} {T : Nat → Nat × Nat} {H : Heap} {locs : List Loc} {ls : Array Slot} {cells slots : Nat} (h : bc_X0_hasD_0 x0 σ = some (r, σ')) (G : cl_G true D c0 ({ frames := 0, cells := σ0.2.2.2.2.2.1, slots := σ0.2.2.2.2.2.2, locals := 0 }) s σ0.2.2.2.1 T σ H locs cells slots) (hl : lv_has ls 1 [(0, .int x0)]) : W p l e ({ frames := 0, cells := σ0.2.2.2.2.2.1, slots := σ0.2.2.2.2.2.2, locals := 0 }) s m args below meth c H locs cells slots (MQ below (cl_Q true D c0 (some (.int r)) cl_no σ0 σ') args s (σ0.2.2.2.2.2.1 - σ'.2.2.2.2.2.1) (σ0.2.2.2.2.2.2 - σ'.2.2.2.2.2.2) (cl_A c0 σ0.2.2.2.1 s.heap.size)) (F0 m 0 ls []) := by
  unfold bc_X0_hasD_0 at h
  refine lv_iload_n C.1 C.2.1 dX0_hasD_0 rfl (lv_at hl 0 rfl) ?_
  refine lv_iconst (v := (1:Int32)) C.1 C.2.1 dX0_hasD_1 (by decide) ?_
  refine lv_icmp_lt (tgt := 15) C.1 C.2.1 dX0_hasD_2 (by decide) (fun hc => ?_) (fun hc => ?_)
  · rw [if_pos hc] at h
    refine lv_iconst (v := (0:Int32)) C.1 C.2.1 dX0_hasD_15 (by decide) ?_
    exact cl_zret ⟨rfl, rfl⟩ rfl C G h rfl dX0_hasD_16
  · rw [if_neg hc] at h
    refine lv_iload_n C.1 C.2.1 dX0_hasD_5 rfl (lv_at hl 0 rfl) ?_
    refine lv_bipush (v := (37:Int32)) C.1 C.2.1 dX0_hasD_6 (by decide) ?_
    refine lv_icmp_gt (tgt := 15) C.1 C.2.1 dX0_hasD_8 (by decide) (fun hc => ?_) (fun hc => ?_)
    · rw [if_pos hc] at h
      refine lv_iconst (v := (0:Int32)) C.1 C.2.1 dX0_hasD_15 (by decide) ?_
      exact cl_zret ⟨rfl, rfl⟩ rfl C G h rfl dX0_hasD_16
    · rw [if_neg hc] at h
      refine lv_iconst (v := (1:Int32)) C.1 C.2.1 dX0_hasD_11 (by decide) ?_
      refine lv_goto (tgt := 16) C.1 C.2.1 dX0_hasD_12 (by decide) ?_
      exact cl_zret ⟨rfl, rfl⟩ rfl C G h rfl dX0_hasD_16
noncomputable def fc_X0_hasD (x0 : Int32) (σ : cl_S) : Option (Int32 × cl_S) := bc_X0_hasD_0 x0 σ
theorem kc_X0_hasD (l : Launch) (D : cl_D) (c0 : Nat) {r : Int32} {x0 : Int32} {σ σ' : cl_S} (h : fc_X0_hasD x0 σ = some (r, σ')) : cl_Met true l D c0 yX0_hasD cX0_hasD 1 (some .boolean) 0 0 [.int x0] σ (some (.int r)) cl_no σ' :=
  cl_of (by decide) (Nat.le_of_ble_eq_true rfl) (fun p e s m args below meth c ls C hn G hl => wc_X0_hasD_0 C h G  hl)
end CQ1
