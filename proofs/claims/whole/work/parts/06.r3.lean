section RQ2
variable {p : Program} {l : Launch} {e : Env} {s : State} {m : MethodId} {args : Array Value} {below : List Frame} {meth : Method} {c : Code} {D : rf_D} {h0 : Nat}
abbrev cX12_readName : ByteArray := prog_14_method_24_code
def yX12_readName : MethodName := ⟨RX12, "readName", "()V"⟩
theorem dX12_readName_0 : decode cX12_readName 0 = .ok (.aload_n 0, 1) := by decide +kernel
theorem dX12_readName_1 : decode cX12_readName 1 = .ok (.iconst 1, 1) := by decide +kernel
theorem dX12_readName_2 : decode cX12_readName 2 = .ok (.putfield 357, 3) := by decide +kernel
theorem dX12_readName_5 : decode cX12_readName 5 = .ok (.aload_n 0, 1) := by decide +kernel
theorem dX12_readName_6 : decode cX12_readName 6 = .ok (.lconst 0, 1) := by decide +kernel
theorem dX12_readName_7 : decode cX12_readName 7 = .ok (.putfield 369, 3) := by decide +kernel
theorem dX12_readName_10 : decode cX12_readName 10 = .ok (.iconst 0, 1) := by decide +kernel
theorem dX12_readName_11 : decode cX12_readName 11 = .ok (.istore_n 1, 1) := by decide +kernel
theorem dX12_readName_12 : decode cX12_readName 12 = .ok (.aload_n 0, 1) := by decide +kernel
theorem dX12_readName_13 : decode cX12_readName 13 = .ok (.aload_n 0, 1) := by decide +kernel
theorem dX12_readName_14 : decode cX12_readName 14 = .ok (.getfield 345, 3) := by decide +kernel
theorem dX12_readName_17 : decode cX12_readName 17 = .ok (.invokevirtual 348, 3) := by decide +kernel
theorem dX12_readName_20 : decode cX12_readName 20 = .ok (.invokestatic 360, 3) := by decide +kernel
theorem dX12_readName_23 : decode cX12_readName 23 = .ok (.ifCond .ne 17, 3) := by decide +kernel
theorem dX12_readName_26 : decode cX12_readName 26 = .ok (.aload_n 0, 1) := by decide +kernel
theorem dX12_readName_27 : decode cX12_readName 27 = .ok (.aload_n 0, 1) := by decide +kernel
theorem dX12_readName_28 : decode cX12_readName 28 = .ok (.getfield 345, 3) := by decide +kernel
theorem dX12_readName_31 : decode cX12_readName 31 = .ok (.invokevirtual 348, 3) := by decide +kernel
theorem dX12_readName_34 : decode cX12_readName 34 = .ok (.invokestatic 341, 3) := by decide +kernel
theorem dX12_readName_37 : decode cX12_readName 37 = .ok (.ifCond .eq 46, 3) := by decide +kernel
theorem dX12_readName_40 : decode cX12_readName 40 = .ok (.iload_n 1, 1) := by decide +kernel
theorem dX12_readName_41 : decode cX12_readName 41 = .ok (.bipush 8, 2) := by decide +kernel
theorem dX12_readName_43 : decode cX12_readName 43 = .ok (.if_icmp .ge 24, 3) := by decide +kernel
theorem dX12_readName_46 : decode cX12_readName 46 = .ok (.aload_n 0, 1) := by decide +kernel
theorem dX12_readName_47 : decode cX12_readName 47 = .ok (.aload_n 0, 1) := by decide +kernel
theorem dX12_readName_48 : decode cX12_readName 48 = .ok (.getfield 369, 3) := by decide +kernel
theorem dX12_readName_51 : decode cX12_readName 51 = .ok (.bipush 7, 2) := by decide +kernel
theorem dX12_readName_53 : decode cX12_readName 53 = .ok (.lshl, 1) := by decide +kernel
theorem dX12_readName_54 : decode cX12_readName 54 = .ok (.aload_n 0, 1) := by decide +kernel
theorem dX12_readName_55 : decode cX12_readName 55 = .ok (.aload_n 0, 1) := by decide +kernel
theorem dX12_readName_56 : decode cX12_readName 56 = .ok (.getfield 345, 3) := by decide +kernel
theorem dX12_readName_59 : decode cX12_readName 59 = .ok (.invokevirtual 348, 3) := by decide +kernel
theorem dX12_readName_62 : decode cX12_readName 62 = .ok (.i2l, 1) := by decide +kernel
theorem dX12_readName_63 : decode cX12_readName 63 = .ok (.lor, 1) := by decide +kernel
theorem dX12_readName_64 : decode cX12_readName 64 = .ok (.putfield 369, 3) := by decide +kernel
theorem dX12_readName_67 : decode cX12_readName 67 = .ok (.iinc 1 1, 3) := by decide +kernel
theorem dX12_readName_70 : decode cX12_readName 70 = .ok (.aload_n 0, 1) := by decide +kernel
theorem dX12_readName_71 : decode cX12_readName 71 = .ok (.dup, 1) := by decide +kernel
theorem dX12_readName_72 : decode cX12_readName 72 = .ok (.getfield 345, 3) := by decide +kernel
theorem dX12_readName_75 : decode cX12_readName 75 = .ok (.iconst 1, 1) := by decide +kernel
theorem dX12_readName_76 : decode cX12_readName 76 = .ok (.iadd, 1) := by decide +kernel
theorem dX12_readName_77 : decode cX12_readName 77 = .ok (.putfield 345, 3) := by decide +kernel
theorem dX12_readName_80 : decode cX12_readName 80 = .ok (.goto (-68), 3) := by decide +kernel
theorem dX12_readName_83 : decode cX12_readName 83 = .ok (.iload_n 1, 1) := by decide +kernel
theorem dX12_readName_84 : decode cX12_readName 84 = .ok (.bipush 8, 2) := by decide +kernel
theorem dX12_readName_86 : decode cX12_readName 86 = .ok (.if_icmp .le 9, 3) := by decide +kernel
theorem dX12_readName_89 : decode cX12_readName 89 = .ok (.aload_n 0, 1) := by decide +kernel
theorem dX12_readName_90 : decode cX12_readName 90 = .ok (.bipush 7, 2) := by decide +kernel
theorem dX12_readName_92 : decode cX12_readName 92 = .ok (.putfield 357, 3) := by decide +kernel
theorem dX12_readName_95 : decode cX12_readName 95 = .ok (.return_, 1) := by decide +kernel
theorem cc_readName : Cond.code yX12_readName cX12_readName 2 none ∈ rf_tb := rf_at 1928 (by decide +kernel) (by decide +kernel)
theorem cw_readName : rf_wV yX12_readName cX12_readName 2 none 363 0 := ⟨⟨rf_at 1925 (by decide +kernel) (by decide +kernel), rf_at 1927 (by decide +kernel) (by decide +kernel), rf_sel (q := (yX12_readName, 122)) 83 (by decide +kernel) (by decide +kernel), cc_readName⟩, rfl, by decide +kernel⟩
noncomputable def bq_readName_67i12 (x1 : Int32) (ρ : rf_S) : Option ((Int32 × rf_S) ⊕ (Int32 × rf_S)) := vl (x1 + (1:Int32)) (fun x1_7 => vl (rf_w ρ 0 48 ((ρ.1 0 48) + (1:Int32))) (fun ρ_8 => some (.inl (x1_7, ρ_8))))
set_option maxHeartbeats 4000000 in
theorem wq_readName_67i12 (C : rf_C D p s m args meth c cX12_readName 2 none) {x1 : Int32} {ρ ρ' : rf_S} {H : Heap} {locs : List Loc} {ls : Array Slot} {o : (Int32 × rf_S) ⊕ (Int32 × rf_S)} (h : bq_readName_67i12 x1 ρ = some o) (hP : Sum.elim (fun z : (Int32 × rf_S) => ∀ (H : Heap) (locs : List Loc) (ls : Array Slot), rf_G D h0 s z.2 H locs → lv_has ls 2 [(0, .ref h0), (1, .int z.1)] → W p l e ({ frames := 1, cells := 0, slots := 0, locals := 21 }) s m args below meth c H locs 0 0 (MQ below (rf_Q D h0 none ρ') args s 0 0 (rf_A h0)) (F0 m 12 ls [])) (fun z : (Int32 × rf_S) => ∀ (H : Heap) (locs : List Loc) (ls : Array Slot), rf_G D h0 s z.2 H locs → lv_has ls 2 [(0, .ref h0), (1, .int z.1)] → W p l e ({ frames := 1, cells := 0, slots := 0, locals := 21 }) s m args below meth c H locs 0 0 (MQ below (rf_Q D h0 none ρ') args s 0 0 (rf_A h0)) (F0 m 83 ls [])) o) (G : rf_G D h0 s ρ H locs) (hl : lv_has ls 2 [(0, .ref h0), (1, .int x1)]) : W p l e ({ frames := 1, cells := 0, slots := 0, locals := 21 }) s m args below meth c H locs 0 0 (MQ below (rf_Q D h0 none ρ') args s 0 0 (rf_A h0)) (F0 m 67 ls []) := by
  unfold bq_readName_67i12 at h
  refine vl_ex h (fun x1_7 ey h => ?_)
  refine lv_iinc (v := x1_7) (lv' := [(1, .int x1_7), (0, .ref h0)]) C.1 C.2.1 dX12_readName_67 hl (k := 1) rfl (by rw [ey]; rfl) (by decide) rfl (fun ls hl => ?_)
  refine lv_aload_n C.1 C.2.1 dX12_readName_70 rfl (lv_at hl 1 rfl) ?_
  refine lv_dup C.1 C.2.1 dX12_readName_71 rfl ?_
  refine gf_48 C G dX12_readName_72 ?_
  refine lv_iconst (v := (1:Int32)) C.1 C.2.1 dX12_readName_75 (by decide) ?_
  refine lv_iadd C.1 C.2.1 dX12_readName_76 ?_
  refine pf_48 C G dX12_readName_77 (fun H locs G => ?_)
  refine rf_nm G h (fun ρ_8 G h => ?_)
  refine lv_goto (tgt := 12) C.1 C.2.1 dX12_readName_80 (by decide) ?_
  cases h
  exact hP _ _ _ G (lv_sub hl [1, 0] rfl)
noncomputable def bq_readName_40i12 (x1 : Int32) (ρ : rf_S) : Option ((Int32 × rf_S) ⊕ (Int32 × rf_S)) := (if (8:Int32) ≤ x1 then bq_readName_67i12 x1 ρ else bd2 (fq_octet (ρ.1 0 48) ρ) (fun r_10 ρ_9 => vl (rf_wl ρ_9 0 46 (((ρ.2 0 46) <<< ((7:Int32).toInt64 &&& 63)) ||| (r_10.toInt64))) (fun ρ_11 => bq_readName_67i12 x1 ρ_11)))
set_option maxHeartbeats 4000000 in
theorem wq_readName_40i12 (C : rf_C D p s m args meth c cX12_readName 2 none) {x1 : Int32} {ρ ρ' : rf_S} {H : Heap} {locs : List Loc} {ls : Array Slot} {o : (Int32 × rf_S) ⊕ (Int32 × rf_S)} (h : bq_readName_40i12 x1 ρ = some o) (hP : Sum.elim (fun z : (Int32 × rf_S) => ∀ (H : Heap) (locs : List Loc) (ls : Array Slot), rf_G D h0 s z.2 H locs → lv_has ls 2 [(0, .ref h0), (1, .int z.1)] → W p l e ({ frames := 1, cells := 0, slots := 0, locals := 21 }) s m args below meth c H locs 0 0 (MQ below (rf_Q D h0 none ρ') args s 0 0 (rf_A h0)) (F0 m 12 ls [])) (fun z : (Int32 × rf_S) => ∀ (H : Heap) (locs : List Loc) (ls : Array Slot), rf_G D h0 s z.2 H locs → lv_has ls 2 [(0, .ref h0), (1, .int z.1)] → W p l e ({ frames := 1, cells := 0, slots := 0, locals := 21 }) s m args below meth c H locs 0 0 (MQ below (rf_Q D h0 none ρ') args s 0 0 (rf_A h0)) (F0 m 83 ls [])) o) (G : rf_G D h0 s ρ H locs) (hl : lv_has ls 2 [(0, .ref h0), (1, .int x1)]) : W p l e ({ frames := 1, cells := 0, slots := 0, locals := 21 }) s m args below meth c H locs 0 0 (MQ below (rf_Q D h0 none ρ') args s 0 0 (rf_A h0)) (F0 m 40 ls []) := by
  unfold bq_readName_40i12 at h
  refine lv_iload_n C.1 C.2.1 dX12_readName_40 rfl (lv_at hl 1 rfl) ?_
  refine lv_bipush (v := (8:Int32)) C.1 C.2.1 dX12_readName_41 (by decide) ?_
  refine lv_icmp_ge (tgt := 67) C.1 C.2.1 dX12_readName_43 (by decide) (fun hc => ?_) (fun hc => ?_)
  · rw [if_pos hc] at h
    exact wq_readName_67i12 C h hP G (lv_sub hl [0, 1] rfl)
  · rw [if_neg hc] at h
    refine lv_aload_n C.1 C.2.1 dX12_readName_46 rfl (lv_at hl 0 rfl) ?_
    refine lv_aload_n C.1 C.2.1 dX12_readName_47 rfl (lv_at hl 0 rfl) ?_
    refine gf_46 C G dX12_readName_48 ?_
    refine lv_bipush (v := (7:Int32)) C.1 C.2.1 dX12_readName_51 (by decide) ?_
    refine lv_lshl C.1 C.2.1 dX12_readName_53 rfl ?_
    refine lv_aload_n C.1 C.2.1 dX12_readName_54 rfl (lv_at hl 0 rfl) ?_
    refine lv_aload_n C.1 C.2.1 dX12_readName_55 rfl (lv_at hl 0 rfl) ?_
    refine gf_48 C G dX12_readName_56 ?_
    obtain ⟨r_10, ρ_9, hq, h⟩ := bd2_some h
    refine rf_callV (rest := [.long ((ρ.2 0 46) <<< ((7:Int32).toInt64 &&& 63)), .ref h0]) C G cw_octet [.int (ρ.1 0 48)] _ (kq_octet l D h0 hq) (Nat.le_of_ble_eq_true rfl) (Nat.le_of_ble_eq_true rfl) rfl rfl hl.1 (Nat.le_of_ble_eq_true rfl) (Nat.zero_le _) (Nat.zero_le _) dX12_readName_59 (fun H locs G => ?_)
    refine W.eq (g2 := F0 m 62 ls [.int r_10, .long ((ρ.2 0 46) <<< ((7:Int32).toInt64 &&& 63)), .ref h0]) rfl ?_
    refine lv_i2l C.1 C.2.1 dX12_readName_62 rfl ?_
    refine lv_lor C.1 C.2.1 dX12_readName_63 ?_
    refine pf_46 C G dX12_readName_64 (fun H locs G => ?_)
    refine rf_nm G h (fun ρ_11 G h => ?_)
    exact wq_readName_67i12 C h hP G (lv_sub hl [0, 1] rfl)
noncomputable def lq_readName_12 (x1 : Int32) (ρ : rf_S) : Option ((Int32 × rf_S) ⊕ (Int32 × rf_S)) := bd2 (fq_octet (ρ.1 0 48) ρ) (fun r_4 ρ_3 => bd2 (fq_isLetter r_4 ρ_3) (fun r_6 ρ_5 => (if r_6 = 0 then bd2 (fq_octet (ρ_5.1 0 48) ρ_5) (fun r_13 ρ_12 => bd2 (fq_isFigure r_13 ρ_12) (fun r_15 ρ_14 => (if r_15 = 0 then some (.inr (x1, ρ_14)) else bq_readName_40i12 x1 ρ_14))) else bq_readName_40i12 x1 ρ_5)))
noncomputable def eq_readName_12 (x1 : Int32) (ρ : rf_S) : Option (rf_S) := (if x1 ≤ (8:Int32) then some ρ else vl (rf_w ρ 0 44 (7:Int32)) (fun ρ_16 => some ρ_16))
noncomputable def bq_readName_12 (x1 : Int32) (ρ : rf_S) : Option (rf_S) := (lp (fun z : (Int32 × rf_S) => lq_readName_12  z.1 z.2) (x1, ρ)).bind (fun z => eq_readName_12  z.1 z.2)
set_option maxHeartbeats 4000000 in
theorem wq_readName_12 (C : rf_C D p s m args meth c cX12_readName 2 none) {x1 : Int32} {ρ ρ' : rf_S} {H : Heap} {locs : List Loc} {ls : Array Slot} (h : bq_readName_12 x1 ρ = some ρ') (G : rf_G D h0 s ρ H locs) (hl : lv_has ls 2 [(0, .ref h0), (1, .int x1)]) : W p l e ({ frames := 1, cells := 0, slots := 0, locals := 21 }) s m args below meth c H locs 0 0 (MQ below (rf_Q D h0 none ρ') args s 0 0 (rf_A h0)) (F0 m 12 ls []) := by
  unfold bq_readName_12 at h
  obtain ⟨y, hy, h⟩ := bd_some h
  have hE : (fun z : (Int32 × rf_S) => ∀ (H : Heap) (locs : List Loc) (ls : Array Slot), rf_G D h0 s z.2 H locs → lv_has ls 2 [(0, .ref h0), (1, .int z.1)] → W p l e ({ frames := 1, cells := 0, slots := 0, locals := 21 }) s m args below meth c H locs 0 0 (MQ below (rf_Q D h0 none ρ') args s 0 0 (rf_A h0)) (F0 m 83 ls [])) y := by
    intro H locs ls G hl
    obtain ⟨x1, ρ⟩ := y
    dsimp only at h G hl
    unfold eq_readName_12 at h
    refine lv_iload_n C.1 C.2.1 dX12_readName_83 rfl (lv_at hl 1 rfl) ?_
    refine lv_bipush (v := (8:Int32)) C.1 C.2.1 dX12_readName_84 (by decide) ?_
    refine lv_icmp_le (tgt := 95) C.1 C.2.1 dX12_readName_86 (by decide) (fun hc => ?_) (fun hc => ?_)
    · rw [if_pos hc] at h
      exact rf_vret C G h dX12_readName_95
    · rw [if_neg hc] at h
      refine lv_aload_n C.1 C.2.1 dX12_readName_89 rfl (lv_at hl 0 rfl) ?_
      refine lv_bipush (v := (7:Int32)) C.1 C.2.1 dX12_readName_90 (by decide) ?_
      refine pf_44 C G dX12_readName_92 (fun H locs G => ?_)
      refine rf_nm G h (fun ρ_16 G h => ?_)
      exact rf_vret C G h dX12_readName_95
  refine lp_recE (fun z : (Int32 × rf_S) => ∀ (H : Heap) (locs : List Loc) (ls : Array Slot), rf_G D h0 s z.2 H locs → lv_has ls 2 [(0, .ref h0), (1, .int z.1)] → W p l e ({ frames := 1, cells := 0, slots := 0, locals := 21 }) s m args below meth c H locs 0 0 (MQ below (rf_Q D h0 none ρ') args s 0 0 (rf_A h0)) (F0 m 12 ls [])) (fun z : (Int32 × rf_S) => ∀ (H : Heap) (locs : List Loc) (ls : Array Slot), rf_G D h0 s z.2 H locs → lv_has ls 2 [(0, .ref h0), (1, .int z.1)] → W p l e ({ frames := 1, cells := 0, slots := 0, locals := 21 }) s m args below meth c H locs 0 0 (MQ below (rf_Q D h0 none ρ') args s 0 0 (rf_A h0)) (F0 m 83 ls [])) ?_ _ _ hy hE _ _ _ G hl
  clear hE hy G hl h
  intro z o h hP H locs ls G hl
  obtain ⟨x1, ρ⟩ := z
  dsimp only at h G hl
  unfold lq_readName_12 at h
  refine lv_aload_n C.1 C.2.1 dX12_readName_12 rfl (lv_at hl 0 rfl) ?_
  refine lv_aload_n C.1 C.2.1 dX12_readName_13 rfl (lv_at hl 0 rfl) ?_
  refine gf_48 C G dX12_readName_14 ?_
  obtain ⟨r_4, ρ_3, hq, h⟩ := bd2_some h
  refine rf_callV (rest := []) C G cw_octet [.int (ρ.1 0 48)] _ (kq_octet l D h0 hq) (Nat.le_of_ble_eq_true rfl) (Nat.le_of_ble_eq_true rfl) rfl rfl hl.1 (Nat.le_of_ble_eq_true rfl) (Nat.zero_le _) (Nat.zero_le _) dX12_readName_17 (fun H locs G => ?_)
  refine W.eq (g2 := F0 m 20 ls [.int r_4]) rfl ?_
  obtain ⟨r_6, ρ_5, hq, h⟩ := bd2_some h
  refine rf_callS (rest := []) C G cw_isLetter [.int r_4] _ (kq_isLetter l D h0 hq) (Nat.le_of_ble_eq_true rfl) (Nat.le_of_ble_eq_true rfl) rfl rfl hl.1 (Nat.le_of_ble_eq_true rfl) (Nat.zero_le _) (Nat.zero_le _) dX12_readName_20 (fun H locs G => ?_)
  refine W.eq (g2 := F0 m 23 ls [.int r_6]) rfl ?_
  refine lv_if_ne (tgt := 40) C.1 C.2.1 dX12_readName_23 (by decide) (fun hc => ?_) (fun hc => ?_)
  · rw [if_neg hc] at h
    exact wq_readName_40i12 C h hP G (lv_sub hl [0, 1] rfl)
  · rw [if_pos hc] at h
    refine lv_aload_n C.1 C.2.1 dX12_readName_26 rfl (lv_at hl 0 rfl) ?_
    refine lv_aload_n C.1 C.2.1 dX12_readName_27 rfl (lv_at hl 0 rfl) ?_
    refine gf_48 C G dX12_readName_28 ?_
    obtain ⟨r_13, ρ_12, hq, h⟩ := bd2_some h
    refine rf_callV (rest := []) C G cw_octet [.int (ρ_5.1 0 48)] _ (kq_octet l D h0 hq) (Nat.le_of_ble_eq_true rfl) (Nat.le_of_ble_eq_true rfl) rfl rfl hl.1 (Nat.le_of_ble_eq_true rfl) (Nat.zero_le _) (Nat.zero_le _) dX12_readName_31 (fun H locs G => ?_)
    refine W.eq (g2 := F0 m 34 ls [.int r_13]) rfl ?_
    obtain ⟨r_15, ρ_14, hq, h⟩ := bd2_some h
    refine rf_callS (rest := []) C G cw_isFigure [.int r_13] _ (kq_isFigure l D h0 hq) (Nat.le_of_ble_eq_true rfl) (Nat.le_of_ble_eq_true rfl) rfl rfl hl.1 (Nat.le_of_ble_eq_true rfl) (Nat.zero_le _) (Nat.zero_le _) dX12_readName_34 (fun H locs G => ?_)
    refine W.eq (g2 := F0 m 37 ls [.int r_15]) rfl ?_
    refine lv_if_eq (tgt := 83) C.1 C.2.1 dX12_readName_37 (by decide) (fun hc => ?_) (fun hc => ?_)
    · rw [if_pos hc] at h
      cases h
      exact hP _ _ _ G (lv_sub hl [0, 1] rfl)
    · rw [if_neg hc] at h
      exact wq_readName_40i12 C h hP G (lv_sub hl [0, 1] rfl)
noncomputable def bq_readName_0  (ρ : rf_S) : Option (rf_S) := vl (rf_w ρ 0 44 (1:Int32)) (fun ρ_1 => vl (rf_wl ρ_1 0 46 (0:Int64)) (fun ρ_2 => bq_readName_12 (0:Int32) ρ_2))
set_option maxHeartbeats 4000000 in
theorem wq_readName_0 (C : rf_C D p s m args meth c cX12_readName 2 none) {ρ ρ' : rf_S} {H : Heap} {locs : List Loc} {ls : Array Slot} (h : bq_readName_0 ρ = some ρ') (G : rf_G D h0 s ρ H locs) (hl : lv_has ls 2 [(0, .ref h0)]) : W p l e ({ frames := 1, cells := 0, slots := 0, locals := 21 }) s m args below meth c H locs 0 0 (MQ below (rf_Q D h0 none ρ') args s 0 0 (rf_A h0)) (F0 m 0 ls []) := by
  unfold bq_readName_0 at h
  refine lv_aload_n C.1 C.2.1 dX12_readName_0 rfl (lv_at hl 0 rfl) ?_
  refine lv_iconst (v := (1:Int32)) C.1 C.2.1 dX12_readName_1 (by decide) ?_
  refine pf_44 C G dX12_readName_2 (fun H locs G => ?_)
  refine rf_nm G h (fun ρ_1 G h => ?_)
  refine lv_aload_n C.1 C.2.1 dX12_readName_5 rfl (lv_at hl 0 rfl) ?_
  refine lv_lconst (v := (0:Int64)) C.1 C.2.1 dX12_readName_6 (by decide) ?_
  refine pf_46 C G dX12_readName_7 (fun H locs G => ?_)
  refine rf_nm G h (fun ρ_2 G h => ?_)
  refine lv_iconst (v := (0:Int32)) C.1 C.2.1 dX12_readName_10 (by decide) ?_
  refine lv_istore_n (lv' := [(1, .int (0:Int32)), (0, .ref h0)]) C.1 C.2.1 dX12_readName_11 rfl hl (by decide) rfl (fun ls hl => ?_)
  exact wq_readName_12 C h G (lv_sub hl [1, 0] rfl)
noncomputable def fq_readName  (ρ : rf_S) : Option (rf_S) := bq_readName_0 ρ
theorem kq_readName (l : Launch) (D : rf_D) (h0 : Nat) {ρ ρ' : rf_S} (h : fq_readName ρ = some ρ') : rf_Met l D h0 yX12_readName cX12_readName 2 none 1 21 [.ref h0] ρ none ρ' :=
  rf_of rfl cc_readName (Nat.le_of_ble_eq_true rfl) (fun p e s m args below meth c ls C G hl => wq_readName_0 C h G hl)
abbrev cX12_readNumber : ByteArray := prog_14_method_25_code
def yX12_readNumber : MethodName := ⟨RX12, "readNumber", "()V"⟩
theorem dX12_readNumber_0 : decode cX12_readNumber 0 = .ok (.aload_n 0, 1) := by decide +kernel
theorem dX12_readNumber_1 : decode cX12_readNumber 1 = .ok (.iconst 2, 1) := by decide +kernel
theorem dX12_readNumber_2 : decode cX12_readNumber 2 = .ok (.putfield 357, 3) := by decide +kernel
theorem dX12_readNumber_5 : decode cX12_readNumber 5 = .ok (.aload_n 0, 1) := by decide +kernel
theorem dX12_readNumber_6 : decode cX12_readNumber 6 = .ok (.lconst 0, 1) := by decide +kernel
theorem dX12_readNumber_7 : decode cX12_readNumber 7 = .ok (.putfield 373, 3) := by decide +kernel
theorem dX12_readNumber_10 : decode cX12_readNumber 10 = .ok (.iconst 0, 1) := by decide +kernel
theorem dX12_readNumber_11 : decode cX12_readNumber 11 = .ok (.istore_n 1, 1) := by decide +kernel
theorem dX12_readNumber_12 : decode cX12_readNumber 12 = .ok (.aload_n 0, 1) := by decide +kernel
theorem dX12_readNumber_13 : decode cX12_readNumber 13 = .ok (.aload_n 0, 1) := by decide +kernel
theorem dX12_readNumber_14 : decode cX12_readNumber 14 = .ok (.getfield 345, 3) := by decide +kernel
theorem dX12_readNumber_17 : decode cX12_readNumber 17 = .ok (.invokevirtual 348, 3) := by decide +kernel
theorem dX12_readNumber_20 : decode cX12_readNumber 20 = .ok (.bipush 48, 2) := by decide +kernel
theorem dX12_readNumber_22 : decode cX12_readNumber 22 = .ok (.if_icmp .ne 38, 3) := by decide +kernel
theorem dX12_readNumber_25 : decode cX12_readNumber 25 = .ok (.aload_n 0, 1) := by decide +kernel
theorem dX12_readNumber_26 : decode cX12_readNumber 26 = .ok (.aload_n 0, 1) := by decide +kernel
theorem dX12_readNumber_27 : decode cX12_readNumber 27 = .ok (.getfield 345, 3) := by decide +kernel
theorem dX12_readNumber_30 : decode cX12_readNumber 30 = .ok (.iconst 1, 1) := by decide +kernel
theorem dX12_readNumber_31 : decode cX12_readNumber 31 = .ok (.iadd, 1) := by decide +kernel
theorem dX12_readNumber_32 : decode cX12_readNumber 32 = .ok (.invokevirtual 348, 3) := by decide +kernel
theorem dX12_readNumber_35 : decode cX12_readNumber 35 = .ok (.bipush 120, 2) := by decide +kernel
theorem dX12_readNumber_37 : decode cX12_readNumber 37 = .ok (.if_icmp .ne 23, 3) := by decide +kernel
theorem dX12_readNumber_40 : decode cX12_readNumber 40 = .ok (.aload_n 0, 1) := by decide +kernel
theorem dX12_readNumber_41 : decode cX12_readNumber 41 = .ok (.aload_n 0, 1) := by decide +kernel
theorem dX12_readNumber_42 : decode cX12_readNumber 42 = .ok (.getfield 345, 3) := by decide +kernel
theorem dX12_readNumber_45 : decode cX12_readNumber 45 = .ok (.iconst 2, 1) := by decide +kernel
theorem dX12_readNumber_46 : decode cX12_readNumber 46 = .ok (.iadd, 1) := by decide +kernel
theorem dX12_readNumber_47 : decode cX12_readNumber 47 = .ok (.invokevirtual 348, 3) := by decide +kernel
theorem dX12_readNumber_50 : decode cX12_readNumber 50 = .ok (.invokestatic 376, 3) := by decide +kernel
theorem dX12_readNumber_53 : decode cX12_readNumber 53 = .ok (.ifCond .lt 7, 3) := by decide +kernel
theorem dX12_readNumber_56 : decode cX12_readNumber 56 = .ok (.iconst 1, 1) := by decide +kernel
theorem dX12_readNumber_57 : decode cX12_readNumber 57 = .ok (.goto 4, 3) := by decide +kernel
theorem dX12_readNumber_60 : decode cX12_readNumber 60 = .ok (.iconst 0, 1) := by decide +kernel
theorem dX12_readNumber_61 : decode cX12_readNumber 61 = .ok (.istore_n 2, 1) := by decide +kernel
theorem dX12_readNumber_62 : decode cX12_readNumber 62 = .ok (.iload_n 2, 1) := by decide +kernel
theorem dX12_readNumber_63 : decode cX12_readNumber 63 = .ok (.ifCond .eq 13, 3) := by decide +kernel
theorem dX12_readNumber_66 : decode cX12_readNumber 66 = .ok (.aload_n 0, 1) := by decide +kernel
theorem dX12_readNumber_67 : decode cX12_readNumber 67 = .ok (.dup, 1) := by decide +kernel
theorem dX12_readNumber_68 : decode cX12_readNumber 68 = .ok (.getfield 345, 3) := by decide +kernel
theorem dX12_readNumber_71 : decode cX12_readNumber 71 = .ok (.iconst 2, 1) := by decide +kernel
theorem dX12_readNumber_72 : decode cX12_readNumber 72 = .ok (.iadd, 1) := by decide +kernel
theorem dX12_readNumber_73 : decode cX12_readNumber 73 = .ok (.putfield 345, 3) := by decide +kernel
theorem dX12_readNumber_76 : decode cX12_readNumber 76 = .ok (.iload_n 2, 1) := by decide +kernel
theorem dX12_readNumber_77 : decode cX12_readNumber 77 = .ok (.ifCond .eq 20, 3) := by decide +kernel
theorem dX12_readNumber_80 : decode cX12_readNumber 80 = .ok (.aload_n 0, 1) := by decide +kernel
theorem dX12_readNumber_81 : decode cX12_readNumber 81 = .ok (.aload_n 0, 1) := by decide +kernel
theorem dX12_readNumber_82 : decode cX12_readNumber 82 = .ok (.getfield 345, 3) := by decide +kernel
theorem dX12_readNumber_85 : decode cX12_readNumber 85 = .ok (.invokevirtual 348, 3) := by decide +kernel
theorem dX12_readNumber_88 : decode cX12_readNumber 88 = .ok (.invokestatic 376, 3) := by decide +kernel
theorem dX12_readNumber_91 : decode cX12_readNumber 91 = .ok (.ifCond .lt 77, 3) := by decide +kernel
theorem dX12_readNumber_94 : decode cX12_readNumber 94 = .ok (.goto 17, 3) := by decide +kernel
theorem dX12_readNumber_97 : decode cX12_readNumber 97 = .ok (.aload_n 0, 1) := by decide +kernel
theorem dX12_readNumber_98 : decode cX12_readNumber 98 = .ok (.aload_n 0, 1) := by decide +kernel
theorem dX12_readNumber_99 : decode cX12_readNumber 99 = .ok (.getfield 345, 3) := by decide +kernel
theorem dX12_readNumber_102 : decode cX12_readNumber 102 = .ok (.invokevirtual 348, 3) := by decide +kernel
theorem dX12_readNumber_105 : decode cX12_readNumber 105 = .ok (.invokestatic 341, 3) := by decide +kernel
theorem dX12_readNumber_108 : decode cX12_readNumber 108 = .ok (.ifCond .eq 60, 3) := by decide +kernel
theorem dX12_readNumber_111 : decode cX12_readNumber 111 = .ok (.iload_n 1, 1) := by decide +kernel
theorem dX12_readNumber_112 : decode cX12_readNumber 112 = .ok (.bipush 12, 2) := by decide +kernel
theorem dX12_readNumber_114 : decode cX12_readNumber 114 = .ok (.if_icmp .ge 38, 3) := by decide +kernel
theorem dX12_readNumber_117 : decode cX12_readNumber 117 = .ok (.aload_n 0, 1) := by decide +kernel
theorem dX12_readNumber_118 : decode cX12_readNumber 118 = .ok (.aload_n 0, 1) := by decide +kernel
theorem dX12_readNumber_119 : decode cX12_readNumber 119 = .ok (.getfield 373, 3) := by decide +kernel
theorem dX12_readNumber_122 : decode cX12_readNumber 122 = .ok (.iload_n 2, 1) := by decide +kernel
theorem dX12_readNumber_123 : decode cX12_readNumber 123 = .ok (.ifCond .eq 9, 3) := by decide +kernel
theorem dX12_readNumber_126 : decode cX12_readNumber 126 = .ok (.ldc2_w 379, 3) := by decide +kernel
theorem dX12_readNumber_129 : decode cX12_readNumber 129 = .ok (.goto 6, 3) := by decide +kernel
theorem dX12_readNumber_132 : decode cX12_readNumber 132 = .ok (.ldc2_w 381, 3) := by decide +kernel
theorem dX12_readNumber_135 : decode cX12_readNumber 135 = .ok (.lmul, 1) := by decide +kernel
theorem dX12_readNumber_136 : decode cX12_readNumber 136 = .ok (.aload_n 0, 1) := by decide +kernel
theorem dX12_readNumber_137 : decode cX12_readNumber 137 = .ok (.aload_n 0, 1) := by decide +kernel
theorem dX12_readNumber_138 : decode cX12_readNumber 138 = .ok (.getfield 345, 3) := by decide +kernel
theorem dX12_readNumber_141 : decode cX12_readNumber 141 = .ok (.invokevirtual 348, 3) := by decide +kernel
theorem dX12_readNumber_144 : decode cX12_readNumber 144 = .ok (.invokestatic 376, 3) := by decide +kernel
theorem dX12_readNumber_147 : decode cX12_readNumber 147 = .ok (.i2l, 1) := by decide +kernel
theorem dX12_readNumber_148 : decode cX12_readNumber 148 = .ok (.ladd, 1) := by decide +kernel
theorem dX12_readNumber_149 : decode cX12_readNumber 149 = .ok (.putfield 373, 3) := by decide +kernel
theorem dX12_readNumber_152 : decode cX12_readNumber 152 = .ok (.iinc 1 1, 3) := by decide +kernel
theorem dX12_readNumber_155 : decode cX12_readNumber 155 = .ok (.aload_n 0, 1) := by decide +kernel
theorem dX12_readNumber_156 : decode cX12_readNumber 156 = .ok (.dup, 1) := by decide +kernel
theorem dX12_readNumber_157 : decode cX12_readNumber 157 = .ok (.getfield 345, 3) := by decide +kernel
theorem dX12_readNumber_160 : decode cX12_readNumber 160 = .ok (.iconst 1, 1) := by decide +kernel
theorem dX12_readNumber_161 : decode cX12_readNumber 161 = .ok (.iadd, 1) := by decide +kernel
theorem dX12_readNumber_162 : decode cX12_readNumber 162 = .ok (.putfield 345, 3) := by decide +kernel
theorem dX12_readNumber_165 : decode cX12_readNumber 165 = .ok (.goto (-89), 3) := by decide +kernel
theorem dX12_readNumber_168 : decode cX12_readNumber 168 = .ok (.iload_n 1, 1) := by decide +kernel
theorem dX12_readNumber_169 : decode cX12_readNumber 169 = .ok (.iload_n 2, 1) := by decide +kernel
theorem dX12_readNumber_170 : decode cX12_readNumber 170 = .ok (.ifCond .eq 8, 3) := by decide +kernel
theorem dX12_readNumber_173 : decode cX12_readNumber 173 = .ok (.bipush 8, 2) := by decide +kernel
theorem dX12_readNumber_175 : decode cX12_readNumber 175 = .ok (.goto 5, 3) := by decide +kernel
theorem dX12_readNumber_178 : decode cX12_readNumber 178 = .ok (.bipush 10, 2) := by decide +kernel
theorem dX12_readNumber_180 : decode cX12_readNumber 180 = .ok (.if_icmp .le 9, 3) := by decide +kernel
theorem dX12_readNumber_183 : decode cX12_readNumber 183 = .ok (.aload_n 0, 1) := by decide +kernel
theorem dX12_readNumber_184 : decode cX12_readNumber 184 = .ok (.bipush 7, 2) := by decide +kernel
theorem dX12_readNumber_186 : decode cX12_readNumber 186 = .ok (.putfield 357, 3) := by decide +kernel
theorem dX12_readNumber_189 : decode cX12_readNumber 189 = .ok (.return_, 1) := by decide +kernel
theorem cc_readNumber : Cond.code yX12_readNumber cX12_readNumber 3 none ∈ rf_tb := rf_at 1935 (by decide +kernel) (by decide +kernel)
theorem cw_readNumber : rf_wV yX12_readNumber cX12_readNumber 3 none 366 0 := ⟨⟨rf_at 1932 (by decide +kernel) (by decide +kernel), rf_at 1934 (by decide +kernel) (by decide +kernel), rf_sel (q := (yX12_readNumber, 122)) 84 (by decide +kernel) (by decide +kernel), cc_readNumber⟩, rfl, by decide +kernel⟩
theorem kc_379 : Cond.constantLong RX12 379 (16 : Int64) ∈ rf_tb := rf_at 1939 (by decide +kernel) (by decide +kernel)
theorem kc_381 : Cond.constantLong RX12 381 (10 : Int64) ∈ rf_tb := rf_at 1940 (by decide +kernel) (by decide +kernel)
noncomputable def bq_readNumber_152i76 (x1 : Int32) (x2 : Int32) (ρ : rf_S) : Option ((Int32 × rf_S) ⊕ (Int32 × rf_S)) := vl (x1 + (1:Int32)) (fun x1_9 => vl (rf_w ρ 0 48 ((ρ.1 0 48) + (1:Int32))) (fun ρ_10 => some (.inl (x1_9, ρ_10))))
set_option maxHeartbeats 4000000 in
theorem wq_readNumber_152i76 (C : rf_C D p s m args meth c cX12_readNumber 3 none) {x1 : Int32} {x2 : Int32} {ρ ρ' : rf_S} {H : Heap} {locs : List Loc} {ls : Array Slot} {o : (Int32 × rf_S) ⊕ (Int32 × rf_S)} (h : bq_readNumber_152i76 x1 x2 ρ = some o) (hP : Sum.elim (fun z : (Int32 × rf_S) => ∀ (H : Heap) (locs : List Loc) (ls : Array Slot), rf_G D h0 s z.2 H locs → lv_has ls 3 [(0, .ref h0), (1, .int z.1), (2, .int x2)] → W p l e ({ frames := 2, cells := 0, slots := 0, locals := 40 }) s m args below meth c H locs 0 0 (MQ below (rf_Q D h0 none ρ') args s 0 0 (rf_A h0)) (F0 m 76 ls [])) (fun z : (Int32 × rf_S) => ∀ (H : Heap) (locs : List Loc) (ls : Array Slot), rf_G D h0 s z.2 H locs → lv_has ls 3 [(0, .ref h0), (1, .int z.1), (2, .int x2)] → W p l e ({ frames := 2, cells := 0, slots := 0, locals := 40 }) s m args below meth c H locs 0 0 (MQ below (rf_Q D h0 none ρ') args s 0 0 (rf_A h0)) (F0 m 168 ls [])) o) (G : rf_G D h0 s ρ H locs) (hl : lv_has ls 3 [(0, .ref h0), (1, .int x1), (2, .int x2)]) : W p l e ({ frames := 2, cells := 0, slots := 0, locals := 40 }) s m args below meth c H locs 0 0 (MQ below (rf_Q D h0 none ρ') args s 0 0 (rf_A h0)) (F0 m 152 ls []) := by
  unfold bq_readNumber_152i76 at h
  refine vl_ex h (fun x1_9 ey h => ?_)
  refine lv_iinc (v := x1_9) (lv' := [(1, .int x1_9), (0, .ref h0), (2, .int x2)]) C.1 C.2.1 dX12_readNumber_152 hl (k := 1) rfl (by rw [ey]; rfl) (by decide) rfl (fun ls hl => ?_)
  refine lv_aload_n C.1 C.2.1 dX12_readNumber_155 rfl (lv_at hl 1 rfl) ?_
  refine lv_dup C.1 C.2.1 dX12_readNumber_156 rfl ?_
  refine gf_48 C G dX12_readNumber_157 ?_
  refine lv_iconst (v := (1:Int32)) C.1 C.2.1 dX12_readNumber_160 (by decide) ?_
  refine lv_iadd C.1 C.2.1 dX12_readNumber_161 ?_
  refine pf_48 C G dX12_readNumber_162 (fun H locs G => ?_)
  refine rf_nm G h (fun ρ_10 G h => ?_)
  refine lv_goto (tgt := 76) C.1 C.2.1 dX12_readNumber_165 (by decide) ?_
  cases h
  exact hP _ _ _ G (lv_sub hl [1, 0, 2] rfl)
noncomputable def bq_readNumber_135i76 (x1 : Int32) (x2 : Int32) (v1 : Int64) (v2 : Int64) (ρ : rf_S) : Option ((Int32 × rf_S) ⊕ (Int32 × rf_S)) := bd2 (fq_octet (ρ.1 0 48) ρ) (fun r_12 ρ_11 => bd2 (fq_hexOf r_12 ρ_11) (fun r_14 ρ_13 => vl (rf_wl ρ_13 0 47 ((v1 * v2) + (r_14.toInt64))) (fun ρ_15 => bq_readNumber_152i76 x1 x2 ρ_15)))
set_option maxHeartbeats 4000000 in
theorem wq_readNumber_135i76 (C : rf_C D p s m args meth c cX12_readNumber 3 none) {x1 : Int32} {x2 : Int32} {v1 : Int64} {v2 : Int64} {ρ ρ' : rf_S} {H : Heap} {locs : List Loc} {ls : Array Slot} {o : (Int32 × rf_S) ⊕ (Int32 × rf_S)} (h : bq_readNumber_135i76 x1 x2 v1 v2 ρ = some o) (hP : Sum.elim (fun z : (Int32 × rf_S) => ∀ (H : Heap) (locs : List Loc) (ls : Array Slot), rf_G D h0 s z.2 H locs → lv_has ls 3 [(0, .ref h0), (1, .int z.1), (2, .int x2)] → W p l e ({ frames := 2, cells := 0, slots := 0, locals := 40 }) s m args below meth c H locs 0 0 (MQ below (rf_Q D h0 none ρ') args s 0 0 (rf_A h0)) (F0 m 76 ls [])) (fun z : (Int32 × rf_S) => ∀ (H : Heap) (locs : List Loc) (ls : Array Slot), rf_G D h0 s z.2 H locs → lv_has ls 3 [(0, .ref h0), (1, .int z.1), (2, .int x2)] → W p l e ({ frames := 2, cells := 0, slots := 0, locals := 40 }) s m args below meth c H locs 0 0 (MQ below (rf_Q D h0 none ρ') args s 0 0 (rf_A h0)) (F0 m 168 ls [])) o) (G : rf_G D h0 s ρ H locs) (hl : lv_has ls 3 [(0, .ref h0), (1, .int x1), (2, .int x2)]) : W p l e ({ frames := 2, cells := 0, slots := 0, locals := 40 }) s m args below meth c H locs 0 0 (MQ below (rf_Q D h0 none ρ') args s 0 0 (rf_A h0)) (F0 m 135 ls [.long v2, .long v1, .ref h0]) := by
  unfold bq_readNumber_135i76 at h
  refine lv_lmul C.1 C.2.1 dX12_readNumber_135 ?_
  refine lv_aload_n C.1 C.2.1 dX12_readNumber_136 rfl (lv_at hl 0 rfl) ?_
  refine lv_aload_n C.1 C.2.1 dX12_readNumber_137 rfl (lv_at hl 0 rfl) ?_
  refine gf_48 C G dX12_readNumber_138 ?_
  obtain ⟨r_12, ρ_11, hq, h⟩ := bd2_some h
  refine rf_callV (rest := [.long (v1 * v2), .ref h0]) C G cw_octet [.int (ρ.1 0 48)] _ (kq_octet l D h0 hq) (Nat.le_of_ble_eq_true rfl) (Nat.le_of_ble_eq_true rfl) rfl rfl hl.1 (Nat.le_of_ble_eq_true rfl) (Nat.zero_le _) (Nat.zero_le _) dX12_readNumber_141 (fun H locs G => ?_)
  refine W.eq (g2 := F0 m 144 ls [.int r_12, .long (v1 * v2), .ref h0]) rfl ?_
  obtain ⟨r_14, ρ_13, hq, h⟩ := bd2_some h
  refine rf_callS (rest := [.long (v1 * v2), .ref h0]) C G cw_hexOf [.int r_12] _ (kq_hexOf l D h0 hq) (Nat.le_of_ble_eq_true rfl) (Nat.le_of_ble_eq_true rfl) rfl rfl hl.1 (Nat.le_of_ble_eq_true rfl) (Nat.zero_le _) (Nat.zero_le _) dX12_readNumber_144 (fun H locs G => ?_)
  refine W.eq (g2 := F0 m 147 ls [.int r_14, .long (v1 * v2), .ref h0]) rfl ?_
  refine lv_i2l C.1 C.2.1 dX12_readNumber_147 rfl ?_
  refine lv_ladd C.1 C.2.1 dX12_readNumber_148 ?_
  refine pf_47 C G dX12_readNumber_149 (fun H locs G => ?_)
  refine rf_nm G h (fun ρ_15 G h => ?_)
  exact wq_readNumber_152i76 C h hP G (lv_sub hl [0, 1, 2] rfl)
noncomputable def bq_readNumber_111i76 (x1 : Int32) (x2 : Int32) (ρ : rf_S) : Option ((Int32 × rf_S) ⊕ (Int32 × rf_S)) := (if (12:Int32) ≤ x1 then bq_readNumber_152i76 x1 x2 ρ else (if x2 = 0 then bq_readNumber_135i76 x1 x2 (ρ.2 0 47) (10:Int64) ρ else bq_readNumber_135i76 x1 x2 (ρ.2 0 47) (16:Int64) ρ))
set_option maxHeartbeats 4000000 in
theorem wq_readNumber_111i76 (C : rf_C D p s m args meth c cX12_readNumber 3 none) {x1 : Int32} {x2 : Int32} {ρ ρ' : rf_S} {H : Heap} {locs : List Loc} {ls : Array Slot} {o : (Int32 × rf_S) ⊕ (Int32 × rf_S)} (h : bq_readNumber_111i76 x1 x2 ρ = some o) (hP : Sum.elim (fun z : (Int32 × rf_S) => ∀ (H : Heap) (locs : List Loc) (ls : Array Slot), rf_G D h0 s z.2 H locs → lv_has ls 3 [(0, .ref h0), (1, .int z.1), (2, .int x2)] → W p l e ({ frames := 2, cells := 0, slots := 0, locals := 40 }) s m args below meth c H locs 0 0 (MQ below (rf_Q D h0 none ρ') args s 0 0 (rf_A h0)) (F0 m 76 ls [])) (fun z : (Int32 × rf_S) => ∀ (H : Heap) (locs : List Loc) (ls : Array Slot), rf_G D h0 s z.2 H locs → lv_has ls 3 [(0, .ref h0), (1, .int z.1), (2, .int x2)] → W p l e ({ frames := 2, cells := 0, slots := 0, locals := 40 }) s m args below meth c H locs 0 0 (MQ below (rf_Q D h0 none ρ') args s 0 0 (rf_A h0)) (F0 m 168 ls [])) o) (G : rf_G D h0 s ρ H locs) (hl : lv_has ls 3 [(0, .ref h0), (1, .int x1), (2, .int x2)]) : W p l e ({ frames := 2, cells := 0, slots := 0, locals := 40 }) s m args below meth c H locs 0 0 (MQ below (rf_Q D h0 none ρ') args s 0 0 (rf_A h0)) (F0 m 111 ls []) := by
  unfold bq_readNumber_111i76 at h
  refine lv_iload_n C.1 C.2.1 dX12_readNumber_111 rfl (lv_at hl 1 rfl) ?_
  refine lv_bipush (v := (12:Int32)) C.1 C.2.1 dX12_readNumber_112 (by decide) ?_
  refine lv_icmp_ge (tgt := 152) C.1 C.2.1 dX12_readNumber_114 (by decide) (fun hc => ?_) (fun hc => ?_)
  · rw [if_pos hc] at h
    exact wq_readNumber_152i76 C h hP G (lv_sub hl [0, 1, 2] rfl)
  · rw [if_neg hc] at h
    refine lv_aload_n C.1 C.2.1 dX12_readNumber_117 rfl (lv_at hl 0 rfl) ?_
    refine lv_aload_n C.1 C.2.1 dX12_readNumber_118 rfl (lv_at hl 0 rfl) ?_
    refine gf_47 C G dX12_readNumber_119 ?_
    refine lv_iload_n C.1 C.2.1 dX12_readNumber_122 rfl (lv_at hl 2 rfl) ?_
    refine lv_if_eq (tgt := 132) C.1 C.2.1 dX12_readNumber_123 (by decide) (fun hc => ?_) (fun hc => ?_)
    · rw [if_pos hc] at h
      refine lv_ldc2 (v := (10:Int64)) C.1 C.2.1 C.2.2.2.1 (C.2.2.2.2.1 _ kc_381) dX12_readNumber_132 ?_
      exact wq_readNumber_135i76 C h hP G (lv_sub hl [0, 1, 2] rfl)
    · rw [if_neg hc] at h
      refine lv_ldc2 (v := (16:Int64)) C.1 C.2.1 C.2.2.2.1 (C.2.2.2.2.1 _ kc_379) dX12_readNumber_126 ?_
      refine lv_goto (tgt := 135) C.1 C.2.1 dX12_readNumber_129 (by decide) ?_
      exact wq_readNumber_135i76 C h hP G (lv_sub hl [0, 1, 2] rfl)
noncomputable def lq_readNumber_76 (x2 : Int32) (x1 : Int32) (ρ : rf_S) : Option ((Int32 × rf_S) ⊕ (Int32 × rf_S)) := (if x2 = 0 then bd2 (fq_octet (ρ.1 0 48) ρ) (fun r_6 ρ_5 => bd2 (fq_isFigure r_6 ρ_5) (fun r_8 ρ_7 => (if r_8 = 0 then some (.inr (x1, ρ_7)) else bq_readNumber_111i76 x1 x2 ρ_7))) else bd2 (fq_octet (ρ.1 0 48) ρ) (fun r_17 ρ_16 => bd2 (fq_hexOf r_17 ρ_16) (fun r_19 ρ_18 => (if r_19 < 0 then some (.inr (x1, ρ_18)) else bq_readNumber_111i76 x1 x2 ρ_18))))
noncomputable def bq_readNumber_180 (v0 : Int32) (v1 : Int32) (ρ : rf_S) : Option (rf_S) := (if v0 ≤ v1 then some ρ else vl (rf_w ρ 0 44 (7:Int32)) (fun ρ_20 => some ρ_20))
set_option maxHeartbeats 4000000 in
theorem wq_readNumber_180 (C : rf_C D p s m args meth c cX12_readNumber 3 none) {v0 : Int32} {v1 : Int32} {ρ ρ' : rf_S} {H : Heap} {locs : List Loc} {ls : Array Slot} (h : bq_readNumber_180 v0 v1 ρ = some ρ') (G : rf_G D h0 s ρ H locs) (hl : lv_has ls 3 [(0, .ref h0)]) : W p l e ({ frames := 2, cells := 0, slots := 0, locals := 40 }) s m args below meth c H locs 0 0 (MQ below (rf_Q D h0 none ρ') args s 0 0 (rf_A h0)) (F0 m 180 ls [.int v1, .int v0]) := by
  unfold bq_readNumber_180 at h
  refine lv_icmp_le (tgt := 189) C.1 C.2.1 dX12_readNumber_180 (by decide) (fun hc => ?_) (fun hc => ?_)
  · rw [if_pos hc] at h
    exact rf_vret C G h dX12_readNumber_189
  · rw [if_neg hc] at h
    refine lv_aload_n C.1 C.2.1 dX12_readNumber_183 rfl (lv_at hl 0 rfl) ?_
    refine lv_bipush (v := (7:Int32)) C.1 C.2.1 dX12_readNumber_184 (by decide) ?_
    refine pf_44 C G dX12_readNumber_186 (fun H locs G => ?_)
    refine rf_nm G h (fun ρ_20 G h => ?_)
    exact rf_vret C G h dX12_readNumber_189
noncomputable def bq_readNumber_168 (x1 : Int32) (x2 : Int32) (ρ : rf_S) : Option (rf_S) := (if x2 = 0 then bq_readNumber_180 x1 (10:Int32) ρ else bq_readNumber_180 x1 (8:Int32) ρ)
set_option maxHeartbeats 4000000 in
theorem wq_readNumber_168 (C : rf_C D p s m args meth c cX12_readNumber 3 none) {x1 : Int32} {x2 : Int32} {ρ ρ' : rf_S} {H : Heap} {locs : List Loc} {ls : Array Slot} (h : bq_readNumber_168 x1 x2 ρ = some ρ') (G : rf_G D h0 s ρ H locs) (hl : lv_has ls 3 [(0, .ref h0), (1, .int x1), (2, .int x2)]) : W p l e ({ frames := 2, cells := 0, slots := 0, locals := 40 }) s m args below meth c H locs 0 0 (MQ below (rf_Q D h0 none ρ') args s 0 0 (rf_A h0)) (F0 m 168 ls []) := by
  unfold bq_readNumber_168 at h
  refine lv_iload_n C.1 C.2.1 dX12_readNumber_168 rfl (lv_at hl 1 rfl) ?_
  refine lv_iload_n C.1 C.2.1 dX12_readNumber_169 rfl (lv_at hl 2 rfl) ?_
  refine lv_if_eq (tgt := 178) C.1 C.2.1 dX12_readNumber_170 (by decide) (fun hc => ?_) (fun hc => ?_)
  · rw [if_pos hc] at h
    refine lv_bipush (v := (10:Int32)) C.1 C.2.1 dX12_readNumber_178 (by decide) ?_
    exact wq_readNumber_180 C h G (lv_sub hl [0] rfl)
  · rw [if_neg hc] at h
    refine lv_bipush (v := (8:Int32)) C.1 C.2.1 dX12_readNumber_173 (by decide) ?_
    refine lv_goto (tgt := 180) C.1 C.2.1 dX12_readNumber_175 (by decide) ?_
    exact wq_readNumber_180 C h G (lv_sub hl [0] rfl)
noncomputable def eq_readNumber_76 (x2 : Int32) (x1 : Int32) (ρ : rf_S) : Option (rf_S) := bq_readNumber_168 x1 x2 ρ
noncomputable def bq_readNumber_76 (x1 : Int32) (x2 : Int32) (ρ : rf_S) : Option (rf_S) := (lp (fun z : (Int32 × rf_S) => lq_readNumber_76 x2 z.1 z.2) (x1, ρ)).bind (fun z => eq_readNumber_76 x2 z.1 z.2)
set_option maxHeartbeats 4000000 in
theorem wq_readNumber_76 (C : rf_C D p s m args meth c cX12_readNumber 3 none) {x1 : Int32} {x2 : Int32} {ρ ρ' : rf_S} {H : Heap} {locs : List Loc} {ls : Array Slot} (h : bq_readNumber_76 x1 x2 ρ = some ρ') (G : rf_G D h0 s ρ H locs) (hl : lv_has ls 3 [(0, .ref h0), (1, .int x1), (2, .int x2)]) : W p l e ({ frames := 2, cells := 0, slots := 0, locals := 40 }) s m args below meth c H locs 0 0 (MQ below (rf_Q D h0 none ρ') args s 0 0 (rf_A h0)) (F0 m 76 ls []) := by
  unfold bq_readNumber_76 at h
  obtain ⟨y, hy, h⟩ := bd_some h
  have hE : (fun z : (Int32 × rf_S) => ∀ (H : Heap) (locs : List Loc) (ls : Array Slot), rf_G D h0 s z.2 H locs → lv_has ls 3 [(0, .ref h0), (1, .int z.1), (2, .int x2)] → W p l e ({ frames := 2, cells := 0, slots := 0, locals := 40 }) s m args below meth c H locs 0 0 (MQ below (rf_Q D h0 none ρ') args s 0 0 (rf_A h0)) (F0 m 168 ls [])) y := by
    intro H locs ls G hl
    obtain ⟨x1, ρ⟩ := y
    dsimp only at h G hl
    unfold eq_readNumber_76 at h
    exact wq_readNumber_168 C h G (lv_sub hl [0, 1, 2] rfl)
  refine lp_recE (fun z : (Int32 × rf_S) => ∀ (H : Heap) (locs : List Loc) (ls : Array Slot), rf_G D h0 s z.2 H locs → lv_has ls 3 [(0, .ref h0), (1, .int z.1), (2, .int x2)] → W p l e ({ frames := 2, cells := 0, slots := 0, locals := 40 }) s m args below meth c H locs 0 0 (MQ below (rf_Q D h0 none ρ') args s 0 0 (rf_A h0)) (F0 m 76 ls [])) (fun z : (Int32 × rf_S) => ∀ (H : Heap) (locs : List Loc) (ls : Array Slot), rf_G D h0 s z.2 H locs → lv_has ls 3 [(0, .ref h0), (1, .int z.1), (2, .int x2)] → W p l e ({ frames := 2, cells := 0, slots := 0, locals := 40 }) s m args below meth c H locs 0 0 (MQ below (rf_Q D h0 none ρ') args s 0 0 (rf_A h0)) (F0 m 168 ls [])) ?_ _ _ hy hE _ _ _ G hl
  clear hE hy G hl h
  intro z o h hP H locs ls G hl
  obtain ⟨x1, ρ⟩ := z
  dsimp only at h G hl
  unfold lq_readNumber_76 at h
  refine lv_iload_n C.1 C.2.1 dX12_readNumber_76 rfl (lv_at hl 2 rfl) ?_
  refine lv_if_eq (tgt := 97) C.1 C.2.1 dX12_readNumber_77 (by decide) (fun hc => ?_) (fun hc => ?_)
  · rw [if_pos hc] at h
    refine lv_aload_n C.1 C.2.1 dX12_readNumber_97 rfl (lv_at hl 0 rfl) ?_
    refine lv_aload_n C.1 C.2.1 dX12_readNumber_98 rfl (lv_at hl 0 rfl) ?_
    refine gf_48 C G dX12_readNumber_99 ?_
    obtain ⟨r_6, ρ_5, hq, h⟩ := bd2_some h
    refine rf_callV (rest := []) C G cw_octet [.int (ρ.1 0 48)] _ (kq_octet l D h0 hq) (Nat.le_of_ble_eq_true rfl) (Nat.le_of_ble_eq_true rfl) rfl rfl hl.1 (Nat.le_of_ble_eq_true rfl) (Nat.zero_le _) (Nat.zero_le _) dX12_readNumber_102 (fun H locs G => ?_)
    refine W.eq (g2 := F0 m 105 ls [.int r_6]) rfl ?_
    obtain ⟨r_8, ρ_7, hq, h⟩ := bd2_some h
    refine rf_callS (rest := []) C G cw_isFigure [.int r_6] _ (kq_isFigure l D h0 hq) (Nat.le_of_ble_eq_true rfl) (Nat.le_of_ble_eq_true rfl) rfl rfl hl.1 (Nat.le_of_ble_eq_true rfl) (Nat.zero_le _) (Nat.zero_le _) dX12_readNumber_105 (fun H locs G => ?_)
    refine W.eq (g2 := F0 m 108 ls [.int r_8]) rfl ?_
    refine lv_if_eq (tgt := 168) C.1 C.2.1 dX12_readNumber_108 (by decide) (fun hc => ?_) (fun hc => ?_)
    · rw [if_pos hc] at h
      cases h
      exact hP _ _ _ G (lv_sub hl [0, 1, 2] rfl)
    · rw [if_neg hc] at h
      exact wq_readNumber_111i76 C h hP G (lv_sub hl [0, 1, 2] rfl)
  · rw [if_neg hc] at h
    refine lv_aload_n C.1 C.2.1 dX12_readNumber_80 rfl (lv_at hl 0 rfl) ?_
    refine lv_aload_n C.1 C.2.1 dX12_readNumber_81 rfl (lv_at hl 0 rfl) ?_
    refine gf_48 C G dX12_readNumber_82 ?_
    obtain ⟨r_17, ρ_16, hq, h⟩ := bd2_some h
    refine rf_callV (rest := []) C G cw_octet [.int (ρ.1 0 48)] _ (kq_octet l D h0 hq) (Nat.le_of_ble_eq_true rfl) (Nat.le_of_ble_eq_true rfl) rfl rfl hl.1 (Nat.le_of_ble_eq_true rfl) (Nat.zero_le _) (Nat.zero_le _) dX12_readNumber_85 (fun H locs G => ?_)
    refine W.eq (g2 := F0 m 88 ls [.int r_17]) rfl ?_
    obtain ⟨r_19, ρ_18, hq, h⟩ := bd2_some h
    refine rf_callS (rest := []) C G cw_hexOf [.int r_17] _ (kq_hexOf l D h0 hq) (Nat.le_of_ble_eq_true rfl) (Nat.le_of_ble_eq_true rfl) rfl rfl hl.1 (Nat.le_of_ble_eq_true rfl) (Nat.zero_le _) (Nat.zero_le _) dX12_readNumber_88 (fun H locs G => ?_)
    refine W.eq (g2 := F0 m 91 ls [.int r_19]) rfl ?_
    refine lv_if_lt (tgt := 168) C.1 C.2.1 dX12_readNumber_91 (by decide) (fun hc => ?_) (fun hc => ?_)
    · rw [if_pos hc] at h
      cases h
      exact hP _ _ _ G (lv_sub hl [0, 1, 2] rfl)
    · rw [if_neg hc] at h
      refine lv_goto (tgt := 111) C.1 C.2.1 dX12_readNumber_94 (by decide) ?_
      exact wq_readNumber_111i76 C h hP G (lv_sub hl [0, 1, 2] rfl)
noncomputable def bq_readNumber_61 (x1 : Int32) (v0 : Int32) (ρ : rf_S) : Option (rf_S) := (if v0 = 0 then bq_readNumber_76 x1 v0 ρ else vl (rf_w ρ 0 48 ((ρ.1 0 48) + (2:Int32))) (fun ρ_21 => bq_readNumber_76 x1 v0 ρ_21))
set_option maxHeartbeats 4000000 in
theorem wq_readNumber_61 (C : rf_C D p s m args meth c cX12_readNumber 3 none) {x1 : Int32} {v0 : Int32} {ρ ρ' : rf_S} {H : Heap} {locs : List Loc} {ls : Array Slot} (h : bq_readNumber_61 x1 v0 ρ = some ρ') (G : rf_G D h0 s ρ H locs) (hl : lv_has ls 3 [(0, .ref h0), (1, .int x1)]) : W p l e ({ frames := 2, cells := 0, slots := 0, locals := 40 }) s m args below meth c H locs 0 0 (MQ below (rf_Q D h0 none ρ') args s 0 0 (rf_A h0)) (F0 m 61 ls [.int v0]) := by
  unfold bq_readNumber_61 at h
  refine lv_istore_n (lv' := [(2, .int v0), (0, .ref h0), (1, .int x1)]) C.1 C.2.1 dX12_readNumber_61 rfl hl (by decide) rfl (fun ls hl => ?_)
  refine lv_iload_n C.1 C.2.1 dX12_readNumber_62 rfl (lv_at hl 0 rfl) ?_
  refine lv_if_eq (tgt := 76) C.1 C.2.1 dX12_readNumber_63 (by decide) (fun hc => ?_) (fun hc => ?_)
  · rw [if_pos hc] at h
    exact wq_readNumber_76 C h G (lv_sub hl [1, 2, 0] rfl)
  · rw [if_neg hc] at h
    refine lv_aload_n C.1 C.2.1 dX12_readNumber_66 rfl (lv_at hl 1 rfl) ?_
    refine lv_dup C.1 C.2.1 dX12_readNumber_67 rfl ?_
    refine gf_48 C G dX12_readNumber_68 ?_
    refine lv_iconst (v := (2:Int32)) C.1 C.2.1 dX12_readNumber_71 (by decide) ?_
    refine lv_iadd C.1 C.2.1 dX12_readNumber_72 ?_
    refine pf_48 C G dX12_readNumber_73 (fun H locs G => ?_)
    refine rf_nm G h (fun ρ_21 G h => ?_)
    exact wq_readNumber_76 C h G (lv_sub hl [1, 2, 0] rfl)
noncomputable def bq_readNumber_60 (x1 : Int32) (ρ : rf_S) : Option (rf_S) := bq_readNumber_61 x1 (0:Int32) ρ
set_option maxHeartbeats 4000000 in
theorem wq_readNumber_60 (C : rf_C D p s m args meth c cX12_readNumber 3 none) {x1 : Int32} {ρ ρ' : rf_S} {H : Heap} {locs : List Loc} {ls : Array Slot} (h : bq_readNumber_60 x1 ρ = some ρ') (G : rf_G D h0 s ρ H locs) (hl : lv_has ls 3 [(0, .ref h0), (1, .int x1)]) : W p l e ({ frames := 2, cells := 0, slots := 0, locals := 40 }) s m args below meth c H locs 0 0 (MQ below (rf_Q D h0 none ρ') args s 0 0 (rf_A h0)) (F0 m 60 ls []) := by
  unfold bq_readNumber_60 at h
  refine lv_iconst (v := (0:Int32)) C.1 C.2.1 dX12_readNumber_60 (by decide) ?_
  exact wq_readNumber_61 C h G (lv_sub hl [0, 1] rfl)
noncomputable def bq_readNumber_0  (ρ : rf_S) : Option (rf_S) := vl (rf_w ρ 0 44 (2:Int32)) (fun ρ_1 => vl (rf_wl ρ_1 0 47 (0:Int64)) (fun ρ_2 => bd2 (fq_octet (ρ_2.1 0 48) ρ_2) (fun r_4 ρ_3 => (if r_4 = (48:Int32) then bd2 (fq_octet ((ρ_3.1 0 48) + (1:Int32)) ρ_3) (fun r_23 ρ_22 => (if r_23 = (120:Int32) then bd2 (fq_octet ((ρ_22.1 0 48) + (2:Int32)) ρ_22) (fun r_25 ρ_24 => bd2 (fq_hexOf r_25 ρ_24) (fun r_27 ρ_26 => (if r_27 < 0 then bq_readNumber_60 (0:Int32) ρ_26 else bq_readNumber_61 (0:Int32) (1:Int32) ρ_26))) else bq_readNumber_60 (0:Int32) ρ_22)) else bq_readNumber_60 (0:Int32) ρ_3))))
set_option maxHeartbeats 4000000 in
theorem wq_readNumber_0 (C : rf_C D p s m args meth c cX12_readNumber 3 none) {ρ ρ' : rf_S} {H : Heap} {locs : List Loc} {ls : Array Slot} (h : bq_readNumber_0 ρ = some ρ') (G : rf_G D h0 s ρ H locs) (hl : lv_has ls 3 [(0, .ref h0)]) : W p l e ({ frames := 2, cells := 0, slots := 0, locals := 40 }) s m args below meth c H locs 0 0 (MQ below (rf_Q D h0 none ρ') args s 0 0 (rf_A h0)) (F0 m 0 ls []) := by
  unfold bq_readNumber_0 at h
  refine lv_aload_n C.1 C.2.1 dX12_readNumber_0 rfl (lv_at hl 0 rfl) ?_
  refine lv_iconst (v := (2:Int32)) C.1 C.2.1 dX12_readNumber_1 (by decide) ?_
  refine pf_44 C G dX12_readNumber_2 (fun H locs G => ?_)
  refine rf_nm G h (fun ρ_1 G h => ?_)
  refine lv_aload_n C.1 C.2.1 dX12_readNumber_5 rfl (lv_at hl 0 rfl) ?_
  refine lv_lconst (v := (0:Int64)) C.1 C.2.1 dX12_readNumber_6 (by decide) ?_
  refine pf_47 C G dX12_readNumber_7 (fun H locs G => ?_)
  refine rf_nm G h (fun ρ_2 G h => ?_)
  refine lv_iconst (v := (0:Int32)) C.1 C.2.1 dX12_readNumber_10 (by decide) ?_
  refine lv_istore_n (lv' := [(1, .int (0:Int32)), (0, .ref h0)]) C.1 C.2.1 dX12_readNumber_11 rfl hl (by decide) rfl (fun ls hl => ?_)
  refine lv_aload_n C.1 C.2.1 dX12_readNumber_12 rfl (lv_at hl 1 rfl) ?_
  refine lv_aload_n C.1 C.2.1 dX12_readNumber_13 rfl (lv_at hl 1 rfl) ?_
  refine gf_48 C G dX12_readNumber_14 ?_
  obtain ⟨r_4, ρ_3, hq, h⟩ := bd2_some h
  refine rf_callV (rest := []) C G cw_octet [.int (ρ_2.1 0 48)] _ (kq_octet l D h0 hq) (Nat.le_of_ble_eq_true rfl) (Nat.le_of_ble_eq_true rfl) rfl rfl hl.1 (Nat.le_of_ble_eq_true rfl) (Nat.zero_le _) (Nat.zero_le _) dX12_readNumber_17 (fun H locs G => ?_)
  refine W.eq (g2 := F0 m 20 ls [.int r_4]) rfl ?_
  refine lv_bipush (v := (48:Int32)) C.1 C.2.1 dX12_readNumber_20 (by decide) ?_
  refine lv_icmp_ne (tgt := 60) C.1 C.2.1 dX12_readNumber_22 (by decide) (fun hc => ?_) (fun hc => ?_)
  · rw [if_neg hc] at h
    exact wq_readNumber_60 C h G (lv_sub hl [1, 0] rfl)
  · rw [if_pos hc] at h
    refine lv_aload_n C.1 C.2.1 dX12_readNumber_25 rfl (lv_at hl 1 rfl) ?_
    refine lv_aload_n C.1 C.2.1 dX12_readNumber_26 rfl (lv_at hl 1 rfl) ?_
    refine gf_48 C G dX12_readNumber_27 ?_
    refine lv_iconst (v := (1:Int32)) C.1 C.2.1 dX12_readNumber_30 (by decide) ?_
    refine lv_iadd C.1 C.2.1 dX12_readNumber_31 ?_
    obtain ⟨r_23, ρ_22, hq, h⟩ := bd2_some h
    refine rf_callV (rest := []) C G cw_octet [.int ((ρ_3.1 0 48) + (1:Int32))] _ (kq_octet l D h0 hq) (Nat.le_of_ble_eq_true rfl) (Nat.le_of_ble_eq_true rfl) rfl rfl hl.1 (Nat.le_of_ble_eq_true rfl) (Nat.zero_le _) (Nat.zero_le _) dX12_readNumber_32 (fun H locs G => ?_)
    refine W.eq (g2 := F0 m 35 ls [.int r_23]) rfl ?_
    refine lv_bipush (v := (120:Int32)) C.1 C.2.1 dX12_readNumber_35 (by decide) ?_
    refine lv_icmp_ne (tgt := 60) C.1 C.2.1 dX12_readNumber_37 (by decide) (fun hc => ?_) (fun hc => ?_)
    · rw [if_neg hc] at h
      exact wq_readNumber_60 C h G (lv_sub hl [1, 0] rfl)
    · rw [if_pos hc] at h
      refine lv_aload_n C.1 C.2.1 dX12_readNumber_40 rfl (lv_at hl 1 rfl) ?_
      refine lv_aload_n C.1 C.2.1 dX12_readNumber_41 rfl (lv_at hl 1 rfl) ?_
      refine gf_48 C G dX12_readNumber_42 ?_
      refine lv_iconst (v := (2:Int32)) C.1 C.2.1 dX12_readNumber_45 (by decide) ?_
      refine lv_iadd C.1 C.2.1 dX12_readNumber_46 ?_
      obtain ⟨r_25, ρ_24, hq, h⟩ := bd2_some h
      refine rf_callV (rest := []) C G cw_octet [.int ((ρ_22.1 0 48) + (2:Int32))] _ (kq_octet l D h0 hq) (Nat.le_of_ble_eq_true rfl) (Nat.le_of_ble_eq_true rfl) rfl rfl hl.1 (Nat.le_of_ble_eq_true rfl) (Nat.zero_le _) (Nat.zero_le _) dX12_readNumber_47 (fun H locs G => ?_)
      refine W.eq (g2 := F0 m 50 ls [.int r_25]) rfl ?_
      obtain ⟨r_27, ρ_26, hq, h⟩ := bd2_some h
      refine rf_callS (rest := []) C G cw_hexOf [.int r_25] _ (kq_hexOf l D h0 hq) (Nat.le_of_ble_eq_true rfl) (Nat.le_of_ble_eq_true rfl) rfl rfl hl.1 (Nat.le_of_ble_eq_true rfl) (Nat.zero_le _) (Nat.zero_le _) dX12_readNumber_50 (fun H locs G => ?_)
      refine W.eq (g2 := F0 m 53 ls [.int r_27]) rfl ?_
      refine lv_if_lt (tgt := 60) C.1 C.2.1 dX12_readNumber_53 (by decide) (fun hc => ?_) (fun hc => ?_)
      · rw [if_pos hc] at h
        exact wq_readNumber_60 C h G (lv_sub hl [1, 0] rfl)
      · rw [if_neg hc] at h
        refine lv_iconst (v := (1:Int32)) C.1 C.2.1 dX12_readNumber_56 (by decide) ?_
        refine lv_goto (tgt := 61) C.1 C.2.1 dX12_readNumber_57 (by decide) ?_
        exact wq_readNumber_61 C h G (lv_sub hl [1, 0] rfl)
noncomputable def fq_readNumber  (ρ : rf_S) : Option (rf_S) := bq_readNumber_0 ρ
theorem kq_readNumber (l : Launch) (D : rf_D) (h0 : Nat) {ρ ρ' : rf_S} (h : fq_readNumber ρ = some ρ') : rf_Met l D h0 yX12_readNumber cX12_readNumber 3 none 2 40 [.ref h0] ρ none ρ' :=
  rf_of rfl cc_readNumber (Nat.le_of_ble_eq_true rfl) (fun p e s m args below meth c ls C G hl => wq_readNumber_0 C h G hl)
abbrev cX12_next : ByteArray := prog_14_method_23_code
def yX12_next : MethodName := ⟨RX12, "next", "()V"⟩
theorem dX12_next_0 : decode cX12_next 0 = .ok (.aload_n 0, 1) := by decide +kernel
theorem dX12_next_1 : decode cX12_next 1 = .ok (.invokevirtual 351, 3) := by decide +kernel
theorem dX12_next_4 : decode cX12_next 4 = .ok (.aload_n 0, 1) := by decide +kernel
theorem dX12_next_5 : decode cX12_next 5 = .ok (.aload_n 0, 1) := by decide +kernel
theorem dX12_next_6 : decode cX12_next 6 = .ok (.getfield 345, 3) := by decide +kernel
theorem dX12_next_9 : decode cX12_next 9 = .ok (.putfield 354, 3) := by decide +kernel
theorem dX12_next_12 : decode cX12_next 12 = .ok (.aload_n 0, 1) := by decide +kernel
theorem dX12_next_13 : decode cX12_next 13 = .ok (.aload_n 0, 1) := by decide +kernel
theorem dX12_next_14 : decode cX12_next 14 = .ok (.getfield 345, 3) := by decide +kernel
theorem dX12_next_17 : decode cX12_next 17 = .ok (.invokevirtual 348, 3) := by decide +kernel
theorem dX12_next_20 : decode cX12_next 20 = .ok (.istore_n 1, 1) := by decide +kernel
theorem dX12_next_21 : decode cX12_next 21 = .ok (.iload_n 1, 1) := by decide +kernel
theorem dX12_next_22 : decode cX12_next 22 = .ok (.ifCond .ge 11, 3) := by decide +kernel
theorem dX12_next_25 : decode cX12_next 25 = .ok (.aload_n 0, 1) := by decide +kernel
theorem dX12_next_26 : decode cX12_next 26 = .ok (.iconst 0, 1) := by decide +kernel
theorem dX12_next_27 : decode cX12_next 27 = .ok (.putfield 357, 3) := by decide +kernel
theorem dX12_next_30 : decode cX12_next 30 = .ok (.goto 88, 3) := by decide +kernel
theorem dX12_next_33 : decode cX12_next 33 = .ok (.iload_n 1, 1) := by decide +kernel
theorem dX12_next_34 : decode cX12_next 34 = .ok (.invokestatic 360, 3) := by decide +kernel
theorem dX12_next_37 : decode cX12_next 37 = .ok (.ifCond .eq 10, 3) := by decide +kernel
theorem dX12_next_40 : decode cX12_next 40 = .ok (.aload_n 0, 1) := by decide +kernel
theorem dX12_next_41 : decode cX12_next 41 = .ok (.invokevirtual 363, 3) := by decide +kernel
theorem dX12_next_44 : decode cX12_next 44 = .ok (.goto 74, 3) := by decide +kernel
theorem dX12_next_47 : decode cX12_next 47 = .ok (.iload_n 1, 1) := by decide +kernel
theorem dX12_next_48 : decode cX12_next 48 = .ok (.invokestatic 341, 3) := by decide +kernel
theorem dX12_next_51 : decode cX12_next 51 = .ok (.ifCond .eq 10, 3) := by decide +kernel
theorem dX12_next_54 : decode cX12_next 54 = .ok (.aload_n 0, 1) := by decide +kernel
theorem dX12_next_55 : decode cX12_next 55 = .ok (.invokevirtual 366, 3) := by decide +kernel
theorem dX12_next_58 : decode cX12_next 58 = .ok (.goto 60, 3) := by decide +kernel
theorem dX12_next_61 : decode cX12_next 61 = .ok (.aload_n 0, 1) := by decide +kernel
theorem dX12_next_62 : decode cX12_next 62 = .ok (.iload_n 1, 1) := by decide +kernel
theorem dX12_next_63 : decode cX12_next 63 = .ok (.bipush 44, 2) := by decide +kernel
theorem dX12_next_65 : decode cX12_next 65 = .ok (.if_icmp .ne 7, 3) := by decide +kernel
theorem dX12_next_68 : decode cX12_next 68 = .ok (.iconst 3, 1) := by decide +kernel
theorem dX12_next_69 : decode cX12_next 69 = .ok (.goto 36, 3) := by decide +kernel
theorem dX12_next_72 : decode cX12_next 72 = .ok (.iload_n 1, 1) := by decide +kernel
theorem dX12_next_73 : decode cX12_next 73 = .ok (.bipush 58, 2) := by decide +kernel
theorem dX12_next_75 : decode cX12_next 75 = .ok (.if_icmp .ne 7, 3) := by decide +kernel
theorem dX12_next_78 : decode cX12_next 78 = .ok (.iconst 4, 1) := by decide +kernel
theorem dX12_next_79 : decode cX12_next 79 = .ok (.goto 26, 3) := by decide +kernel
theorem dX12_next_82 : decode cX12_next 82 = .ok (.iload_n 1, 1) := by decide +kernel
theorem dX12_next_83 : decode cX12_next 83 = .ok (.bipush 45, 2) := by decide +kernel
theorem dX12_next_85 : decode cX12_next 85 = .ok (.if_icmp .ne 7, 3) := by decide +kernel
theorem dX12_next_88 : decode cX12_next 88 = .ok (.iconst 5, 1) := by decide +kernel
theorem dX12_next_89 : decode cX12_next 89 = .ok (.goto 16, 3) := by decide +kernel
theorem dX12_next_92 : decode cX12_next 92 = .ok (.iload_n 1, 1) := by decide +kernel
theorem dX12_next_93 : decode cX12_next 93 = .ok (.bipush 10, 2) := by decide +kernel
theorem dX12_next_95 : decode cX12_next 95 = .ok (.if_icmp .ne 8, 3) := by decide +kernel
theorem dX12_next_98 : decode cX12_next 98 = .ok (.bipush 6, 2) := by decide +kernel
theorem dX12_next_100 : decode cX12_next 100 = .ok (.goto 5, 3) := by decide +kernel
theorem dX12_next_103 : decode cX12_next 103 = .ok (.bipush 7, 2) := by decide +kernel
theorem dX12_next_105 : decode cX12_next 105 = .ok (.putfield 357, 3) := by decide +kernel
theorem dX12_next_108 : decode cX12_next 108 = .ok (.aload_n 0, 1) := by decide +kernel
theorem dX12_next_109 : decode cX12_next 109 = .ok (.dup, 1) := by decide +kernel
theorem dX12_next_110 : decode cX12_next 110 = .ok (.getfield 345, 3) := by decide +kernel
theorem dX12_next_113 : decode cX12_next 113 = .ok (.iconst 1, 1) := by decide +kernel
theorem dX12_next_114 : decode cX12_next 114 = .ok (.iadd, 1) := by decide +kernel
theorem dX12_next_115 : decode cX12_next 115 = .ok (.putfield 345, 3) := by decide +kernel
theorem dX12_next_118 : decode cX12_next 118 = .ok (.return_, 1) := by decide +kernel
theorem cc_next : Cond.code yX12_next cX12_next 2 none ∈ rf_tb := rf_at 1913 (by decide +kernel) (by decide +kernel)
theorem cw_next : rf_wV yX12_next cX12_next 2 none 392 0 := ⟨⟨rf_at 1910 (by decide +kernel) (by decide +kernel), rf_at 1912 (by decide +kernel) (by decide +kernel), rf_sel (q := (yX12_next, 122)) 80 (by decide +kernel) (by decide +kernel), cc_next⟩, rfl, by decide +kernel⟩
noncomputable def bq_next_105 (v1 : Int32) (ρ : rf_S) : Option (rf_S) := vl (rf_w ρ 0 44 v1) (fun ρ_9 => vl (rf_w ρ_9 0 48 ((ρ_9.1 0 48) + (1:Int32))) (fun ρ_10 => some ρ_10))
set_option maxHeartbeats 4000000 in
theorem wq_next_105 (C : rf_C D p s m args meth c cX12_next 2 none) {v1 : Int32} {ρ ρ' : rf_S} {H : Heap} {locs : List Loc} {ls : Array Slot} (h : bq_next_105 v1 ρ = some ρ') (G : rf_G D h0 s ρ H locs) (hl : lv_has ls 2 [(0, .ref h0)]) : W p l e ({ frames := 3, cells := 0, slots := 0, locals := 62 }) s m args below meth c H locs 0 0 (MQ below (rf_Q D h0 none ρ') args s 0 0 (rf_A h0)) (F0 m 105 ls [.int v1, .ref h0]) := by
  unfold bq_next_105 at h
  refine pf_44 C G dX12_next_105 (fun H locs G => ?_)
  refine rf_nm G h (fun ρ_9 G h => ?_)
  refine lv_aload_n C.1 C.2.1 dX12_next_108 rfl (lv_at hl 0 rfl) ?_
  refine lv_dup C.1 C.2.1 dX12_next_109 rfl ?_
  refine gf_48 C G dX12_next_110 ?_
  refine lv_iconst (v := (1:Int32)) C.1 C.2.1 dX12_next_113 (by decide) ?_
  refine lv_iadd C.1 C.2.1 dX12_next_114 ?_
  refine pf_48 C G dX12_next_115 (fun H locs G => ?_)
  refine rf_nm G h (fun ρ_10 G h => ?_)
  exact rf_vret C G h dX12_next_118
noncomputable def bq_next_0  (ρ : rf_S) : Option (rf_S) := bd1 (fq_pass ρ) (fun ρ_1 => vl (rf_w ρ_1 0 45 (ρ_1.1 0 48)) (fun ρ_2 => bd2 (fq_octet (ρ_2.1 0 48) ρ_2) (fun r_4 ρ_3 => (if 0 ≤ r_4 then bd2 (fq_isLetter r_4 ρ_3) (fun r_6 ρ_5 => (if r_6 = 0 then bd2 (fq_isFigure r_4 ρ_5) (fun r_8 ρ_7 => (if r_8 = 0 then (if r_4 = (44:Int32) then bq_next_105 (3:Int32) ρ_7 else (if r_4 = (58:Int32) then bq_next_105 (4:Int32) ρ_7 else (if r_4 = (45:Int32) then bq_next_105 (5:Int32) ρ_7 else (if r_4 = (10:Int32) then bq_next_105 (6:Int32) ρ_7 else bq_next_105 (7:Int32) ρ_7)))) else bd1 (fq_readNumber ρ_7) (fun ρ_11 => some ρ_11))) else bd1 (fq_readName ρ_5) (fun ρ_12 => some ρ_12))) else vl (rf_w ρ_3 0 44 (0:Int32)) (fun ρ_13 => some ρ_13)))))
set_option maxHeartbeats 4000000 in
theorem wq_next_0 (C : rf_C D p s m args meth c cX12_next 2 none) {ρ ρ' : rf_S} {H : Heap} {locs : List Loc} {ls : Array Slot} (h : bq_next_0 ρ = some ρ') (G : rf_G D h0 s ρ H locs) (hl : lv_has ls 2 [(0, .ref h0)]) : W p l e ({ frames := 3, cells := 0, slots := 0, locals := 62 }) s m args below meth c H locs 0 0 (MQ below (rf_Q D h0 none ρ') args s 0 0 (rf_A h0)) (F0 m 0 ls []) := by
  unfold bq_next_0 at h
  refine lv_aload_n C.1 C.2.1 dX12_next_0 rfl (lv_at hl 0 rfl) ?_
  obtain ⟨ρ_1, hq, h⟩ := bd1_some h
  refine rf_callV (rest := []) C G cw_pass [] _ (kq_pass l D h0 hq) (Nat.le_of_ble_eq_true rfl) (Nat.le_of_ble_eq_true rfl) rfl rfl hl.1 (Nat.le_of_ble_eq_true rfl) (Nat.zero_le _) (Nat.zero_le _) dX12_next_1 (fun H locs G => ?_)
  refine W.eq (g2 := F0 m 4 ls []) rfl ?_
  refine lv_aload_n C.1 C.2.1 dX12_next_4 rfl (lv_at hl 0 rfl) ?_
  refine lv_aload_n C.1 C.2.1 dX12_next_5 rfl (lv_at hl 0 rfl) ?_
  refine gf_48 C G dX12_next_6 ?_
  refine pf_45 C G dX12_next_9 (fun H locs G => ?_)
  refine rf_nm G h (fun ρ_2 G h => ?_)
  refine lv_aload_n C.1 C.2.1 dX12_next_12 rfl (lv_at hl 0 rfl) ?_
  refine lv_aload_n C.1 C.2.1 dX12_next_13 rfl (lv_at hl 0 rfl) ?_
  refine gf_48 C G dX12_next_14 ?_
  obtain ⟨r_4, ρ_3, hq, h⟩ := bd2_some h
  refine rf_callV (rest := []) C G cw_octet [.int (ρ_2.1 0 48)] _ (kq_octet l D h0 hq) (Nat.le_of_ble_eq_true rfl) (Nat.le_of_ble_eq_true rfl) rfl rfl hl.1 (Nat.le_of_ble_eq_true rfl) (Nat.zero_le _) (Nat.zero_le _) dX12_next_17 (fun H locs G => ?_)
  refine W.eq (g2 := F0 m 20 ls [.int r_4]) rfl ?_
  refine lv_istore_n (lv' := [(1, .int r_4), (0, .ref h0)]) C.1 C.2.1 dX12_next_20 rfl hl (by decide) rfl (fun ls hl => ?_)
  refine lv_iload_n C.1 C.2.1 dX12_next_21 rfl (lv_at hl 0 rfl) ?_
  refine lv_if_ge (tgt := 33) C.1 C.2.1 dX12_next_22 (by decide) (fun hc => ?_) (fun hc => ?_)
  · rw [if_pos hc] at h
    refine lv_iload_n C.1 C.2.1 dX12_next_33 rfl (lv_at hl 0 rfl) ?_
    obtain ⟨r_6, ρ_5, hq, h⟩ := bd2_some h
    refine rf_callS (rest := []) C G cw_isLetter [.int r_4] _ (kq_isLetter l D h0 hq) (Nat.le_of_ble_eq_true rfl) (Nat.le_of_ble_eq_true rfl) rfl rfl hl.1 (Nat.le_of_ble_eq_true rfl) (Nat.zero_le _) (Nat.zero_le _) dX12_next_34 (fun H locs G => ?_)
    refine W.eq (g2 := F0 m 37 ls [.int r_6]) rfl ?_
    refine lv_if_eq (tgt := 47) C.1 C.2.1 dX12_next_37 (by decide) (fun hc => ?_) (fun hc => ?_)
    · rw [if_pos hc] at h
      refine lv_iload_n C.1 C.2.1 dX12_next_47 rfl (lv_at hl 0 rfl) ?_
      obtain ⟨r_8, ρ_7, hq, h⟩ := bd2_some h
      refine rf_callS (rest := []) C G cw_isFigure [.int r_4] _ (kq_isFigure l D h0 hq) (Nat.le_of_ble_eq_true rfl) (Nat.le_of_ble_eq_true rfl) rfl rfl hl.1 (Nat.le_of_ble_eq_true rfl) (Nat.zero_le _) (Nat.zero_le _) dX12_next_48 (fun H locs G => ?_)
      refine W.eq (g2 := F0 m 51 ls [.int r_8]) rfl ?_
      refine lv_if_eq (tgt := 61) C.1 C.2.1 dX12_next_51 (by decide) (fun hc => ?_) (fun hc => ?_)
      · rw [if_pos hc] at h
        refine lv_aload_n C.1 C.2.1 dX12_next_61 rfl (lv_at hl 1 rfl) ?_
        refine lv_iload_n C.1 C.2.1 dX12_next_62 rfl (lv_at hl 0 rfl) ?_
        refine lv_bipush (v := (44:Int32)) C.1 C.2.1 dX12_next_63 (by decide) ?_
        refine lv_icmp_ne (tgt := 72) C.1 C.2.1 dX12_next_65 (by decide) (fun hc => ?_) (fun hc => ?_)
        · rw [if_neg hc] at h
          refine lv_iload_n C.1 C.2.1 dX12_next_72 rfl (lv_at hl 0 rfl) ?_
          refine lv_bipush (v := (58:Int32)) C.1 C.2.1 dX12_next_73 (by decide) ?_
          refine lv_icmp_ne (tgt := 82) C.1 C.2.1 dX12_next_75 (by decide) (fun hc => ?_) (fun hc => ?_)
          · rw [if_neg hc] at h
            refine lv_iload_n C.1 C.2.1 dX12_next_82 rfl (lv_at hl 0 rfl) ?_
            refine lv_bipush (v := (45:Int32)) C.1 C.2.1 dX12_next_83 (by decide) ?_
            refine lv_icmp_ne (tgt := 92) C.1 C.2.1 dX12_next_85 (by decide) (fun hc => ?_) (fun hc => ?_)
            · rw [if_neg hc] at h
              refine lv_iload_n C.1 C.2.1 dX12_next_92 rfl (lv_at hl 0 rfl) ?_
              refine lv_bipush (v := (10:Int32)) C.1 C.2.1 dX12_next_93 (by decide) ?_
              refine lv_icmp_ne (tgt := 103) C.1 C.2.1 dX12_next_95 (by decide) (fun hc => ?_) (fun hc => ?_)
              · rw [if_neg hc] at h
                refine lv_bipush (v := (7:Int32)) C.1 C.2.1 dX12_next_103 (by decide) ?_
                exact wq_next_105 C h G (lv_sub hl [1] rfl)
              · rw [if_pos hc] at h
                refine lv_bipush (v := (6:Int32)) C.1 C.2.1 dX12_next_98 (by decide) ?_
                refine lv_goto (tgt := 105) C.1 C.2.1 dX12_next_100 (by decide) ?_
                exact wq_next_105 C h G (lv_sub hl [1] rfl)
            · rw [if_pos hc] at h
              refine lv_iconst (v := (5:Int32)) C.1 C.2.1 dX12_next_88 (by decide) ?_
              refine lv_goto (tgt := 105) C.1 C.2.1 dX12_next_89 (by decide) ?_
              exact wq_next_105 C h G (lv_sub hl [1] rfl)
          · rw [if_pos hc] at h
            refine lv_iconst (v := (4:Int32)) C.1 C.2.1 dX12_next_78 (by decide) ?_
            refine lv_goto (tgt := 105) C.1 C.2.1 dX12_next_79 (by decide) ?_
            exact wq_next_105 C h G (lv_sub hl [1] rfl)
        · rw [if_pos hc] at h
          refine lv_iconst (v := (3:Int32)) C.1 C.2.1 dX12_next_68 (by decide) ?_
          refine lv_goto (tgt := 105) C.1 C.2.1 dX12_next_69 (by decide) ?_
          exact wq_next_105 C h G (lv_sub hl [1] rfl)
      · rw [if_neg hc] at h
        refine lv_aload_n C.1 C.2.1 dX12_next_54 rfl (lv_at hl 1 rfl) ?_
        obtain ⟨ρ_11, hq, h⟩ := bd1_some h
        refine rf_callV (rest := []) C G cw_readNumber [] _ (kq_readNumber l D h0 hq) (Nat.le_of_ble_eq_true rfl) (Nat.le_of_ble_eq_true rfl) rfl rfl hl.1 (Nat.le_of_ble_eq_true rfl) (Nat.zero_le _) (Nat.zero_le _) dX12_next_55 (fun H locs G => ?_)
        refine W.eq (g2 := F0 m 58 ls []) rfl ?_
        refine lv_goto (tgt := 118) C.1 C.2.1 dX12_next_58 (by decide) ?_
        exact rf_vret C G h dX12_next_118
    · rw [if_neg hc] at h
      refine lv_aload_n C.1 C.2.1 dX12_next_40 rfl (lv_at hl 1 rfl) ?_
      obtain ⟨ρ_12, hq, h⟩ := bd1_some h
      refine rf_callV (rest := []) C G cw_readName [] _ (kq_readName l D h0 hq) (Nat.le_of_ble_eq_true rfl) (Nat.le_of_ble_eq_true rfl) rfl rfl hl.1 (Nat.le_of_ble_eq_true rfl) (Nat.zero_le _) (Nat.zero_le _) dX12_next_41 (fun H locs G => ?_)
      refine W.eq (g2 := F0 m 44 ls []) rfl ?_
      refine lv_goto (tgt := 118) C.1 C.2.1 dX12_next_44 (by decide) ?_
      exact rf_vret C G h dX12_next_118
  · rw [if_neg hc] at h
    refine lv_aload_n C.1 C.2.1 dX12_next_25 rfl (lv_at hl 1 rfl) ?_
    refine lv_iconst (v := (0:Int32)) C.1 C.2.1 dX12_next_26 (by decide) ?_
    refine pf_44 C G dX12_next_27 (fun H locs G => ?_)
    refine rf_nm G h (fun ρ_13 G h => ?_)
    refine lv_goto (tgt := 118) C.1 C.2.1 dX12_next_30 (by decide) ?_
    exact rf_vret C G h dX12_next_118
noncomputable def fq_next  (ρ : rf_S) : Option (rf_S) := bq_next_0 ρ
theorem kq_next (l : Launch) (D : rf_D) (h0 : Nat) {ρ ρ' : rf_S} (h : fq_next ρ = some ρ') : rf_Met l D h0 yX12_next cX12_next 2 none 3 62 [.ref h0] ρ none ρ' :=
  rf_of rfl cc_next (Nat.le_of_ble_eq_true rfl) (fun p e s m args below meth c ls C G hl => wq_next_0 C h G hl)
abbrev cX12_fault : ByteArray := prog_14_method_26_code
def yX12_fault : MethodName := ⟨RX12, "fault", "(II)V"⟩
theorem dX12_fault_0 : decode cX12_fault 0 = .ok (.aload_n 0, 1) := by decide +kernel
theorem dX12_fault_1 : decode cX12_fault 1 = .ok (.getfield 383, 3) := by decide +kernel
theorem dX12_fault_4 : decode cX12_fault 4 = .ok (.ifCond .ne 13, 3) := by decide +kernel
theorem dX12_fault_7 : decode cX12_fault 7 = .ok (.aload_n 0, 1) := by decide +kernel
theorem dX12_fault_8 : decode cX12_fault 8 = .ok (.iload_n 1, 1) := by decide +kernel
theorem dX12_fault_9 : decode cX12_fault 9 = .ok (.putfield 383, 3) := by decide +kernel
theorem dX12_fault_12 : decode cX12_fault 12 = .ok (.aload_n 0, 1) := by decide +kernel
theorem dX12_fault_13 : decode cX12_fault 13 = .ok (.iload_n 2, 1) := by decide +kernel
theorem dX12_fault_14 : decode cX12_fault 14 = .ok (.putfield 386, 3) := by decide +kernel
theorem dX12_fault_17 : decode cX12_fault 17 = .ok (.return_, 1) := by decide +kernel
theorem cc_fault : Cond.code yX12_fault cX12_fault 3 none ∈ rf_tb := rf_at 1952 (by decide +kernel) (by decide +kernel)
theorem cw_fault : rf_wV yX12_fault cX12_fault 3 none 389 2 := ⟨⟨rf_at 1949 (by decide +kernel) (by decide +kernel), rf_at 1951 (by decide +kernel) (by decide +kernel), rf_sel (q := (yX12_fault, 122)) 87 (by decide +kernel) (by decide +kernel), cc_fault⟩, rfl, by decide +kernel⟩
noncomputable def bq_fault_0 (x1 : Int32) (x2 : Int32) (ρ : rf_S) : Option (rf_S) := (if (ρ.1 0 39) = 0 then vl (rf_w ρ 0 39 x1) (fun ρ_1 => vl (rf_w ρ_1 0 40 x2) (fun ρ_2 => some ρ_2)) else some ρ)
set_option maxHeartbeats 4000000 in
theorem wq_fault_0 (C : rf_C D p s m args meth c cX12_fault 3 none) {x1 : Int32} {x2 : Int32} {ρ ρ' : rf_S} {H : Heap} {locs : List Loc} {ls : Array Slot} (h : bq_fault_0 x1 x2 ρ = some ρ') (G : rf_G D h0 s ρ H locs) (hl : lv_has ls 3 [(0, .ref h0), (1, .int x1), (2, .int x2)]) : W p l e ({ frames := 0, cells := 0, slots := 0, locals := 0 }) s m args below meth c H locs 0 0 (MQ below (rf_Q D h0 none ρ') args s 0 0 (rf_A h0)) (F0 m 0 ls []) := by
  unfold bq_fault_0 at h
  refine lv_aload_n C.1 C.2.1 dX12_fault_0 rfl (lv_at hl 0 rfl) ?_
  refine gf_39 C G dX12_fault_1 ?_
  refine lv_if_ne (tgt := 17) C.1 C.2.1 dX12_fault_4 (by decide) (fun hc => ?_) (fun hc => ?_)
  · rw [if_neg hc] at h
    exact rf_vret C G h dX12_fault_17
  · rw [if_pos hc] at h
    refine lv_aload_n C.1 C.2.1 dX12_fault_7 rfl (lv_at hl 0 rfl) ?_
    refine lv_iload_n C.1 C.2.1 dX12_fault_8 rfl (lv_at hl 1 rfl) ?_
    refine pf_39 C G dX12_fault_9 (fun H locs G => ?_)
    refine rf_nm G h (fun ρ_1 G h => ?_)
    refine lv_aload_n C.1 C.2.1 dX12_fault_12 rfl (lv_at hl 0 rfl) ?_
    refine lv_iload_n C.1 C.2.1 dX12_fault_13 rfl (lv_at hl 2 rfl) ?_
    refine pf_40 C G dX12_fault_14 (fun H locs G => ?_)
    refine rf_nm G h (fun ρ_2 G h => ?_)
    exact rf_vret C G h dX12_fault_17
noncomputable def fq_fault (x1 : Int32) (x2 : Int32) (ρ : rf_S) : Option (rf_S) := bq_fault_0 x1 x2 ρ
theorem kq_fault (l : Launch) (D : rf_D) (h0 : Nat) {x1 : Int32} {x2 : Int32} {ρ ρ' : rf_S} (h : fq_fault x1 x2 ρ = some ρ') : rf_Met l D h0 yX12_fault cX12_fault 3 none 0 0 [.ref h0, .int x1, .int x2] ρ none ρ' :=
  rf_of rfl cc_fault (Nat.le_of_ble_eq_true rfl) (fun p e s m args below meth c ls C G hl => wq_fault_0 C h G hl)
abbrev cX12_cannot : ByteArray := prog_14_method_27_code
def yX12_cannot : MethodName := ⟨RX12, "cannot", "()V"⟩
theorem dX12_cannot_0 : decode cX12_cannot 0 = .ok (.aload_n 0, 1) := by decide +kernel
theorem dX12_cannot_1 : decode cX12_cannot 1 = .ok (.aload_n 0, 1) := by decide +kernel
theorem dX12_cannot_2 : decode cX12_cannot 2 = .ok (.getfield 357, 3) := by decide +kernel
theorem dX12_cannot_5 : decode cX12_cannot 5 = .ok (.bipush 7, 2) := by decide +kernel
theorem dX12_cannot_7 : decode cX12_cannot 7 = .ok (.if_icmp .ne 7, 3) := by decide +kernel
theorem dX12_cannot_10 : decode cX12_cannot 10 = .ok (.iconst 1, 1) := by decide +kernel
theorem dX12_cannot_11 : decode cX12_cannot 11 = .ok (.goto 4, 3) := by decide +kernel
theorem dX12_cannot_14 : decode cX12_cannot 14 = .ok (.iconst 2, 1) := by decide +kernel
theorem dX12_cannot_15 : decode cX12_cannot 15 = .ok (.aload_n 0, 1) := by decide +kernel
theorem dX12_cannot_16 : decode cX12_cannot 16 = .ok (.getfield 354, 3) := by decide +kernel
theorem dX12_cannot_19 : decode cX12_cannot 19 = .ok (.invokevirtual 389, 3) := by decide +kernel
theorem dX12_cannot_22 : decode cX12_cannot 22 = .ok (.return_, 1) := by decide +kernel
theorem cc_cannot : Cond.code yX12_cannot cX12_cannot 1 none ∈ rf_tb := rf_at 1965 (by decide +kernel) (by decide +kernel)
theorem cw_cannot : rf_wV yX12_cannot cX12_cannot 1 none 395 0 := ⟨⟨rf_at 1962 (by decide +kernel) (by decide +kernel), rf_at 1964 (by decide +kernel) (by decide +kernel), rf_sel (q := (yX12_cannot, 122)) 90 (by decide +kernel) (by decide +kernel), cc_cannot⟩, rfl, by decide +kernel⟩
noncomputable def bq_cannot_15 (v1 : Int32) (ρ : rf_S) : Option (rf_S) := bd1 (fq_fault v1 (ρ.1 0 45) ρ) (fun ρ_1 => some ρ_1)
set_option maxHeartbeats 4000000 in
theorem wq_cannot_15 (C : rf_C D p s m args meth c cX12_cannot 1 none) {v1 : Int32} {ρ ρ' : rf_S} {H : Heap} {locs : List Loc} {ls : Array Slot} (h : bq_cannot_15 v1 ρ = some ρ') (G : rf_G D h0 s ρ H locs) (hl : lv_has ls 1 [(0, .ref h0)]) : W p l e ({ frames := 1, cells := 0, slots := 0, locals := 22 }) s m args below meth c H locs 0 0 (MQ below (rf_Q D h0 none ρ') args s 0 0 (rf_A h0)) (F0 m 15 ls [.int v1, .ref h0]) := by
  unfold bq_cannot_15 at h
  refine lv_aload_n C.1 C.2.1 dX12_cannot_15 rfl (lv_at hl 0 rfl) ?_
  refine gf_45 C G dX12_cannot_16 ?_
  obtain ⟨ρ_1, hq, h⟩ := bd1_some h
  refine rf_callV (rest := []) C G cw_fault [.int v1, .int (ρ.1 0 45)] _ (kq_fault l D h0 hq) (Nat.le_of_ble_eq_true rfl) (Nat.le_of_ble_eq_true rfl) rfl rfl hl.1 (Nat.le_of_ble_eq_true rfl) (Nat.zero_le _) (Nat.zero_le _) dX12_cannot_19 (fun H locs G => ?_)
  refine W.eq (g2 := F0 m 22 ls []) rfl ?_
  exact rf_vret C G h dX12_cannot_22
noncomputable def bq_cannot_0  (ρ : rf_S) : Option (rf_S) := (if (ρ.1 0 44) = (7:Int32) then bq_cannot_15 (1:Int32) ρ else bq_cannot_15 (2:Int32) ρ)
set_option maxHeartbeats 4000000 in
theorem wq_cannot_0 (C : rf_C D p s m args meth c cX12_cannot 1 none) {ρ ρ' : rf_S} {H : Heap} {locs : List Loc} {ls : Array Slot} (h : bq_cannot_0 ρ = some ρ') (G : rf_G D h0 s ρ H locs) (hl : lv_has ls 1 [(0, .ref h0)]) : W p l e ({ frames := 1, cells := 0, slots := 0, locals := 22 }) s m args below meth c H locs 0 0 (MQ below (rf_Q D h0 none ρ') args s 0 0 (rf_A h0)) (F0 m 0 ls []) := by
  unfold bq_cannot_0 at h
  refine lv_aload_n C.1 C.2.1 dX12_cannot_0 rfl (lv_at hl 0 rfl) ?_
  refine lv_aload_n C.1 C.2.1 dX12_cannot_1 rfl (lv_at hl 0 rfl) ?_
  refine gf_44 C G dX12_cannot_2 ?_
  refine lv_bipush (v := (7:Int32)) C.1 C.2.1 dX12_cannot_5 (by decide) ?_
  refine lv_icmp_ne (tgt := 14) C.1 C.2.1 dX12_cannot_7 (by decide) (fun hc => ?_) (fun hc => ?_)
  · rw [if_neg hc] at h
    refine lv_iconst (v := (2:Int32)) C.1 C.2.1 dX12_cannot_14 (by decide) ?_
    exact wq_cannot_15 C h G (lv_sub hl [0] rfl)
  · rw [if_pos hc] at h
    refine lv_iconst (v := (1:Int32)) C.1 C.2.1 dX12_cannot_10 (by decide) ?_
    refine lv_goto (tgt := 15) C.1 C.2.1 dX12_cannot_11 (by decide) ?_
    exact wq_cannot_15 C h G (lv_sub hl [0] rfl)
noncomputable def fq_cannot  (ρ : rf_S) : Option (rf_S) := bq_cannot_0 ρ
theorem kq_cannot (l : Launch) (D : rf_D) (h0 : Nat) {ρ ρ' : rf_S} (h : fq_cannot ρ = some ρ') : rf_Met l D h0 yX12_cannot cX12_cannot 1 none 1 22 [.ref h0] ρ none ρ' :=
  rf_of rfl cc_cannot (Nat.le_of_ble_eq_true rfl) (fun p e s m args below meth c ls C G hl => wq_cannot_0 C h G hl)
abbrev cX12_wants : ByteArray := prog_14_method_28_code
def yX12_wants : MethodName := ⟨RX12, "wants", "(I)V"⟩
theorem dX12_wants_0 : decode cX12_wants 0 = .ok (.aload_n 0, 1) := by decide +kernel
theorem dX12_wants_1 : decode cX12_wants 1 = .ok (.getfield 357, 3) := by decide +kernel
theorem dX12_wants_4 : decode cX12_wants 4 = .ok (.iload_n 1, 1) := by decide +kernel
theorem dX12_wants_5 : decode cX12_wants 5 = .ok (.if_icmp .ne 10, 3) := by decide +kernel
theorem dX12_wants_8 : decode cX12_wants 8 = .ok (.aload_n 0, 1) := by decide +kernel
theorem dX12_wants_9 : decode cX12_wants 9 = .ok (.invokevirtual 392, 3) := by decide +kernel
theorem dX12_wants_12 : decode cX12_wants 12 = .ok (.goto 7, 3) := by decide +kernel
theorem dX12_wants_15 : decode cX12_wants 15 = .ok (.aload_n 0, 1) := by decide +kernel
theorem dX12_wants_16 : decode cX12_wants 16 = .ok (.invokevirtual 395, 3) := by decide +kernel
theorem dX12_wants_19 : decode cX12_wants 19 = .ok (.return_, 1) := by decide +kernel
theorem cc_wants : Cond.code yX12_wants cX12_wants 2 none ∈ rf_tb := rf_at 1981 (by decide +kernel) (by decide +kernel)
theorem cw_wants : rf_wV yX12_wants cX12_wants 2 none 432 1 := ⟨⟨rf_at 1978 (by decide +kernel) (by decide +kernel), rf_at 1980 (by decide +kernel) (by decide +kernel), rf_sel (q := (yX12_wants, 122)) 93 (by decide +kernel) (by decide +kernel), cc_wants⟩, rfl, by decide +kernel⟩
noncomputable def bq_wants_0 (x1 : Int32) (ρ : rf_S) : Option (rf_S) := (if (ρ.1 0 44) = x1 then bd1 (fq_next ρ) (fun ρ_2 => some ρ_2) else bd1 (fq_cannot ρ) (fun ρ_1 => some ρ_1))
set_option maxHeartbeats 4000000 in
theorem wq_wants_0 (C : rf_C D p s m args meth c cX12_wants 2 none) {x1 : Int32} {ρ ρ' : rf_S} {H : Heap} {locs : List Loc} {ls : Array Slot} (h : bq_wants_0 x1 ρ = some ρ') (G : rf_G D h0 s ρ H locs) (hl : lv_has ls 2 [(0, .ref h0), (1, .int x1)]) : W p l e ({ frames := 4, cells := 0, slots := 0, locals := 83 }) s m args below meth c H locs 0 0 (MQ below (rf_Q D h0 none ρ') args s 0 0 (rf_A h0)) (F0 m 0 ls []) := by
  unfold bq_wants_0 at h
  refine lv_aload_n C.1 C.2.1 dX12_wants_0 rfl (lv_at hl 0 rfl) ?_
  refine gf_44 C G dX12_wants_1 ?_
  refine lv_iload_n C.1 C.2.1 dX12_wants_4 rfl (lv_at hl 1 rfl) ?_
  refine lv_icmp_ne (tgt := 15) C.1 C.2.1 dX12_wants_5 (by decide) (fun hc => ?_) (fun hc => ?_)
  · rw [if_neg hc] at h
    refine lv_aload_n C.1 C.2.1 dX12_wants_15 rfl (lv_at hl 0 rfl) ?_
    obtain ⟨ρ_1, hq, h⟩ := bd1_some h
    refine rf_callV (rest := []) C G cw_cannot [] _ (kq_cannot l D h0 hq) (Nat.le_of_ble_eq_true rfl) (Nat.le_of_ble_eq_true rfl) rfl rfl hl.1 (Nat.le_of_ble_eq_true rfl) (Nat.zero_le _) (Nat.zero_le _) dX12_wants_16 (fun H locs G => ?_)
    refine W.eq (g2 := F0 m 19 ls []) rfl ?_
    exact rf_vret C G h dX12_wants_19
  · rw [if_pos hc] at h
    refine lv_aload_n C.1 C.2.1 dX12_wants_8 rfl (lv_at hl 0 rfl) ?_
    obtain ⟨ρ_2, hq, h⟩ := bd1_some h
    refine rf_callV (rest := []) C G cw_next [] _ (kq_next l D h0 hq) (Nat.le_of_ble_eq_true rfl) (Nat.le_of_ble_eq_true rfl) rfl rfl hl.1 (Nat.le_of_ble_eq_true rfl) (Nat.zero_le _) (Nat.zero_le _) dX12_wants_9 (fun H locs G => ?_)
    refine W.eq (g2 := F0 m 12 ls []) rfl ?_
    refine lv_goto (tgt := 19) C.1 C.2.1 dX12_wants_12 (by decide) ?_
    exact rf_vret C G h dX12_wants_19
noncomputable def fq_wants (x1 : Int32) (ρ : rf_S) : Option (rf_S) := bq_wants_0 x1 ρ
theorem kq_wants (l : Launch) (D : rf_D) (h0 : Nat) {x1 : Int32} {ρ ρ' : rf_S} (h : fq_wants x1 ρ = some ρ') : rf_Met l D h0 yX12_wants cX12_wants 2 none 4 83 [.ref h0, .int x1] ρ none ρ' :=
  rf_of rfl cc_wants (Nat.le_of_ble_eq_true rfl) (fun p e s m args below meth c ls C G hl => wq_wants_0 C h G hl)
abbrev cX12_wantsRegister : ByteArray := prog_14_method_29_code
def yX12_wantsRegister : MethodName := ⟨RX12, "wantsRegister", "()I"⟩
theorem dX12_wantsRegister_0 : decode cX12_wantsRegister 0 = .ok (.aload_n 0, 1) := by decide +kernel
theorem dX12_wantsRegister_1 : decode cX12_wantsRegister 1 = .ok (.getfield 357, 3) := by decide +kernel
theorem dX12_wantsRegister_4 : decode cX12_wantsRegister 4 = .ok (.iconst 1, 1) := by decide +kernel
theorem dX12_wantsRegister_5 : decode cX12_wantsRegister 5 = .ok (.if_icmp .eq 9, 3) := by decide +kernel
theorem dX12_wantsRegister_8 : decode cX12_wantsRegister 8 = .ok (.aload_n 0, 1) := by decide +kernel
theorem dX12_wantsRegister_9 : decode cX12_wantsRegister 9 = .ok (.invokevirtual 395, 3) := by decide +kernel
theorem dX12_wantsRegister_12 : decode cX12_wantsRegister 12 = .ok (.iconst 0, 1) := by decide +kernel
theorem dX12_wantsRegister_13 : decode cX12_wantsRegister 13 = .ok (.ireturn, 1) := by decide +kernel
theorem dX12_wantsRegister_14 : decode cX12_wantsRegister 14 = .ok (.iconst (-1), 1) := by decide +kernel
theorem dX12_wantsRegister_15 : decode cX12_wantsRegister 15 = .ok (.istore_n 1, 1) := by decide +kernel
theorem dX12_wantsRegister_16 : decode cX12_wantsRegister 16 = .ok (.iconst 0, 1) := by decide +kernel
theorem dX12_wantsRegister_17 : decode cX12_wantsRegister 17 = .ok (.istore_n 2, 1) := by decide +kernel
theorem dX12_wantsRegister_18 : decode cX12_wantsRegister 18 = .ok (.iload_n 2, 1) := by decide +kernel
theorem dX12_wantsRegister_19 : decode cX12_wantsRegister 19 = .ok (.bipush 16, 2) := by decide +kernel
theorem dX12_wantsRegister_21 : decode cX12_wantsRegister 21 = .ok (.if_icmp .ge 51, 3) := by decide +kernel
theorem dX12_wantsRegister_24 : decode cX12_wantsRegister 24 = .ok (.ldc2_w 398, 3) := by decide +kernel
theorem dX12_wantsRegister_27 : decode cX12_wantsRegister 27 = .ok (.lstore_n 3, 1) := by decide +kernel
theorem dX12_wantsRegister_28 : decode cX12_wantsRegister 28 = .ok (.iload_n 2, 1) := by decide +kernel
theorem dX12_wantsRegister_29 : decode cX12_wantsRegister 29 = .ok (.bipush 9, 2) := by decide +kernel
theorem dX12_wantsRegister_31 : decode cX12_wantsRegister 31 = .ok (.if_icmp .le 12, 3) := by decide +kernel
theorem dX12_wantsRegister_34 : decode cX12_wantsRegister 34 = .ok (.lload_n 3, 1) := by decide +kernel
theorem dX12_wantsRegister_35 : decode cX12_wantsRegister 35 = .ok (.bipush 7, 2) := by decide +kernel
theorem dX12_wantsRegister_37 : decode cX12_wantsRegister 37 = .ok (.lshl, 1) := by decide +kernel
theorem dX12_wantsRegister_38 : decode cX12_wantsRegister 38 = .ok (.ldc2_w 400, 3) := by decide +kernel
theorem dX12_wantsRegister_41 : decode cX12_wantsRegister 41 = .ok (.lor, 1) := by decide +kernel
theorem dX12_wantsRegister_42 : decode cX12_wantsRegister 42 = .ok (.lstore_n 3, 1) := by decide +kernel
theorem dX12_wantsRegister_43 : decode cX12_wantsRegister 43 = .ok (.aload_n 0, 1) := by decide +kernel
theorem dX12_wantsRegister_44 : decode cX12_wantsRegister 44 = .ok (.getfield 369, 3) := by decide +kernel
theorem dX12_wantsRegister_47 : decode cX12_wantsRegister 47 = .ok (.lload_n 3, 1) := by decide +kernel
theorem dX12_wantsRegister_48 : decode cX12_wantsRegister 48 = .ok (.bipush 7, 2) := by decide +kernel
theorem dX12_wantsRegister_50 : decode cX12_wantsRegister 50 = .ok (.lshl, 1) := by decide +kernel
theorem dX12_wantsRegister_51 : decode cX12_wantsRegister 51 = .ok (.bipush 48, 2) := by decide +kernel
theorem dX12_wantsRegister_53 : decode cX12_wantsRegister 53 = .ok (.iload_n 2, 1) := by decide +kernel
theorem dX12_wantsRegister_54 : decode cX12_wantsRegister 54 = .ok (.bipush 10, 2) := by decide +kernel
theorem dX12_wantsRegister_56 : decode cX12_wantsRegister 56 = .ok (.irem, 1) := by decide +kernel
theorem dX12_wantsRegister_57 : decode cX12_wantsRegister 57 = .ok (.iadd, 1) := by decide +kernel
theorem dX12_wantsRegister_58 : decode cX12_wantsRegister 58 = .ok (.i2l, 1) := by decide +kernel
theorem dX12_wantsRegister_59 : decode cX12_wantsRegister 59 = .ok (.lor, 1) := by decide +kernel
theorem dX12_wantsRegister_60 : decode cX12_wantsRegister 60 = .ok (.lcmp, 1) := by decide +kernel
theorem dX12_wantsRegister_61 : decode cX12_wantsRegister 61 = .ok (.ifCond .ne 5, 3) := by decide +kernel
theorem dX12_wantsRegister_64 : decode cX12_wantsRegister 64 = .ok (.iload_n 2, 1) := by decide +kernel
theorem dX12_wantsRegister_65 : decode cX12_wantsRegister 65 = .ok (.istore_n 1, 1) := by decide +kernel
theorem dX12_wantsRegister_66 : decode cX12_wantsRegister 66 = .ok (.iinc 2 1, 3) := by decide +kernel
theorem dX12_wantsRegister_69 : decode cX12_wantsRegister 69 = .ok (.goto (-51), 3) := by decide +kernel
theorem dX12_wantsRegister_72 : decode cX12_wantsRegister 72 = .ok (.iload_n 1, 1) := by decide +kernel
theorem dX12_wantsRegister_73 : decode cX12_wantsRegister 73 = .ok (.ifCond .ge 14, 3) := by decide +kernel
theorem dX12_wantsRegister_76 : decode cX12_wantsRegister 76 = .ok (.aload_n 0, 1) := by decide +kernel
theorem dX12_wantsRegister_77 : decode cX12_wantsRegister 77 = .ok (.iconst 3, 1) := by decide +kernel
theorem dX12_wantsRegister_78 : decode cX12_wantsRegister 78 = .ok (.aload_n 0, 1) := by decide +kernel
theorem dX12_wantsRegister_79 : decode cX12_wantsRegister 79 = .ok (.getfield 354, 3) := by decide +kernel
theorem dX12_wantsRegister_82 : decode cX12_wantsRegister 82 = .ok (.invokevirtual 389, 3) := by decide +kernel
theorem dX12_wantsRegister_85 : decode cX12_wantsRegister 85 = .ok (.iconst 0, 1) := by decide +kernel
theorem dX12_wantsRegister_86 : decode cX12_wantsRegister 86 = .ok (.ireturn, 1) := by decide +kernel
theorem dX12_wantsRegister_87 : decode cX12_wantsRegister 87 = .ok (.aload_n 0, 1) := by decide +kernel
theorem dX12_wantsRegister_88 : decode cX12_wantsRegister 88 = .ok (.invokevirtual 392, 3) := by decide +kernel
theorem dX12_wantsRegister_91 : decode cX12_wantsRegister 91 = .ok (.iload_n 1, 1) := by decide +kernel
theorem dX12_wantsRegister_92 : decode cX12_wantsRegister 92 = .ok (.ireturn, 1) := by decide +kernel
theorem cc_wantsRegister : Cond.code yX12_wantsRegister cX12_wantsRegister 5 (some .int) ∈ rf_tb := rf_at 1975 (by decide +kernel) (by decide +kernel)
theorem cw_wantsRegister : rf_wV yX12_wantsRegister cX12_wantsRegister 5 (some .int) 428 0 := ⟨⟨rf_at 1972 (by decide +kernel) (by decide +kernel), rf_at 1974 (by decide +kernel) (by decide +kernel), rf_sel (q := (yX12_wantsRegister, 122)) 92 (by decide +kernel) (by decide +kernel), cc_wantsRegister⟩, rfl, by decide +kernel⟩
theorem kc_398 : Cond.constantLong RX12 398 (114 : Int64) ∈ rf_tb := rf_at 1976 (by decide +kernel) (by decide +kernel)
theorem kc_400 : Cond.constantLong RX12 400 (49 : Int64) ∈ rf_tb := rf_at 1977 (by decide +kernel) (by decide +kernel)
noncomputable def bq_wantsRegister_66i18 (x1 : Int32) (x2 : Int32) (ρ : rf_S) : Option ((Int32 × Int32 × rf_S) ⊕ (Int32 × Int32 × rf_S)) := vl (x2 + (1:Int32)) (fun x2_1 => some (.inl (x1, x2_1, ρ)))
set_option maxHeartbeats 4000000 in
theorem wq_wantsRegister_66i18 (C : rf_C D p s m args meth c cX12_wantsRegister 5 (some .int)) {r : Int32} {x1 : Int32} {x2 : Int32} {ρ ρ' : rf_S} {H : Heap} {locs : List Loc} {ls : Array Slot} {o : (Int32 × Int32 × rf_S) ⊕ (Int32 × Int32 × rf_S)} (h : bq_wantsRegister_66i18 x1 x2 ρ = some o) (hP : Sum.elim (fun z : (Int32 × Int32 × rf_S) => ∀ (H : Heap) (locs : List Loc) (ls : Array Slot), rf_G D h0 s z.2.2 H locs → lv_has ls 5 [(0, .ref h0), (1, .int z.1), (2, .int z.2.1)] → W p l e ({ frames := 4, cells := 0, slots := 0, locals := 83 }) s m args below meth c H locs 0 0 (MQ below (rf_Q D h0 (some (.int r)) ρ') args s 0 0 (rf_A h0)) (F0 m 18 ls [])) (fun z : (Int32 × Int32 × rf_S) => ∀ (H : Heap) (locs : List Loc) (ls : Array Slot), rf_G D h0 s z.2.2 H locs → lv_has ls 5 [(0, .ref h0), (1, .int z.1), (2, .int z.2.1)] → W p l e ({ frames := 4, cells := 0, slots := 0, locals := 83 }) s m args below meth c H locs 0 0 (MQ below (rf_Q D h0 (some (.int r)) ρ') args s 0 0 (rf_A h0)) (F0 m 72 ls [])) o) (G : rf_G D h0 s ρ H locs) (hl : lv_has ls 5 [(0, .ref h0), (1, .int x1), (2, .int x2)]) : W p l e ({ frames := 4, cells := 0, slots := 0, locals := 83 }) s m args below meth c H locs 0 0 (MQ below (rf_Q D h0 (some (.int r)) ρ') args s 0 0 (rf_A h0)) (F0 m 66 ls []) := by
  unfold bq_wantsRegister_66i18 at h
  refine vl_ex h (fun x2_1 ey h => ?_)
  refine lv_iinc (v := x2_1) (lv' := [(2, .int x2_1), (0, .ref h0), (1, .int x1)]) C.1 C.2.1 dX12_wantsRegister_66 hl (k := 2) rfl (by rw [ey]; rfl) (by decide) rfl (fun ls hl => ?_)
  refine lv_goto (tgt := 18) C.1 C.2.1 dX12_wantsRegister_69 (by decide) ?_
  cases h
  exact hP _ _ _ G (lv_sub hl [1, 2, 0] rfl)
noncomputable def bq_wantsRegister_43i18 (x1 : Int32) (x2 : Int32) (x3 : Int64) (ρ : rf_S) : Option ((Int32 × Int32 × rf_S) ⊕ (Int32 × Int32 × rf_S)) := (if (lg_cmp (ρ.2 0 46) ((x3 <<< ((7:Int32).toInt64 &&& 63)) ||| (((48:Int32) + (x2 - x2 / (10:Int32) * (10:Int32))).toInt64))) = 0 then bq_wantsRegister_66i18 x2 x2 ρ else bq_wantsRegister_66i18 x1 x2 ρ)
set_option maxHeartbeats 4000000 in
theorem wq_wantsRegister_43i18 (C : rf_C D p s m args meth c cX12_wantsRegister 5 (some .int)) {r : Int32} {x1 : Int32} {x2 : Int32} {x3 : Int64} {ρ ρ' : rf_S} {H : Heap} {locs : List Loc} {ls : Array Slot} {o : (Int32 × Int32 × rf_S) ⊕ (Int32 × Int32 × rf_S)} (h : bq_wantsRegister_43i18 x1 x2 x3 ρ = some o) (hP : Sum.elim (fun z : (Int32 × Int32 × rf_S) => ∀ (H : Heap) (locs : List Loc) (ls : Array Slot), rf_G D h0 s z.2.2 H locs → lv_has ls 5 [(0, .ref h0), (1, .int z.1), (2, .int z.2.1)] → W p l e ({ frames := 4, cells := 0, slots := 0, locals := 83 }) s m args below meth c H locs 0 0 (MQ below (rf_Q D h0 (some (.int r)) ρ') args s 0 0 (rf_A h0)) (F0 m 18 ls [])) (fun z : (Int32 × Int32 × rf_S) => ∀ (H : Heap) (locs : List Loc) (ls : Array Slot), rf_G D h0 s z.2.2 H locs → lv_has ls 5 [(0, .ref h0), (1, .int z.1), (2, .int z.2.1)] → W p l e ({ frames := 4, cells := 0, slots := 0, locals := 83 }) s m args below meth c H locs 0 0 (MQ below (rf_Q D h0 (some (.int r)) ρ') args s 0 0 (rf_A h0)) (F0 m 72 ls [])) o) (G : rf_G D h0 s ρ H locs) (hl : lv_has ls 5 [(0, .ref h0), (1, .int x1), (2, .int x2), (3, .long x3)]) : W p l e ({ frames := 4, cells := 0, slots := 0, locals := 83 }) s m args below meth c H locs 0 0 (MQ below (rf_Q D h0 (some (.int r)) ρ') args s 0 0 (rf_A h0)) (F0 m 43 ls []) := by
  unfold bq_wantsRegister_43i18 at h
  refine lv_aload_n C.1 C.2.1 dX12_wantsRegister_43 rfl (lv_at hl 0 rfl) ?_
  refine gf_46 C G dX12_wantsRegister_44 ?_
  refine lv_lload_n C.1 C.2.1 dX12_wantsRegister_47 rfl (lv_at hl 3 rfl) ?_
  refine lv_bipush (v := (7:Int32)) C.1 C.2.1 dX12_wantsRegister_48 (by decide) ?_
  refine lv_lshl C.1 C.2.1 dX12_wantsRegister_50 rfl ?_
  refine lv_bipush (v := (48:Int32)) C.1 C.2.1 dX12_wantsRegister_51 (by decide) ?_
  refine lv_iload_n C.1 C.2.1 dX12_wantsRegister_53 rfl (lv_at hl 2 rfl) ?_
  refine lv_bipush (v := (10:Int32)) C.1 C.2.1 dX12_wantsRegister_54 (by decide) ?_
  refine lv_irem C.1 C.2.1 dX12_wantsRegister_56 (by decide) ?_
  refine lv_iadd C.1 C.2.1 dX12_wantsRegister_57 ?_
  refine lv_i2l C.1 C.2.1 dX12_wantsRegister_58 rfl ?_
  refine lv_lor C.1 C.2.1 dX12_wantsRegister_59 ?_
  refine W.lcmp C.1 C.2.1 dX12_wantsRegister_60 ?_
  refine lv_if_ne (tgt := 66) C.1 C.2.1 dX12_wantsRegister_61 (by decide) (fun hc => ?_) (fun hc => ?_)
  · rw [if_neg hc] at h
    exact wq_wantsRegister_66i18 C h hP G (lv_sub hl [0, 1, 2] rfl)
  · rw [if_pos hc] at h
    refine lv_iload_n C.1 C.2.1 dX12_wantsRegister_64 rfl (lv_at hl 2 rfl) ?_
    refine lv_istore_n (lv' := [(1, .int x2), (0, .ref h0), (2, .int x2), (3, .long x3)]) C.1 C.2.1 dX12_wantsRegister_65 rfl hl (by decide) rfl (fun ls hl => ?_)
    exact wq_wantsRegister_66i18 C h hP G (lv_sub hl [1, 0, 2] rfl)
noncomputable def lq_wantsRegister_18 (x1 : Int32) (x2 : Int32) (ρ : rf_S) : Option ((Int32 × Int32 × rf_S) ⊕ (Int32 × Int32 × rf_S)) := (if (16:Int32) ≤ x2 then some (.inr (x1, x2, ρ)) else (if x2 ≤ (9:Int32) then bq_wantsRegister_43i18 x1 x2 (114:Int64) ρ else vl (((114:Int64) <<< ((7:Int32).toInt64 &&& 63)) ||| (49:Int64)) (fun x3_2 => bq_wantsRegister_43i18 x1 x2 x3_2 ρ)))
noncomputable def eq_wantsRegister_18 (x1 : Int32) (x2 : Int32) (ρ : rf_S) : Option (Int32 × rf_S) := (if 0 ≤ x1 then bd1 (fq_next ρ) (fun ρ_3 => some (x1, ρ_3)) else bd1 (fq_fault (3:Int32) (ρ.1 0 45) ρ) (fun ρ_4 => some ((0:Int32), ρ_4)))
noncomputable def bq_wantsRegister_18 (x1 : Int32) (x2 : Int32) (ρ : rf_S) : Option (Int32 × rf_S) := (lp (fun z : (Int32 × Int32 × rf_S) => lq_wantsRegister_18  z.1 z.2.1 z.2.2) (x1, x2, ρ)).bind (fun z => eq_wantsRegister_18  z.1 z.2.1 z.2.2)
set_option maxHeartbeats 4000000 in
theorem wq_wantsRegister_18 (C : rf_C D p s m args meth c cX12_wantsRegister 5 (some .int)) {r : Int32} {x1 : Int32} {x2 : Int32} {ρ ρ' : rf_S} {H : Heap} {locs : List Loc} {ls : Array Slot} (h : bq_wantsRegister_18 x1 x2 ρ = some (r, ρ')) (G : rf_G D h0 s ρ H locs) (hl : lv_has ls 5 [(0, .ref h0), (1, .int x1), (2, .int x2)]) : W p l e ({ frames := 4, cells := 0, slots := 0, locals := 83 }) s m args below meth c H locs 0 0 (MQ below (rf_Q D h0 (some (.int r)) ρ') args s 0 0 (rf_A h0)) (F0 m 18 ls []) := by
  unfold bq_wantsRegister_18 at h
  obtain ⟨y, hy, h⟩ := bd_some h
  have hE : (fun z : (Int32 × Int32 × rf_S) => ∀ (H : Heap) (locs : List Loc) (ls : Array Slot), rf_G D h0 s z.2.2 H locs → lv_has ls 5 [(0, .ref h0), (1, .int z.1), (2, .int z.2.1)] → W p l e ({ frames := 4, cells := 0, slots := 0, locals := 83 }) s m args below meth c H locs 0 0 (MQ below (rf_Q D h0 (some (.int r)) ρ') args s 0 0 (rf_A h0)) (F0 m 72 ls [])) y := by
    intro H locs ls G hl
    obtain ⟨x1, x2, ρ⟩ := y
    dsimp only at h G hl
    unfold eq_wantsRegister_18 at h
    refine lv_iload_n C.1 C.2.1 dX12_wantsRegister_72 rfl (lv_at hl 1 rfl) ?_
    refine lv_if_ge (tgt := 87) C.1 C.2.1 dX12_wantsRegister_73 (by decide) (fun hc => ?_) (fun hc => ?_)
    · rw [if_pos hc] at h
      refine lv_aload_n C.1 C.2.1 dX12_wantsRegister_87 rfl (lv_at hl 0 rfl) ?_
      obtain ⟨ρ_3, hq, h⟩ := bd1_some h
      refine rf_callV (rest := []) C G cw_next [] _ (kq_next l D h0 hq) (Nat.le_of_ble_eq_true rfl) (Nat.le_of_ble_eq_true rfl) rfl rfl hl.1 (Nat.le_of_ble_eq_true rfl) (Nat.zero_le _) (Nat.zero_le _) dX12_wantsRegister_88 (fun H locs G => ?_)
      refine W.eq (g2 := F0 m 91 ls []) rfl ?_
      refine lv_iload_n C.1 C.2.1 dX12_wantsRegister_91 rfl (lv_at hl 1 rfl) ?_
      exact rf_iret C G h dX12_wantsRegister_92
    · rw [if_neg hc] at h
      refine lv_aload_n C.1 C.2.1 dX12_wantsRegister_76 rfl (lv_at hl 0 rfl) ?_
      refine lv_iconst (v := (3:Int32)) C.1 C.2.1 dX12_wantsRegister_77 (by decide) ?_
      refine lv_aload_n C.1 C.2.1 dX12_wantsRegister_78 rfl (lv_at hl 0 rfl) ?_
      refine gf_45 C G dX12_wantsRegister_79 ?_
      obtain ⟨ρ_4, hq, h⟩ := bd1_some h
      refine rf_callV (rest := []) C G cw_fault [.int (3:Int32), .int (ρ.1 0 45)] _ (kq_fault l D h0 hq) (Nat.le_of_ble_eq_true rfl) (Nat.le_of_ble_eq_true rfl) rfl rfl hl.1 (Nat.le_of_ble_eq_true rfl) (Nat.zero_le _) (Nat.zero_le _) dX12_wantsRegister_82 (fun H locs G => ?_)
      refine W.eq (g2 := F0 m 85 ls []) rfl ?_
      refine lv_iconst (v := (0:Int32)) C.1 C.2.1 dX12_wantsRegister_85 (by decide) ?_
      exact rf_iret C G h dX12_wantsRegister_86
  refine lp_recE (fun z : (Int32 × Int32 × rf_S) => ∀ (H : Heap) (locs : List Loc) (ls : Array Slot), rf_G D h0 s z.2.2 H locs → lv_has ls 5 [(0, .ref h0), (1, .int z.1), (2, .int z.2.1)] → W p l e ({ frames := 4, cells := 0, slots := 0, locals := 83 }) s m args below meth c H locs 0 0 (MQ below (rf_Q D h0 (some (.int r)) ρ') args s 0 0 (rf_A h0)) (F0 m 18 ls [])) (fun z : (Int32 × Int32 × rf_S) => ∀ (H : Heap) (locs : List Loc) (ls : Array Slot), rf_G D h0 s z.2.2 H locs → lv_has ls 5 [(0, .ref h0), (1, .int z.1), (2, .int z.2.1)] → W p l e ({ frames := 4, cells := 0, slots := 0, locals := 83 }) s m args below meth c H locs 0 0 (MQ below (rf_Q D h0 (some (.int r)) ρ') args s 0 0 (rf_A h0)) (F0 m 72 ls [])) ?_ _ _ hy hE _ _ _ G hl
  clear hE hy G hl h
  intro z o h hP H locs ls G hl
  obtain ⟨x1, x2, ρ⟩ := z
  dsimp only at h G hl
  unfold lq_wantsRegister_18 at h
  refine lv_iload_n C.1 C.2.1 dX12_wantsRegister_18 rfl (lv_at hl 2 rfl) ?_
  refine lv_bipush (v := (16:Int32)) C.1 C.2.1 dX12_wantsRegister_19 (by decide) ?_
  refine lv_icmp_ge (tgt := 72) C.1 C.2.1 dX12_wantsRegister_21 (by decide) (fun hc => ?_) (fun hc => ?_)
  · rw [if_pos hc] at h
    cases h
    exact hP _ _ _ G (lv_sub hl [0, 1, 2] rfl)
  · rw [if_neg hc] at h
    refine lv_ldc2 (v := (114:Int64)) C.1 C.2.1 C.2.2.2.1 (C.2.2.2.2.1 _ kc_398) dX12_wantsRegister_24 ?_
    refine lv_lstore_n (lv' := [(3, .long (114:Int64)), (0, .ref h0), (1, .int x1), (2, .int x2)]) C.1 C.2.1 dX12_wantsRegister_27 rfl hl (by decide) rfl (fun ls hl => ?_)
    refine lv_iload_n C.1 C.2.1 dX12_wantsRegister_28 rfl (lv_at hl 3 rfl) ?_
    refine lv_bipush (v := (9:Int32)) C.1 C.2.1 dX12_wantsRegister_29 (by decide) ?_
    refine lv_icmp_le (tgt := 43) C.1 C.2.1 dX12_wantsRegister_31 (by decide) (fun hc => ?_) (fun hc => ?_)
    · rw [if_pos hc] at h
      exact wq_wantsRegister_43i18 C h hP G (lv_sub hl [1, 2, 3, 0] rfl)
    · rw [if_neg hc] at h
      refine lv_lload_n C.1 C.2.1 dX12_wantsRegister_34 rfl (lv_at hl 0 rfl) ?_
      refine lv_bipush (v := (7:Int32)) C.1 C.2.1 dX12_wantsRegister_35 (by decide) ?_
      refine lv_lshl C.1 C.2.1 dX12_wantsRegister_37 rfl ?_
      refine lv_ldc2 (v := (49:Int64)) C.1 C.2.1 C.2.2.2.1 (C.2.2.2.2.1 _ kc_400) dX12_wantsRegister_38 ?_
      refine lv_lor C.1 C.2.1 dX12_wantsRegister_41 ?_
      refine vt_l h (fun x3_2 h => ?_)
      refine lv_lstore_n (lv' := [(3, .long x3_2), (0, .ref h0), (1, .int x1), (2, .int x2)]) C.1 C.2.1 dX12_wantsRegister_42 rfl hl (by decide) rfl (fun ls hl => ?_)
      exact wq_wantsRegister_43i18 C h hP G (lv_sub hl [1, 2, 3, 0] rfl)
noncomputable def bq_wantsRegister_0  (ρ : rf_S) : Option (Int32 × rf_S) := (if (ρ.1 0 44) = (1:Int32) then bq_wantsRegister_18 (-1:Int32) (0:Int32) ρ else bd1 (fq_cannot ρ) (fun ρ_5 => some ((0:Int32), ρ_5)))
set_option maxHeartbeats 4000000 in
theorem wq_wantsRegister_0 (C : rf_C D p s m args meth c cX12_wantsRegister 5 (some .int)) {r : Int32} {ρ ρ' : rf_S} {H : Heap} {locs : List Loc} {ls : Array Slot} (h : bq_wantsRegister_0 ρ = some (r, ρ')) (G : rf_G D h0 s ρ H locs) (hl : lv_has ls 5 [(0, .ref h0)]) : W p l e ({ frames := 4, cells := 0, slots := 0, locals := 83 }) s m args below meth c H locs 0 0 (MQ below (rf_Q D h0 (some (.int r)) ρ') args s 0 0 (rf_A h0)) (F0 m 0 ls []) := by
  unfold bq_wantsRegister_0 at h
  refine lv_aload_n C.1 C.2.1 dX12_wantsRegister_0 rfl (lv_at hl 0 rfl) ?_
  refine gf_44 C G dX12_wantsRegister_1 ?_
  refine lv_iconst (v := (1:Int32)) C.1 C.2.1 dX12_wantsRegister_4 (by decide) ?_
  refine lv_icmp_eq (tgt := 14) C.1 C.2.1 dX12_wantsRegister_5 (by decide) (fun hc => ?_) (fun hc => ?_)
  · rw [if_pos hc] at h
    refine lv_iconst (v := (-1:Int32)) C.1 C.2.1 dX12_wantsRegister_14 (by decide) ?_
    refine lv_istore_n (lv' := [(1, .int (-1:Int32)), (0, .ref h0)]) C.1 C.2.1 dX12_wantsRegister_15 rfl hl (by decide) rfl (fun ls hl => ?_)
    refine lv_iconst (v := (0:Int32)) C.1 C.2.1 dX12_wantsRegister_16 (by decide) ?_
    refine lv_istore_n (lv' := [(2, .int (0:Int32)), (1, .int (-1:Int32)), (0, .ref h0)]) C.1 C.2.1 dX12_wantsRegister_17 rfl hl (by decide) rfl (fun ls hl => ?_)
    exact wq_wantsRegister_18 C h G (lv_sub hl [2, 1, 0] rfl)
  · rw [if_neg hc] at h
    refine lv_aload_n C.1 C.2.1 dX12_wantsRegister_8 rfl (lv_at hl 0 rfl) ?_
    obtain ⟨ρ_5, hq, h⟩ := bd1_some h
    refine rf_callV (rest := []) C G cw_cannot [] _ (kq_cannot l D h0 hq) (Nat.le_of_ble_eq_true rfl) (Nat.le_of_ble_eq_true rfl) rfl rfl hl.1 (Nat.le_of_ble_eq_true rfl) (Nat.zero_le _) (Nat.zero_le _) dX12_wantsRegister_9 (fun H locs G => ?_)
    refine W.eq (g2 := F0 m 12 ls []) rfl ?_
    refine lv_iconst (v := (0:Int32)) C.1 C.2.1 dX12_wantsRegister_12 (by decide) ?_
    exact rf_iret C G h dX12_wantsRegister_13
noncomputable def fq_wantsRegister  (ρ : rf_S) : Option (Int32 × rf_S) := bq_wantsRegister_0 ρ
theorem kq_wantsRegister (l : Launch) (D : rf_D) (h0 : Nat) {r : Int32} {ρ ρ' : rf_S} (h : fq_wantsRegister ρ = some (r, ρ')) : rf_Met l D h0 yX12_wantsRegister cX12_wantsRegister 5 (some .int) 4 83 [.ref h0] ρ (some (.int r)) ρ' :=
  rf_of rfl cc_wantsRegister (Nat.le_of_ble_eq_true rfl) (fun p e s m args below meth c ls C G hl => wq_wantsRegister_0 C h G hl)
abbrev cX12_wantsNumber : ByteArray := prog_14_method_30_code
def yX12_wantsNumber : MethodName := ⟨RX12, "wantsNumber", "(JJ)J"⟩
theorem dX12_wantsNumber_0 : decode cX12_wantsNumber 0 = .ok (.aload_n 0, 1) := by decide +kernel
theorem dX12_wantsNumber_1 : decode cX12_wantsNumber 1 = .ok (.getfield 357, 3) := by decide +kernel
theorem dX12_wantsNumber_4 : decode cX12_wantsNumber 4 = .ok (.iconst 5, 1) := by decide +kernel
theorem dX12_wantsNumber_5 : decode cX12_wantsNumber 5 = .ok (.if_icmp .ne 7, 3) := by decide +kernel
theorem dX12_wantsNumber_8 : decode cX12_wantsNumber 8 = .ok (.iconst 1, 1) := by decide +kernel
theorem dX12_wantsNumber_9 : decode cX12_wantsNumber 9 = .ok (.goto 4, 3) := by decide +kernel
theorem dX12_wantsNumber_12 : decode cX12_wantsNumber 12 = .ok (.iconst 0, 1) := by decide +kernel
theorem dX12_wantsNumber_13 : decode cX12_wantsNumber 13 = .ok (.istore 5, 2) := by decide +kernel
theorem dX12_wantsNumber_15 : decode cX12_wantsNumber 15 = .ok (.iload 5, 2) := by decide +kernel
theorem dX12_wantsNumber_17 : decode cX12_wantsNumber 17 = .ok (.ifCond .eq 7, 3) := by decide +kernel
theorem dX12_wantsNumber_20 : decode cX12_wantsNumber 20 = .ok (.aload_n 0, 1) := by decide +kernel
theorem dX12_wantsNumber_21 : decode cX12_wantsNumber 21 = .ok (.invokevirtual 392, 3) := by decide +kernel
theorem dX12_wantsNumber_24 : decode cX12_wantsNumber 24 = .ok (.aload_n 0, 1) := by decide +kernel
theorem dX12_wantsNumber_25 : decode cX12_wantsNumber 25 = .ok (.getfield 357, 3) := by decide +kernel
theorem dX12_wantsNumber_28 : decode cX12_wantsNumber 28 = .ok (.iconst 2, 1) := by decide +kernel
theorem dX12_wantsNumber_29 : decode cX12_wantsNumber 29 = .ok (.if_icmp .eq 9, 3) := by decide +kernel
theorem dX12_wantsNumber_32 : decode cX12_wantsNumber 32 = .ok (.aload_n 0, 1) := by decide +kernel
theorem dX12_wantsNumber_33 : decode cX12_wantsNumber 33 = .ok (.invokevirtual 395, 3) := by decide +kernel
theorem dX12_wantsNumber_36 : decode cX12_wantsNumber 36 = .ok (.lconst 0, 1) := by decide +kernel
theorem dX12_wantsNumber_37 : decode cX12_wantsNumber 37 = .ok (.lreturn, 1) := by decide +kernel
theorem dX12_wantsNumber_38 : decode cX12_wantsNumber 38 = .ok (.iload 5, 2) := by decide +kernel
theorem dX12_wantsNumber_40 : decode cX12_wantsNumber 40 = .ok (.ifCond .eq 11, 3) := by decide +kernel
theorem dX12_wantsNumber_43 : decode cX12_wantsNumber 43 = .ok (.aload_n 0, 1) := by decide +kernel
theorem dX12_wantsNumber_44 : decode cX12_wantsNumber 44 = .ok (.getfield 373, 3) := by decide +kernel
theorem dX12_wantsNumber_47 : decode cX12_wantsNumber 47 = .ok (.lneg, 1) := by decide +kernel
theorem dX12_wantsNumber_48 : decode cX12_wantsNumber 48 = .ok (.goto 7, 3) := by decide +kernel
theorem dX12_wantsNumber_51 : decode cX12_wantsNumber 51 = .ok (.aload_n 0, 1) := by decide +kernel
theorem dX12_wantsNumber_52 : decode cX12_wantsNumber 52 = .ok (.getfield 373, 3) := by decide +kernel
theorem dX12_wantsNumber_55 : decode cX12_wantsNumber 55 = .ok (.lstore 6, 2) := by decide +kernel
theorem dX12_wantsNumber_57 : decode cX12_wantsNumber 57 = .ok (.lload 6, 2) := by decide +kernel
theorem dX12_wantsNumber_59 : decode cX12_wantsNumber 59 = .ok (.lload_n 1, 1) := by decide +kernel
theorem dX12_wantsNumber_60 : decode cX12_wantsNumber 60 = .ok (.lcmp, 1) := by decide +kernel
theorem dX12_wantsNumber_61 : decode cX12_wantsNumber 61 = .ok (.ifCond .lt 10, 3) := by decide +kernel
theorem dX12_wantsNumber_64 : decode cX12_wantsNumber 64 = .ok (.lload 6, 2) := by decide +kernel
theorem dX12_wantsNumber_66 : decode cX12_wantsNumber 66 = .ok (.lload_n 3, 1) := by decide +kernel
theorem dX12_wantsNumber_67 : decode cX12_wantsNumber 67 = .ok (.lcmp, 1) := by decide +kernel
theorem dX12_wantsNumber_68 : decode cX12_wantsNumber 68 = .ok (.ifCond .le 14, 3) := by decide +kernel
theorem dX12_wantsNumber_71 : decode cX12_wantsNumber 71 = .ok (.aload_n 0, 1) := by decide +kernel
theorem dX12_wantsNumber_72 : decode cX12_wantsNumber 72 = .ok (.iconst 5, 1) := by decide +kernel
theorem dX12_wantsNumber_73 : decode cX12_wantsNumber 73 = .ok (.aload_n 0, 1) := by decide +kernel
theorem dX12_wantsNumber_74 : decode cX12_wantsNumber 74 = .ok (.getfield 354, 3) := by decide +kernel
theorem dX12_wantsNumber_77 : decode cX12_wantsNumber 77 = .ok (.invokevirtual 389, 3) := by decide +kernel
theorem dX12_wantsNumber_80 : decode cX12_wantsNumber 80 = .ok (.lconst 0, 1) := by decide +kernel
theorem dX12_wantsNumber_81 : decode cX12_wantsNumber 81 = .ok (.lreturn, 1) := by decide +kernel
theorem dX12_wantsNumber_82 : decode cX12_wantsNumber 82 = .ok (.aload_n 0, 1) := by decide +kernel
theorem dX12_wantsNumber_83 : decode cX12_wantsNumber 83 = .ok (.invokevirtual 392, 3) := by decide +kernel
theorem dX12_wantsNumber_86 : decode cX12_wantsNumber 86 = .ok (.lload 6, 2) := by decide +kernel
theorem dX12_wantsNumber_88 : decode cX12_wantsNumber 88 = .ok (.lreturn, 1) := by decide +kernel
theorem cc_wantsNumber : Cond.code yX12_wantsNumber cX12_wantsNumber 8 (some .long) ∈ rf_tb := rf_at 1961 (by decide +kernel) (by decide +kernel)
theorem cw_wantsNumber : rf_wV yX12_wantsNumber cX12_wantsNumber 8 (some .long) 412 2 := ⟨⟨rf_at 1958 (by decide +kernel) (by decide +kernel), rf_at 1960 (by decide +kernel) (by decide +kernel), rf_sel (q := (yX12_wantsNumber, 122)) 89 (by decide +kernel) (by decide +kernel), cc_wantsNumber⟩, rfl, by decide +kernel⟩
noncomputable def bq_wantsNumber_71  (ρ : rf_S) : Option (Int64 × rf_S) := bd1 (fq_fault (5:Int32) (ρ.1 0 45) ρ) (fun ρ_1 => some ((0:Int64), ρ_1))
set_option maxHeartbeats 4000000 in
theorem wq_wantsNumber_71 (C : rf_C D p s m args meth c cX12_wantsNumber 8 (some .long)) {r : Int64} {ρ ρ' : rf_S} {H : Heap} {locs : List Loc} {ls : Array Slot} (h : bq_wantsNumber_71 ρ = some (r, ρ')) (G : rf_G D h0 s ρ H locs) (hl : lv_has ls 8 [(0, .ref h0)]) : W p l e ({ frames := 4, cells := 0, slots := 0, locals := 83 }) s m args below meth c H locs 0 0 (MQ below (rf_Q D h0 (some (.long r)) ρ') args s 0 0 (rf_A h0)) (F0 m 71 ls []) := by
  unfold bq_wantsNumber_71 at h
  refine lv_aload_n C.1 C.2.1 dX12_wantsNumber_71 rfl (lv_at hl 0 rfl) ?_
  refine lv_iconst (v := (5:Int32)) C.1 C.2.1 dX12_wantsNumber_72 (by decide) ?_
  refine lv_aload_n C.1 C.2.1 dX12_wantsNumber_73 rfl (lv_at hl 0 rfl) ?_
  refine gf_45 C G dX12_wantsNumber_74 ?_
  obtain ⟨ρ_1, hq, h⟩ := bd1_some h
  refine rf_callV (rest := []) C G cw_fault [.int (5:Int32), .int (ρ.1 0 45)] _ (kq_fault l D h0 hq) (Nat.le_of_ble_eq_true rfl) (Nat.le_of_ble_eq_true rfl) rfl rfl hl.1 (Nat.le_of_ble_eq_true rfl) (Nat.zero_le _) (Nat.zero_le _) dX12_wantsNumber_77 (fun H locs G => ?_)
  refine W.eq (g2 := F0 m 80 ls []) rfl ?_
  refine lv_lconst (v := (0:Int64)) C.1 C.2.1 dX12_wantsNumber_80 (by decide) ?_
  exact rf_lret C G h dX12_wantsNumber_81
noncomputable def bq_wantsNumber_55 (x1 : Int64) (x3 : Int64) (v0 : Int64) (ρ : rf_S) : Option (Int64 × rf_S) := (if (lg_cmp v0 x1) < 0 then bq_wantsNumber_71 ρ else (if (lg_cmp v0 x3) ≤ 0 then bd1 (fq_next ρ) (fun ρ_2 => some (v0, ρ_2)) else bq_wantsNumber_71 ρ))
set_option maxHeartbeats 4000000 in
theorem wq_wantsNumber_55 (C : rf_C D p s m args meth c cX12_wantsNumber 8 (some .long)) {r : Int64} {x1 : Int64} {x3 : Int64} {v0 : Int64} {ρ ρ' : rf_S} {H : Heap} {locs : List Loc} {ls : Array Slot} (h : bq_wantsNumber_55 x1 x3 v0 ρ = some (r, ρ')) (G : rf_G D h0 s ρ H locs) (hl : lv_has ls 8 [(0, .ref h0), (1, .long x1), (3, .long x3)]) : W p l e ({ frames := 4, cells := 0, slots := 0, locals := 83 }) s m args below meth c H locs 0 0 (MQ below (rf_Q D h0 (some (.long r)) ρ') args s 0 0 (rf_A h0)) (F0 m 55 ls [.long v0]) := by
  unfold bq_wantsNumber_55 at h
  refine lv_lstore (lv' := [(6, .long v0), (0, .ref h0), (1, .long x1), (3, .long x3)]) C.1 C.2.1 dX12_wantsNumber_55 hl (by decide) rfl (fun ls hl => ?_)
  refine lv_lload C.1 C.2.1 dX12_wantsNumber_57 (lv_at hl 0 rfl) ?_
  refine lv_lload_n C.1 C.2.1 dX12_wantsNumber_59 rfl (lv_at hl 2 rfl) ?_
  refine W.lcmp C.1 C.2.1 dX12_wantsNumber_60 ?_
  refine lv_if_lt (tgt := 71) C.1 C.2.1 dX12_wantsNumber_61 (by decide) (fun hc => ?_) (fun hc => ?_)
  · rw [if_pos hc] at h
    exact wq_wantsNumber_71 C h G (lv_sub hl [1] rfl)
  · rw [if_neg hc] at h
    refine lv_lload C.1 C.2.1 dX12_wantsNumber_64 (lv_at hl 0 rfl) ?_
    refine lv_lload_n C.1 C.2.1 dX12_wantsNumber_66 rfl (lv_at hl 3 rfl) ?_
    refine W.lcmp C.1 C.2.1 dX12_wantsNumber_67 ?_
    refine lv_if_le (tgt := 82) C.1 C.2.1 dX12_wantsNumber_68 (by decide) (fun hc => ?_) (fun hc => ?_)
    · rw [if_pos hc] at h
      refine lv_aload_n C.1 C.2.1 dX12_wantsNumber_82 rfl (lv_at hl 1 rfl) ?_
      obtain ⟨ρ_2, hq, h⟩ := bd1_some h
      refine rf_callV (rest := []) C G cw_next [] _ (kq_next l D h0 hq) (Nat.le_of_ble_eq_true rfl) (Nat.le_of_ble_eq_true rfl) rfl rfl hl.1 (Nat.le_of_ble_eq_true rfl) (Nat.zero_le _) (Nat.zero_le _) dX12_wantsNumber_83 (fun H locs G => ?_)
      refine W.eq (g2 := F0 m 86 ls []) rfl ?_
      refine lv_lload C.1 C.2.1 dX12_wantsNumber_86 (lv_at hl 0 rfl) ?_
      exact rf_lret C G h dX12_wantsNumber_88
    · rw [if_neg hc] at h
      exact wq_wantsNumber_71 C h G (lv_sub hl [1] rfl)
noncomputable def bq_wantsNumber_24 (x1 : Int64) (x3 : Int64) (x5 : Int32) (ρ : rf_S) : Option (Int64 × rf_S) := (if (ρ.1 0 44) = (2:Int32) then (if x5 = 0 then bq_wantsNumber_55 x1 x3 (ρ.2 0 47) ρ else bq_wantsNumber_55 x1 x3 (-(ρ.2 0 47)) ρ) else bd1 (fq_cannot ρ) (fun ρ_3 => some ((0:Int64), ρ_3)))
set_option maxHeartbeats 4000000 in
theorem wq_wantsNumber_24 (C : rf_C D p s m args meth c cX12_wantsNumber 8 (some .long)) {r : Int64} {x1 : Int64} {x3 : Int64} {x5 : Int32} {ρ ρ' : rf_S} {H : Heap} {locs : List Loc} {ls : Array Slot} (h : bq_wantsNumber_24 x1 x3 x5 ρ = some (r, ρ')) (G : rf_G D h0 s ρ H locs) (hl : lv_has ls 8 [(0, .ref h0), (1, .long x1), (3, .long x3), (5, .int x5)]) : W p l e ({ frames := 4, cells := 0, slots := 0, locals := 83 }) s m args below meth c H locs 0 0 (MQ below (rf_Q D h0 (some (.long r)) ρ') args s 0 0 (rf_A h0)) (F0 m 24 ls []) := by
  unfold bq_wantsNumber_24 at h
  refine lv_aload_n C.1 C.2.1 dX12_wantsNumber_24 rfl (lv_at hl 0 rfl) ?_
  refine gf_44 C G dX12_wantsNumber_25 ?_
  refine lv_iconst (v := (2:Int32)) C.1 C.2.1 dX12_wantsNumber_28 (by decide) ?_
  refine lv_icmp_eq (tgt := 38) C.1 C.2.1 dX12_wantsNumber_29 (by decide) (fun hc => ?_) (fun hc => ?_)
  · rw [if_pos hc] at h
    refine lv_iload C.1 C.2.1 dX12_wantsNumber_38 (lv_at hl 3 rfl) ?_
    refine lv_if_eq (tgt := 51) C.1 C.2.1 dX12_wantsNumber_40 (by decide) (fun hc => ?_) (fun hc => ?_)
    · rw [if_pos hc] at h
      refine lv_aload_n C.1 C.2.1 dX12_wantsNumber_51 rfl (lv_at hl 0 rfl) ?_
      refine gf_47 C G dX12_wantsNumber_52 ?_
      exact wq_wantsNumber_55 C h G (lv_sub hl [0, 1, 2] rfl)
    · rw [if_neg hc] at h
      refine lv_aload_n C.1 C.2.1 dX12_wantsNumber_43 rfl (lv_at hl 0 rfl) ?_
      refine gf_47 C G dX12_wantsNumber_44 ?_
      refine lv_lneg C.1 C.2.1 dX12_wantsNumber_47 ?_
      refine lv_goto (tgt := 55) C.1 C.2.1 dX12_wantsNumber_48 (by decide) ?_
      exact wq_wantsNumber_55 C h G (lv_sub hl [0, 1, 2] rfl)
  · rw [if_neg hc] at h
    refine lv_aload_n C.1 C.2.1 dX12_wantsNumber_32 rfl (lv_at hl 0 rfl) ?_
    obtain ⟨ρ_3, hq, h⟩ := bd1_some h
    refine rf_callV (rest := []) C G cw_cannot [] _ (kq_cannot l D h0 hq) (Nat.le_of_ble_eq_true rfl) (Nat.le_of_ble_eq_true rfl) rfl rfl hl.1 (Nat.le_of_ble_eq_true rfl) (Nat.zero_le _) (Nat.zero_le _) dX12_wantsNumber_33 (fun H locs G => ?_)
    refine W.eq (g2 := F0 m 36 ls []) rfl ?_
    refine lv_lconst (v := (0:Int64)) C.1 C.2.1 dX12_wantsNumber_36 (by decide) ?_
    exact rf_lret C G h dX12_wantsNumber_37
noncomputable def bq_wantsNumber_13 (x1 : Int64) (x3 : Int64) (v0 : Int32) (ρ : rf_S) : Option (Int64 × rf_S) := (if v0 = 0 then bq_wantsNumber_24 x1 x3 v0 ρ else bd1 (fq_next ρ) (fun ρ_4 => bq_wantsNumber_24 x1 x3 v0 ρ_4))
set_option maxHeartbeats 4000000 in
theorem wq_wantsNumber_13 (C : rf_C D p s m args meth c cX12_wantsNumber 8 (some .long)) {r : Int64} {x1 : Int64} {x3 : Int64} {v0 : Int32} {ρ ρ' : rf_S} {H : Heap} {locs : List Loc} {ls : Array Slot} (h : bq_wantsNumber_13 x1 x3 v0 ρ = some (r, ρ')) (G : rf_G D h0 s ρ H locs) (hl : lv_has ls 8 [(0, .ref h0), (1, .long x1), (3, .long x3)]) : W p l e ({ frames := 4, cells := 0, slots := 0, locals := 83 }) s m args below meth c H locs 0 0 (MQ below (rf_Q D h0 (some (.long r)) ρ') args s 0 0 (rf_A h0)) (F0 m 13 ls [.int v0]) := by
  unfold bq_wantsNumber_13 at h
  refine lv_istore (lv' := [(5, .int v0), (0, .ref h0), (1, .long x1), (3, .long x3)]) C.1 C.2.1 dX12_wantsNumber_13 hl (by decide) rfl (fun ls hl => ?_)
  refine lv_iload C.1 C.2.1 dX12_wantsNumber_15 (lv_at hl 0 rfl) ?_
  refine lv_if_eq (tgt := 24) C.1 C.2.1 dX12_wantsNumber_17 (by decide) (fun hc => ?_) (fun hc => ?_)
  · rw [if_pos hc] at h
    exact wq_wantsNumber_24 C h G (lv_sub hl [1, 2, 3, 0] rfl)
  · rw [if_neg hc] at h
    refine lv_aload_n C.1 C.2.1 dX12_wantsNumber_20 rfl (lv_at hl 1 rfl) ?_
    obtain ⟨ρ_4, hq, h⟩ := bd1_some h
    refine rf_callV (rest := []) C G cw_next [] _ (kq_next l D h0 hq) (Nat.le_of_ble_eq_true rfl) (Nat.le_of_ble_eq_true rfl) rfl rfl hl.1 (Nat.le_of_ble_eq_true rfl) (Nat.zero_le _) (Nat.zero_le _) dX12_wantsNumber_21 (fun H locs G => ?_)
    refine W.eq (g2 := F0 m 24 ls []) rfl ?_
    exact wq_wantsNumber_24 C h G (lv_sub hl [1, 2, 3, 0] rfl)
noncomputable def bq_wantsNumber_0 (x1 : Int64) (x3 : Int64) (ρ : rf_S) : Option (Int64 × rf_S) := (if (ρ.1 0 44) = (5:Int32) then bq_wantsNumber_13 x1 x3 (1:Int32) ρ else bq_wantsNumber_13 x1 x3 (0:Int32) ρ)
set_option maxHeartbeats 4000000 in
theorem wq_wantsNumber_0 (C : rf_C D p s m args meth c cX12_wantsNumber 8 (some .long)) {r : Int64} {x1 : Int64} {x3 : Int64} {ρ ρ' : rf_S} {H : Heap} {locs : List Loc} {ls : Array Slot} (h : bq_wantsNumber_0 x1 x3 ρ = some (r, ρ')) (G : rf_G D h0 s ρ H locs) (hl : lv_has ls 8 [(0, .ref h0), (1, .long x1), (3, .long x3)]) : W p l e ({ frames := 4, cells := 0, slots := 0, locals := 83 }) s m args below meth c H locs 0 0 (MQ below (rf_Q D h0 (some (.long r)) ρ') args s 0 0 (rf_A h0)) (F0 m 0 ls []) := by
  unfold bq_wantsNumber_0 at h
  refine lv_aload_n C.1 C.2.1 dX12_wantsNumber_0 rfl (lv_at hl 0 rfl) ?_
  refine gf_44 C G dX12_wantsNumber_1 ?_
  refine lv_iconst (v := (5:Int32)) C.1 C.2.1 dX12_wantsNumber_4 (by decide) ?_
  refine lv_icmp_ne (tgt := 12) C.1 C.2.1 dX12_wantsNumber_5 (by decide) (fun hc => ?_) (fun hc => ?_)
  · rw [if_neg hc] at h
    refine lv_iconst (v := (0:Int32)) C.1 C.2.1 dX12_wantsNumber_12 (by decide) ?_
    exact wq_wantsNumber_13 C h G (lv_sub hl [0, 1, 2] rfl)
  · rw [if_pos hc] at h
    refine lv_iconst (v := (1:Int32)) C.1 C.2.1 dX12_wantsNumber_8 (by decide) ?_
    refine lv_goto (tgt := 13) C.1 C.2.1 dX12_wantsNumber_9 (by decide) ?_
    exact wq_wantsNumber_13 C h G (lv_sub hl [0, 1, 2] rfl)
noncomputable def fq_wantsNumber (x1 : Int64) (x3 : Int64) (ρ : rf_S) : Option (Int64 × rf_S) := bq_wantsNumber_0 x1 x3 ρ
theorem kq_wantsNumber (l : Launch) (D : rf_D) (h0 : Nat) {r : Int64} {x1 : Int64} {x3 : Int64} {ρ ρ' : rf_S} (h : fq_wantsNumber x1 x3 ρ = some (r, ρ')) : rf_Met l D h0 yX12_wantsNumber cX12_wantsNumber 8 (some .long) 4 83 [.ref h0, .long x1, .long x3] ρ (some (.long r)) ρ' :=
  rf_of rfl cc_wantsNumber (Nat.le_of_ble_eq_true rfl) (fun p e s m args below meth c ls C G hl => wq_wantsNumber_0 C h G hl)
abbrev cX12_use_ : ByteArray := prog_14_method_31_code
def yX12_use_ : MethodName := ⟨RX12, "use", "(Z)V"⟩
theorem dX12_use__0 : decode cX12_use_ 0 = .ok (.aload_n 0, 1) := by decide +kernel
theorem dX12_use__1 : decode cX12_use_ 1 = .ok (.getfield 83, 3) := by decide +kernel
theorem dX12_use__4 : decode cX12_use_ 4 = .ok (.aload_n 0, 1) := by decide +kernel
theorem dX12_use__5 : decode cX12_use_ 5 = .ok (.getfield 402, 3) := by decide +kernel
theorem dX12_use__8 : decode cX12_use_ 8 = .ok (.aload_n 0, 1) := by decide +kernel
theorem dX12_use__9 : decode cX12_use_ 9 = .ok (.getfield 405, 3) := by decide +kernel
theorem dX12_use__12 : decode cX12_use_ 12 = .ok (.iastore, 1) := by decide +kernel
theorem dX12_use__13 : decode cX12_use_ 13 = .ok (.aload_n 0, 1) := by decide +kernel
theorem dX12_use__14 : decode cX12_use_ 14 = .ok (.getfield 86, 3) := by decide +kernel
theorem dX12_use__17 : decode cX12_use_ 17 = .ok (.aload_n 0, 1) := by decide +kernel
theorem dX12_use__18 : decode cX12_use_ 18 = .ok (.getfield 402, 3) := by decide +kernel
theorem dX12_use__21 : decode cX12_use_ 21 = .ok (.aload_n 0, 1) := by decide +kernel
theorem dX12_use__22 : decode cX12_use_ 22 = .ok (.getfield 354, 3) := by decide +kernel
theorem dX12_use__25 : decode cX12_use_ 25 = .ok (.iastore, 1) := by decide +kernel
theorem dX12_use__26 : decode cX12_use_ 26 = .ok (.aload_n 0, 1) := by decide +kernel
theorem dX12_use__27 : decode cX12_use_ 27 = .ok (.getfield 89, 3) := by decide +kernel
theorem dX12_use__30 : decode cX12_use_ 30 = .ok (.aload_n 0, 1) := by decide +kernel
theorem dX12_use__31 : decode cX12_use_ 31 = .ok (.getfield 402, 3) := by decide +kernel
theorem dX12_use__34 : decode cX12_use_ 34 = .ok (.aload_n 0, 1) := by decide +kernel
theorem dX12_use__35 : decode cX12_use_ 35 = .ok (.getfield 369, 3) := by decide +kernel
theorem dX12_use__38 : decode cX12_use_ 38 = .ok (.lastore, 1) := by decide +kernel
theorem dX12_use__39 : decode cX12_use_ 39 = .ok (.aload_n 0, 1) := by decide +kernel
theorem dX12_use__40 : decode cX12_use_ 40 = .ok (.getfield 92, 3) := by decide +kernel
theorem dX12_use__43 : decode cX12_use_ 43 = .ok (.aload_n 0, 1) := by decide +kernel
theorem dX12_use__44 : decode cX12_use_ 44 = .ok (.getfield 402, 3) := by decide +kernel
theorem dX12_use__47 : decode cX12_use_ 47 = .ok (.iload_n 1, 1) := by decide +kernel
theorem dX12_use__48 : decode cX12_use_ 48 = .ok (.bastore, 1) := by decide +kernel
theorem dX12_use__49 : decode cX12_use_ 49 = .ok (.aload_n 0, 1) := by decide +kernel
theorem dX12_use__50 : decode cX12_use_ 50 = .ok (.dup, 1) := by decide +kernel
theorem dX12_use__51 : decode cX12_use_ 51 = .ok (.getfield 402, 3) := by decide +kernel
theorem dX12_use__54 : decode cX12_use_ 54 = .ok (.iconst 1, 1) := by decide +kernel
theorem dX12_use__55 : decode cX12_use_ 55 = .ok (.iadd, 1) := by decide +kernel
theorem dX12_use__56 : decode cX12_use_ 56 = .ok (.putfield 402, 3) := by decide +kernel
theorem dX12_use__59 : decode cX12_use_ 59 = .ok (.aload_n 0, 1) := by decide +kernel
theorem dX12_use__60 : decode cX12_use_ 60 = .ok (.invokevirtual 392, 3) := by decide +kernel
theorem dX12_use__63 : decode cX12_use_ 63 = .ok (.return_, 1) := by decide +kernel
theorem cc_use_ : Cond.code yX12_use_ cX12_use_ 2 none ∈ rf_tb := rf_at 1969 (by decide +kernel) (by decide +kernel)
theorem cw_use_ : rf_wV yX12_use_ cX12_use_ 2 none 416 1 := ⟨⟨rf_at 1966 (by decide +kernel) (by decide +kernel), rf_at 1968 (by decide +kernel) (by decide +kernel), rf_sel (q := (yX12_use_, 122)) 91 (by decide +kernel) (by decide +kernel), cc_use_⟩, rfl, by decide +kernel⟩
noncomputable def bq_use__0 (x1 : Int32) (ρ : rf_S) : Option (rf_S) := ix (ρ.1 0 38) 2048 (vl (rf_w ρ 21 (ρ.1 0 38).toNatClampNeg (ρ.1 0 30)) (fun ρ_1 => ix (ρ_1.1 0 38) 2048 (vl (rf_w ρ_1 22 (ρ_1.1 0 38).toNatClampNeg (ρ_1.1 0 45)) (fun ρ_2 => ix (ρ_2.1 0 38) 2048 (vl (rf_wl ρ_2 23 (ρ_2.1 0 38).toNatClampNeg (ρ_2.2 0 46)) (fun ρ_3 => ix (ρ_3.1 0 38) 2048 (vl (rf_w ρ_3 24 (ρ_3.1 0 38).toNatClampNeg (vp_nar .boolean x1)) (fun ρ_4 => vl (rf_w ρ_4 0 38 ((ρ_4.1 0 38) + (1:Int32))) (fun ρ_5 => bd1 (fq_next ρ_5) (fun ρ_6 => some ρ_6))))))))))
set_option maxHeartbeats 4000000 in
theorem wq_use__0 (C : rf_C D p s m args meth c cX12_use_ 2 none) {x1 : Int32} {ρ ρ' : rf_S} {H : Heap} {locs : List Loc} {ls : Array Slot} (h : bq_use__0 x1 ρ = some ρ') (G : rf_G D h0 s ρ H locs) (hl : lv_has ls 2 [(0, .ref h0), (1, .int x1)]) : W p l e ({ frames := 4, cells := 0, slots := 0, locals := 83 }) s m args below meth c H locs 0 0 (MQ below (rf_Q D h0 none ρ') args s 0 0 (rf_A h0)) (F0 m 0 ls []) := by
  unfold bq_use__0 at h
  refine lv_aload_n C.1 C.2.1 dX12_use__0 rfl (lv_at hl 0 rfl) ?_
  refine gf_34 C G dX12_use__1 ?_
  refine lv_aload_n C.1 C.2.1 dX12_use__4 rfl (lv_at hl 0 rfl) ?_
  refine gf_38 C G dX12_use__5 ?_
  refine lv_aload_n C.1 C.2.1 dX12_use__8 rfl (lv_at hl 0 rfl) ?_
  refine gf_30 C G dX12_use__9 ?_
  obtain ⟨hi, h⟩ := ix_some h
  refine rf_iast C G 21 rfl (by decide) rfl rfl hi dX12_use__12 (fun H locs G => ?_)
  refine rf_nm G h (fun ρ_1 G h => ?_)
  refine lv_aload_n C.1 C.2.1 dX12_use__13 rfl (lv_at hl 0 rfl) ?_
  refine gf_35 C G dX12_use__14 ?_
  refine lv_aload_n C.1 C.2.1 dX12_use__17 rfl (lv_at hl 0 rfl) ?_
  refine gf_38 C G dX12_use__18 ?_
  refine lv_aload_n C.1 C.2.1 dX12_use__21 rfl (lv_at hl 0 rfl) ?_
  refine gf_45 C G dX12_use__22 ?_
  obtain ⟨hi, h⟩ := ix_some h
  refine rf_iast C G 22 rfl (by decide) rfl rfl hi dX12_use__25 (fun H locs G => ?_)
  refine rf_nm G h (fun ρ_2 G h => ?_)
  refine lv_aload_n C.1 C.2.1 dX12_use__26 rfl (lv_at hl 0 rfl) ?_
  refine gf_36 C G dX12_use__27 ?_
  refine lv_aload_n C.1 C.2.1 dX12_use__30 rfl (lv_at hl 0 rfl) ?_
  refine gf_38 C G dX12_use__31 ?_
  refine lv_aload_n C.1 C.2.1 dX12_use__34 rfl (lv_at hl 0 rfl) ?_
  refine gf_46 C G dX12_use__35 ?_
  obtain ⟨hi, h⟩ := ix_some h
  refine rf_last C G 23 rfl (by decide) rfl rfl hi dX12_use__38 (fun H locs G => ?_)
  refine rf_nm G h (fun ρ_3 G h => ?_)
  refine lv_aload_n C.1 C.2.1 dX12_use__39 rfl (lv_at hl 0 rfl) ?_
  refine gf_37 C G dX12_use__40 ?_
  refine lv_aload_n C.1 C.2.1 dX12_use__43 rfl (lv_at hl 0 rfl) ?_
  refine gf_38 C G dX12_use__44 ?_
  refine lv_iload_n C.1 C.2.1 dX12_use__47 rfl (lv_at hl 1 rfl) ?_
  obtain ⟨hi, h⟩ := ix_some h
  refine rf_zast C G 24 rfl (by decide) rfl rfl hi dX12_use__48 (fun H locs G => ?_)
  refine rf_nm G h (fun ρ_4 G h => ?_)
  refine lv_aload_n C.1 C.2.1 dX12_use__49 rfl (lv_at hl 0 rfl) ?_
  refine lv_dup C.1 C.2.1 dX12_use__50 rfl ?_
  refine gf_38 C G dX12_use__51 ?_
  refine lv_iconst (v := (1:Int32)) C.1 C.2.1 dX12_use__54 (by decide) ?_
  refine lv_iadd C.1 C.2.1 dX12_use__55 ?_
  refine pf_38 C G dX12_use__56 (fun H locs G => ?_)
  refine rf_nm G h (fun ρ_5 G h => ?_)
  refine lv_aload_n C.1 C.2.1 dX12_use__59 rfl (lv_at hl 0 rfl) ?_
  obtain ⟨ρ_6, hq, h⟩ := bd1_some h
  refine rf_callV (rest := []) C G cw_next [] _ (kq_next l D h0 hq) (Nat.le_of_ble_eq_true rfl) (Nat.le_of_ble_eq_true rfl) rfl rfl hl.1 (Nat.le_of_ble_eq_true rfl) (Nat.zero_le _) (Nat.zero_le _) dX12_use__60 (fun H locs G => ?_)
  refine W.eq (g2 := F0 m 63 ls []) rfl ?_
  exact rf_vret C G h dX12_use__63
noncomputable def fq_use_ (x1 : Int32) (ρ : rf_S) : Option (rf_S) := bq_use__0 x1 ρ
theorem kq_use_ (l : Launch) (D : rf_D) (h0 : Nat) {x1 : Int32} {ρ ρ' : rf_S} (h : fq_use_ x1 ρ = some ρ') : rf_Met l D h0 yX12_use_ cX12_use_ 2 none 4 83 [.ref h0, .int x1] ρ none ρ' :=
  rf_of rfl cc_use_ (Nat.le_of_ble_eq_true rfl) (fun p e s m args below meth c ls C G hl => wq_use__0 C h G hl)
abbrev cX12_wantsWay : ByteArray := prog_14_method_32_code
def yX12_wantsWay : MethodName := ⟨RX12, "wantsWay", "()J"⟩
theorem dX12_wantsWay_0 : decode cX12_wantsWay 0 = .ok (.aload_n 0, 1) := by decide +kernel
theorem dX12_wantsWay_1 : decode cX12_wantsWay 1 = .ok (.getfield 357, 3) := by decide +kernel
theorem dX12_wantsWay_4 : decode cX12_wantsWay 4 = .ok (.iconst 1, 1) := by decide +kernel
theorem dX12_wantsWay_5 : decode cX12_wantsWay 5 = .ok (.if_icmp .eq 14, 3) := by decide +kernel
theorem dX12_wantsWay_8 : decode cX12_wantsWay 8 = .ok (.aload_n 0, 1) := by decide +kernel
theorem dX12_wantsWay_9 : decode cX12_wantsWay 9 = .ok (.ldc2_w 408, 3) := by decide +kernel
theorem dX12_wantsWay_12 : decode cX12_wantsWay 12 = .ok (.ldc2_w 410, 3) := by decide +kernel
theorem dX12_wantsWay_15 : decode cX12_wantsWay 15 = .ok (.invokevirtual 412, 3) := by decide +kernel
theorem dX12_wantsWay_18 : decode cX12_wantsWay 18 = .ok (.lreturn, 1) := by decide +kernel
theorem dX12_wantsWay_19 : decode cX12_wantsWay 19 = .ok (.aload_n 0, 1) := by decide +kernel
theorem dX12_wantsWay_20 : decode cX12_wantsWay 20 = .ok (.iconst 0, 1) := by decide +kernel
theorem dX12_wantsWay_21 : decode cX12_wantsWay 21 = .ok (.invokevirtual 416, 3) := by decide +kernel
theorem dX12_wantsWay_24 : decode cX12_wantsWay 24 = .ok (.lconst 0, 1) := by decide +kernel
theorem dX12_wantsWay_25 : decode cX12_wantsWay 25 = .ok (.lreturn, 1) := by decide +kernel
theorem cc_wantsWay : Cond.code yX12_wantsWay cX12_wantsWay 1 (some .long) ∈ rf_tb := rf_at 1990 (by decide +kernel) (by decide +kernel)
theorem cw_wantsWay : rf_wV yX12_wantsWay cX12_wantsWay 1 (some .long) 441 0 := ⟨⟨rf_at 1987 (by decide +kernel) (by decide +kernel), rf_at 1989 (by decide +kernel) (by decide +kernel), rf_sel (q := (yX12_wantsWay, 122)) 95 (by decide +kernel) (by decide +kernel), cc_wantsWay⟩, rfl, by decide +kernel⟩
theorem kc_408 : Cond.constantLong RX12 408 (-131072 : Int64) ∈ rf_tb := rf_at 1991 (by decide +kernel) (by decide +kernel)
theorem kc_410 : Cond.constantLong RX12 410 (131071 : Int64) ∈ rf_tb := rf_at 1992 (by decide +kernel) (by decide +kernel)
noncomputable def bq_wantsWay_0  (ρ : rf_S) : Option (Int64 × rf_S) := (if (ρ.1 0 44) = (1:Int32) then bd1 (fq_use_ (0:Int32) ρ) (fun ρ_1 => some ((0:Int64), ρ_1)) else bd2 (fq_wantsNumber (-131072:Int64) (131071:Int64) ρ) (fun r_3 ρ_2 => some (r_3, ρ_2)))
set_option maxHeartbeats 4000000 in
theorem wq_wantsWay_0 (C : rf_C D p s m args meth c cX12_wantsWay 1 (some .long)) {r : Int64} {ρ ρ' : rf_S} {H : Heap} {locs : List Loc} {ls : Array Slot} (h : bq_wantsWay_0 ρ = some (r, ρ')) (G : rf_G D h0 s ρ H locs) (hl : lv_has ls 1 [(0, .ref h0)]) : W p l e ({ frames := 5, cells := 0, slots := 0, locals := 110 }) s m args below meth c H locs 0 0 (MQ below (rf_Q D h0 (some (.long r)) ρ') args s 0 0 (rf_A h0)) (F0 m 0 ls []) := by
  unfold bq_wantsWay_0 at h
  refine lv_aload_n C.1 C.2.1 dX12_wantsWay_0 rfl (lv_at hl 0 rfl) ?_
  refine gf_44 C G dX12_wantsWay_1 ?_
  refine lv_iconst (v := (1:Int32)) C.1 C.2.1 dX12_wantsWay_4 (by decide) ?_
  refine lv_icmp_eq (tgt := 19) C.1 C.2.1 dX12_wantsWay_5 (by decide) (fun hc => ?_) (fun hc => ?_)
  · rw [if_pos hc] at h
    refine lv_aload_n C.1 C.2.1 dX12_wantsWay_19 rfl (lv_at hl 0 rfl) ?_
    refine lv_iconst (v := (0:Int32)) C.1 C.2.1 dX12_wantsWay_20 (by decide) ?_
    obtain ⟨ρ_1, hq, h⟩ := bd1_some h
    refine rf_callV (rest := []) C G cw_use_ [.int (0:Int32)] _ (kq_use_ l D h0 hq) (Nat.le_of_ble_eq_true rfl) (Nat.le_of_ble_eq_true rfl) rfl rfl hl.1 (Nat.le_of_ble_eq_true rfl) (Nat.zero_le _) (Nat.zero_le _) dX12_wantsWay_21 (fun H locs G => ?_)
    refine W.eq (g2 := F0 m 24 ls []) rfl ?_
    refine lv_lconst (v := (0:Int64)) C.1 C.2.1 dX12_wantsWay_24 (by decide) ?_
    exact rf_lret C G h dX12_wantsWay_25
  · rw [if_neg hc] at h
    refine lv_aload_n C.1 C.2.1 dX12_wantsWay_8 rfl (lv_at hl 0 rfl) ?_
    refine lv_ldc2 (v := (-131072:Int64)) C.1 C.2.1 C.2.2.2.1 (C.2.2.2.2.1 _ kc_408) dX12_wantsWay_9 ?_
    refine lv_ldc2 (v := (131071:Int64)) C.1 C.2.1 C.2.2.2.1 (C.2.2.2.2.1 _ kc_410) dX12_wantsWay_12 ?_
    obtain ⟨r_3, ρ_2, hq, h⟩ := bd2_some h
    refine rf_callV (rest := []) C G cw_wantsNumber [.long (-131072:Int64), .long (131071:Int64)] _ (kq_wantsNumber l D h0 hq) (Nat.le_of_ble_eq_true rfl) (Nat.le_of_ble_eq_true rfl) rfl rfl hl.1 (Nat.le_of_ble_eq_true rfl) (Nat.zero_le _) (Nat.zero_le _) dX12_wantsWay_15 (fun H locs G => ?_)
    refine W.eq (g2 := F0 m 18 ls [.long r_3]) rfl ?_
    exact rf_lret C G h dX12_wantsWay_18
noncomputable def fq_wantsWay  (ρ : rf_S) : Option (Int64 × rf_S) := bq_wantsWay_0 ρ
theorem kq_wantsWay (l : Launch) (D : rf_D) (h0 : Nat) {r : Int64} {ρ ρ' : rf_S} (h : fq_wantsWay ρ = some (r, ρ')) : rf_Met l D h0 yX12_wantsWay cX12_wantsWay 1 (some .long) 5 110 [.ref h0] ρ (some (.long r)) ρ' :=
  rf_of rfl cc_wantsWay (Nat.le_of_ble_eq_true rfl) (fun p e s m args below meth c ls C G hl => wq_wantsWay_0 C h G hl)
abbrev cX12_label : ByteArray := prog_14_method_33_code
def yX12_label : MethodName := ⟨RX12, "label", "(JI)V"⟩
theorem dX12_label_0 : decode cX12_label 0 = .ok (.iconst 0, 1) := by decide +kernel
theorem dX12_label_1 : decode cX12_label 1 = .ok (.istore 4, 2) := by decide +kernel
theorem dX12_label_3 : decode cX12_label 3 = .ok (.iload 4, 2) := by decide +kernel
theorem dX12_label_5 : decode cX12_label 5 = .ok (.aload_n 0, 1) := by decide +kernel
theorem dX12_label_6 : decode cX12_label 6 = .ok (.getfield 419, 3) := by decide +kernel
theorem dX12_label_9 : decode cX12_label 9 = .ok (.if_icmp .ge 27, 3) := by decide +kernel
theorem dX12_label_12 : decode cX12_label 12 = .ok (.aload_n 0, 1) := by decide +kernel
theorem dX12_label_13 : decode cX12_label 13 = .ok (.getfield 77, 3) := by decide +kernel
theorem dX12_label_16 : decode cX12_label 16 = .ok (.iload 4, 2) := by decide +kernel
theorem dX12_label_18 : decode cX12_label 18 = .ok (.laload, 1) := by decide +kernel
theorem dX12_label_19 : decode cX12_label 19 = .ok (.lload_n 1, 1) := by decide +kernel
theorem dX12_label_20 : decode cX12_label 20 = .ok (.lcmp, 1) := by decide +kernel
theorem dX12_label_21 : decode cX12_label 21 = .ok (.ifCond .ne 9, 3) := by decide +kernel
theorem dX12_label_24 : decode cX12_label 24 = .ok (.aload_n 0, 1) := by decide +kernel
theorem dX12_label_25 : decode cX12_label 25 = .ok (.iconst 4, 1) := by decide +kernel
theorem dX12_label_26 : decode cX12_label 26 = .ok (.iload_n 3, 1) := by decide +kernel
theorem dX12_label_27 : decode cX12_label 27 = .ok (.invokevirtual 389, 3) := by decide +kernel
theorem dX12_label_30 : decode cX12_label 30 = .ok (.iinc 4 1, 3) := by decide +kernel
theorem dX12_label_33 : decode cX12_label 33 = .ok (.goto (-30), 3) := by decide +kernel
theorem dX12_label_36 : decode cX12_label 36 = .ok (.aload_n 0, 1) := by decide +kernel
theorem dX12_label_37 : decode cX12_label 37 = .ok (.getfield 419, 3) := by decide +kernel
theorem dX12_label_40 : decode cX12_label 40 = .ok (.sipush 200, 3) := by decide +kernel
theorem dX12_label_43 : decode cX12_label 43 = .ok (.if_icmp .ne 10, 3) := by decide +kernel
theorem dX12_label_46 : decode cX12_label 46 = .ok (.aload_n 0, 1) := by decide +kernel
theorem dX12_label_47 : decode cX12_label 47 = .ok (.bipush 6, 2) := by decide +kernel
theorem dX12_label_49 : decode cX12_label 49 = .ok (.iload_n 3, 1) := by decide +kernel
theorem dX12_label_50 : decode cX12_label 50 = .ok (.invokevirtual 389, 3) := by decide +kernel
theorem dX12_label_53 : decode cX12_label 53 = .ok (.aload_n 0, 1) := by decide +kernel
theorem dX12_label_54 : decode cX12_label 54 = .ok (.getfield 383, 3) := by decide +kernel
theorem dX12_label_57 : decode cX12_label 57 = .ok (.ifCond .le 4, 3) := by decide +kernel
theorem dX12_label_60 : decode cX12_label 60 = .ok (.return_, 1) := by decide +kernel
theorem dX12_label_61 : decode cX12_label 61 = .ok (.aload_n 0, 1) := by decide +kernel
theorem dX12_label_62 : decode cX12_label 62 = .ok (.getfield 77, 3) := by decide +kernel
theorem dX12_label_65 : decode cX12_label 65 = .ok (.aload_n 0, 1) := by decide +kernel
theorem dX12_label_66 : decode cX12_label 66 = .ok (.getfield 419, 3) := by decide +kernel
theorem dX12_label_69 : decode cX12_label 69 = .ok (.lload_n 1, 1) := by decide +kernel
theorem dX12_label_70 : decode cX12_label 70 = .ok (.lastore, 1) := by decide +kernel
theorem dX12_label_71 : decode cX12_label 71 = .ok (.aload_n 0, 1) := by decide +kernel
theorem dX12_label_72 : decode cX12_label 72 = .ok (.getfield 80, 3) := by decide +kernel
theorem dX12_label_75 : decode cX12_label 75 = .ok (.aload_n 0, 1) := by decide +kernel
theorem dX12_label_76 : decode cX12_label 76 = .ok (.getfield 419, 3) := by decide +kernel
theorem dX12_label_79 : decode cX12_label 79 = .ok (.aload_n 0, 1) := by decide +kernel
theorem dX12_label_80 : decode cX12_label 80 = .ok (.getfield 405, 3) := by decide +kernel
theorem dX12_label_83 : decode cX12_label 83 = .ok (.iastore, 1) := by decide +kernel
theorem dX12_label_84 : decode cX12_label 84 = .ok (.aload_n 0, 1) := by decide +kernel
theorem dX12_label_85 : decode cX12_label 85 = .ok (.dup, 1) := by decide +kernel
theorem dX12_label_86 : decode cX12_label 86 = .ok (.getfield 419, 3) := by decide +kernel
theorem dX12_label_89 : decode cX12_label 89 = .ok (.iconst 1, 1) := by decide +kernel
theorem dX12_label_90 : decode cX12_label 90 = .ok (.iadd, 1) := by decide +kernel
theorem dX12_label_91 : decode cX12_label 91 = .ok (.putfield 419, 3) := by decide +kernel
theorem dX12_label_94 : decode cX12_label 94 = .ok (.return_, 1) := by decide +kernel
theorem cc_label : Cond.code yX12_label cX12_label 5 none ∈ rf_tb := rf_at 1948 (by decide +kernel) (by decide +kernel)
theorem cw_label : rf_wV yX12_label cX12_label 5 none 446 2 := ⟨⟨rf_at 1945 (by decide +kernel) (by decide +kernel), rf_at 1947 (by decide +kernel) (by decide +kernel), rf_sel (q := (yX12_label, 122)) 86 (by decide +kernel) (by decide +kernel), cc_label⟩, rfl, by decide +kernel⟩
noncomputable def bq_label_30i3 (x1 : Int64) (x3 : Int32) (x4 : Int32) (ρ : rf_S) : Option ((Int32 × rf_S) ⊕ (Int32 × rf_S)) := vl (x4 + (1:Int32)) (fun x4_1 => some (.inl (x4_1, ρ)))
set_option maxHeartbeats 4000000 in
theorem wq_label_30i3 (C : rf_C D p s m args meth c cX12_label 5 none) {x1 : Int64} {x3 : Int32} {x4 : Int32} {ρ ρ' : rf_S} {H : Heap} {locs : List Loc} {ls : Array Slot} {o : (Int32 × rf_S) ⊕ (Int32 × rf_S)} (h : bq_label_30i3 x1 x3 x4 ρ = some o) (hP : Sum.elim (fun z : (Int32 × rf_S) => ∀ (H : Heap) (locs : List Loc) (ls : Array Slot), rf_G D h0 s z.2 H locs → lv_has ls 5 [(0, .ref h0), (1, .long x1), (3, .int x3), (4, .int z.1)] → W p l e ({ frames := 1, cells := 0, slots := 0, locals := 22 }) s m args below meth c H locs 0 0 (MQ below (rf_Q D h0 none ρ') args s 0 0 (rf_A h0)) (F0 m 3 ls [])) (fun z : (Int32 × rf_S) => ∀ (H : Heap) (locs : List Loc) (ls : Array Slot), rf_G D h0 s z.2 H locs → lv_has ls 5 [(0, .ref h0), (1, .long x1), (3, .int x3), (4, .int z.1)] → W p l e ({ frames := 1, cells := 0, slots := 0, locals := 22 }) s m args below meth c H locs 0 0 (MQ below (rf_Q D h0 none ρ') args s 0 0 (rf_A h0)) (F0 m 36 ls [])) o) (G : rf_G D h0 s ρ H locs) (hl : lv_has ls 5 [(0, .ref h0), (1, .long x1), (3, .int x3), (4, .int x4)]) : W p l e ({ frames := 1, cells := 0, slots := 0, locals := 22 }) s m args below meth c H locs 0 0 (MQ below (rf_Q D h0 none ρ') args s 0 0 (rf_A h0)) (F0 m 30 ls []) := by
  unfold bq_label_30i3 at h
  refine vl_ex h (fun x4_1 ey h => ?_)
  refine lv_iinc (v := x4_1) (lv' := [(4, .int x4_1), (0, .ref h0), (1, .long x1), (3, .int x3)]) C.1 C.2.1 dX12_label_30 hl (k := 3) rfl (by rw [ey]; rfl) (by decide) rfl (fun ls hl => ?_)
  refine lv_goto (tgt := 3) C.1 C.2.1 dX12_label_33 (by decide) ?_
  cases h
  exact hP _ _ _ G (lv_sub hl [1, 2, 3, 0] rfl)
noncomputable def lq_label_3 (x1 : Int64) (x3 : Int32) (x4 : Int32) (ρ : rf_S) : Option ((Int32 × rf_S) ⊕ (Int32 × rf_S)) := (if (ρ.1 0 33) ≤ x4 then some (.inr (x4, ρ)) else ix x4 200 ((if (lg_cmp (ρ.2 19 x4.toNatClampNeg) x1) = 0 then bd1 (fq_fault (4:Int32) x3 ρ) (fun ρ_2 => bq_label_30i3 x1 x3 x4 ρ_2) else bq_label_30i3 x1 x3 x4 ρ)))
noncomputable def bq_label_53 (x1 : Int64) (ρ : rf_S) : Option (rf_S) := (if (ρ.1 0 39) ≤ 0 then ix (ρ.1 0 33) 200 (vl (rf_wl ρ 19 (ρ.1 0 33).toNatClampNeg x1) (fun ρ_3 => ix (ρ_3.1 0 33) 200 (vl (rf_w ρ_3 20 (ρ_3.1 0 33).toNatClampNeg (ρ_3.1 0 30)) (fun ρ_4 => vl (rf_w ρ_4 0 33 ((ρ_4.1 0 33) + (1:Int32))) (fun ρ_5 => some ρ_5))))) else some ρ)
set_option maxHeartbeats 4000000 in
theorem wq_label_53 (C : rf_C D p s m args meth c cX12_label 5 none) {x1 : Int64} {ρ ρ' : rf_S} {H : Heap} {locs : List Loc} {ls : Array Slot} (h : bq_label_53 x1 ρ = some ρ') (G : rf_G D h0 s ρ H locs) (hl : lv_has ls 5 [(0, .ref h0), (1, .long x1)]) : W p l e ({ frames := 1, cells := 0, slots := 0, locals := 22 }) s m args below meth c H locs 0 0 (MQ below (rf_Q D h0 none ρ') args s 0 0 (rf_A h0)) (F0 m 53 ls []) := by
  unfold bq_label_53 at h
  refine lv_aload_n C.1 C.2.1 dX12_label_53 rfl (lv_at hl 0 rfl) ?_
  refine gf_39 C G dX12_label_54 ?_
  refine lv_if_le (tgt := 61) C.1 C.2.1 dX12_label_57 (by decide) (fun hc => ?_) (fun hc => ?_)
  · rw [if_pos hc] at h
    refine lv_aload_n C.1 C.2.1 dX12_label_61 rfl (lv_at hl 0 rfl) ?_
    refine gf_31 C G dX12_label_62 ?_
    refine lv_aload_n C.1 C.2.1 dX12_label_65 rfl (lv_at hl 0 rfl) ?_
    refine gf_33 C G dX12_label_66 ?_
    refine lv_lload_n C.1 C.2.1 dX12_label_69 rfl (lv_at hl 1 rfl) ?_
    obtain ⟨hi, h⟩ := ix_some h
    refine rf_last C G 19 rfl (by decide) rfl rfl hi dX12_label_70 (fun H locs G => ?_)
    refine rf_nm G h (fun ρ_3 G h => ?_)
    refine lv_aload_n C.1 C.2.1 dX12_label_71 rfl (lv_at hl 0 rfl) ?_
    refine gf_32 C G dX12_label_72 ?_
    refine lv_aload_n C.1 C.2.1 dX12_label_75 rfl (lv_at hl 0 rfl) ?_
    refine gf_33 C G dX12_label_76 ?_
    refine lv_aload_n C.1 C.2.1 dX12_label_79 rfl (lv_at hl 0 rfl) ?_
    refine gf_30 C G dX12_label_80 ?_
    obtain ⟨hi, h⟩ := ix_some h
    refine rf_iast C G 20 rfl (by decide) rfl rfl hi dX12_label_83 (fun H locs G => ?_)
    refine rf_nm G h (fun ρ_4 G h => ?_)
    refine lv_aload_n C.1 C.2.1 dX12_label_84 rfl (lv_at hl 0 rfl) ?_
    refine lv_dup C.1 C.2.1 dX12_label_85 rfl ?_
    refine gf_33 C G dX12_label_86 ?_
    refine lv_iconst (v := (1:Int32)) C.1 C.2.1 dX12_label_89 (by decide) ?_
    refine lv_iadd C.1 C.2.1 dX12_label_90 ?_
    refine pf_33 C G dX12_label_91 (fun H locs G => ?_)
    refine rf_nm G h (fun ρ_5 G h => ?_)
    exact rf_vret C G h dX12_label_94
  · rw [if_neg hc] at h
    exact rf_vret C G h dX12_label_60
noncomputable def eq_label_3 (x1 : Int64) (x3 : Int32) (x4 : Int32) (ρ : rf_S) : Option (rf_S) := (if (ρ.1 0 33) = (200:Int32) then bd1 (fq_fault (6:Int32) x3 ρ) (fun ρ_6 => bq_label_53 x1 ρ_6) else bq_label_53 x1 ρ)
noncomputable def bq_label_3 (x1 : Int64) (x3 : Int32) (x4 : Int32) (ρ : rf_S) : Option (rf_S) := (lp (fun z : (Int32 × rf_S) => lq_label_3 x1 x3 z.1 z.2) (x4, ρ)).bind (fun z => eq_label_3 x1 x3 z.1 z.2)
set_option maxHeartbeats 4000000 in
theorem wq_label_3 (C : rf_C D p s m args meth c cX12_label 5 none) {x1 : Int64} {x3 : Int32} {x4 : Int32} {ρ ρ' : rf_S} {H : Heap} {locs : List Loc} {ls : Array Slot} (h : bq_label_3 x1 x3 x4 ρ = some ρ') (G : rf_G D h0 s ρ H locs) (hl : lv_has ls 5 [(0, .ref h0), (1, .long x1), (3, .int x3), (4, .int x4)]) : W p l e ({ frames := 1, cells := 0, slots := 0, locals := 22 }) s m args below meth c H locs 0 0 (MQ below (rf_Q D h0 none ρ') args s 0 0 (rf_A h0)) (F0 m 3 ls []) := by
  unfold bq_label_3 at h
  obtain ⟨y, hy, h⟩ := bd_some h
  have hE : (fun z : (Int32 × rf_S) => ∀ (H : Heap) (locs : List Loc) (ls : Array Slot), rf_G D h0 s z.2 H locs → lv_has ls 5 [(0, .ref h0), (1, .long x1), (3, .int x3), (4, .int z.1)] → W p l e ({ frames := 1, cells := 0, slots := 0, locals := 22 }) s m args below meth c H locs 0 0 (MQ below (rf_Q D h0 none ρ') args s 0 0 (rf_A h0)) (F0 m 36 ls [])) y := by
    intro H locs ls G hl
    obtain ⟨x4, ρ⟩ := y
    dsimp only at h G hl
    unfold eq_label_3 at h
    refine lv_aload_n C.1 C.2.1 dX12_label_36 rfl (lv_at hl 0 rfl) ?_
    refine gf_33 C G dX12_label_37 ?_
    refine lv_sipush (v := (200:Int32)) C.1 C.2.1 dX12_label_40 (by decide) ?_
    refine lv_icmp_ne (tgt := 53) C.1 C.2.1 dX12_label_43 (by decide) (fun hc => ?_) (fun hc => ?_)
    · rw [if_neg hc] at h
      exact wq_label_53 C h G (lv_sub hl [0, 1] rfl)
    · rw [if_pos hc] at h
      refine lv_aload_n C.1 C.2.1 dX12_label_46 rfl (lv_at hl 0 rfl) ?_
      refine lv_bipush (v := (6:Int32)) C.1 C.2.1 dX12_label_47 (by decide) ?_
      refine lv_iload_n C.1 C.2.1 dX12_label_49 rfl (lv_at hl 2 rfl) ?_
      obtain ⟨ρ_6, hq, h⟩ := bd1_some h
      refine rf_callV (rest := []) C G cw_fault [.int (6:Int32), .int x3] _ (kq_fault l D h0 hq) (Nat.le_of_ble_eq_true rfl) (Nat.le_of_ble_eq_true rfl) rfl rfl hl.1 (Nat.le_of_ble_eq_true rfl) (Nat.zero_le _) (Nat.zero_le _) dX12_label_50 (fun H locs G => ?_)
      refine W.eq (g2 := F0 m 53 ls []) rfl ?_
      exact wq_label_53 C h G (lv_sub hl [0, 1] rfl)
  refine lp_recE (fun z : (Int32 × rf_S) => ∀ (H : Heap) (locs : List Loc) (ls : Array Slot), rf_G D h0 s z.2 H locs → lv_has ls 5 [(0, .ref h0), (1, .long x1), (3, .int x3), (4, .int z.1)] → W p l e ({ frames := 1, cells := 0, slots := 0, locals := 22 }) s m args below meth c H locs 0 0 (MQ below (rf_Q D h0 none ρ') args s 0 0 (rf_A h0)) (F0 m 3 ls [])) (fun z : (Int32 × rf_S) => ∀ (H : Heap) (locs : List Loc) (ls : Array Slot), rf_G D h0 s z.2 H locs → lv_has ls 5 [(0, .ref h0), (1, .long x1), (3, .int x3), (4, .int z.1)] → W p l e ({ frames := 1, cells := 0, slots := 0, locals := 22 }) s m args below meth c H locs 0 0 (MQ below (rf_Q D h0 none ρ') args s 0 0 (rf_A h0)) (F0 m 36 ls [])) ?_ _ _ hy hE _ _ _ G hl
  clear hE hy G hl h
  intro z o h hP H locs ls G hl
  obtain ⟨x4, ρ⟩ := z
  dsimp only at h G hl
  unfold lq_label_3 at h
  refine lv_iload C.1 C.2.1 dX12_label_3 (lv_at hl 3 rfl) ?_
  refine lv_aload_n C.1 C.2.1 dX12_label_5 rfl (lv_at hl 0 rfl) ?_
  refine gf_33 C G dX12_label_6 ?_
  refine lv_icmp_ge (tgt := 36) C.1 C.2.1 dX12_label_9 (by decide) (fun hc => ?_) (fun hc => ?_)
  · rw [if_pos hc] at h
    cases h
    exact hP _ _ _ G (lv_sub hl [0, 1, 2, 3] rfl)
  · rw [if_neg hc] at h
    refine lv_aload_n C.1 C.2.1 dX12_label_12 rfl (lv_at hl 0 rfl) ?_
    refine gf_31 C G dX12_label_13 ?_
    refine lv_iload C.1 C.2.1 dX12_label_16 (lv_at hl 3 rfl) ?_
    obtain ⟨hi, h⟩ := ix_some h
    refine rf_lald C G 19 rfl (by decide) rfl rfl hi dX12_label_18 ?_
    refine lv_lload_n C.1 C.2.1 dX12_label_19 rfl (lv_at hl 1 rfl) ?_
    refine W.lcmp C.1 C.2.1 dX12_label_20 ?_
    refine lv_if_ne (tgt := 30) C.1 C.2.1 dX12_label_21 (by decide) (fun hc => ?_) (fun hc => ?_)
    · rw [if_neg hc] at h
      exact wq_label_30i3 C h hP G (lv_sub hl [0, 1, 2, 3] rfl)
    · rw [if_pos hc] at h
      refine lv_aload_n C.1 C.2.1 dX12_label_24 rfl (lv_at hl 0 rfl) ?_
      refine lv_iconst (v := (4:Int32)) C.1 C.2.1 dX12_label_25 (by decide) ?_
      refine lv_iload_n C.1 C.2.1 dX12_label_26 rfl (lv_at hl 2 rfl) ?_
      obtain ⟨ρ_2, hq, h⟩ := bd1_some h
      refine rf_callV (rest := []) C G cw_fault [.int (4:Int32), .int x3] _ (kq_fault l D h0 hq) (Nat.le_of_ble_eq_true rfl) (Nat.le_of_ble_eq_true rfl) rfl rfl hl.1 (Nat.le_of_ble_eq_true rfl) (Nat.zero_le _) (Nat.zero_le _) dX12_label_27 (fun H locs G => ?_)
      refine W.eq (g2 := F0 m 30 ls []) rfl ?_
      exact wq_label_30i3 C h hP G (lv_sub hl [0, 1, 2, 3] rfl)
noncomputable def bq_label_0 (x1 : Int64) (x3 : Int32) (ρ : rf_S) : Option (rf_S) := bq_label_3 x1 x3 (0:Int32) ρ
set_option maxHeartbeats 4000000 in
theorem wq_label_0 (C : rf_C D p s m args meth c cX12_label 5 none) {x1 : Int64} {x3 : Int32} {ρ ρ' : rf_S} {H : Heap} {locs : List Loc} {ls : Array Slot} (h : bq_label_0 x1 x3 ρ = some ρ') (G : rf_G D h0 s ρ H locs) (hl : lv_has ls 5 [(0, .ref h0), (1, .long x1), (3, .int x3)]) : W p l e ({ frames := 1, cells := 0, slots := 0, locals := 22 }) s m args below meth c H locs 0 0 (MQ below (rf_Q D h0 none ρ') args s 0 0 (rf_A h0)) (F0 m 0 ls []) := by
  unfold bq_label_0 at h
  refine lv_iconst (v := (0:Int32)) C.1 C.2.1 dX12_label_0 (by decide) ?_
  refine lv_istore (lv' := [(4, .int (0:Int32)), (0, .ref h0), (1, .long x1), (3, .int x3)]) C.1 C.2.1 dX12_label_1 hl (by decide) rfl (fun ls hl => ?_)
  exact wq_label_3 C h G (lv_sub hl [1, 2, 3, 0] rfl)
noncomputable def fq_label (x1 : Int64) (x3 : Int32) (ρ : rf_S) : Option (rf_S) := bq_label_0 x1 x3 ρ
theorem kq_label (l : Launch) (D : rf_D) (h0 : Nat) {x1 : Int64} {x3 : Int32} {ρ ρ' : rf_S} (h : fq_label x1 x3 ρ = some ρ') : rf_Met l D h0 yX12_label cX12_label 5 none 1 22 [.ref h0, .long x1, .int x3] ρ none ρ' :=
  rf_of rfl cc_label (Nat.le_of_ble_eq_true rfl) (fun p e s m args below meth c ls C G hl => wq_label_0 C h G hl)
end RQ2
