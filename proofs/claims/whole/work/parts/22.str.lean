def RJ0 : String := "java/lang/String"
def RJ1 : String := "java/lang/StringLatin1"
def RJ3 : String := "jdk/internal/util/Preconditions"
abbrev cJ0_isLatin1_aae02 : ByteArray := prog_17_method_154_code
def yJ0_isLatin1_aae02 : MethodName := ⟨RJ0, "isLatin1", "()Z"⟩
theorem dJ0_isLatin1_aae02_0 : decode cJ0_isLatin1_aae02 0 = .ok (.getstatic 38, 3) := by decide +kernel
theorem dJ0_isLatin1_aae02_3 : decode cJ0_isLatin1_aae02 3 = .ok (.ifCond .eq 14, 3) := by decide +kernel
theorem dJ0_isLatin1_aae02_6 : decode cJ0_isLatin1_aae02 6 = .ok (.aload_n 0, 1) := by decide +kernel
theorem dJ0_isLatin1_aae02_7 : decode cJ0_isLatin1_aae02 7 = .ok (.getfield 15, 3) := by decide +kernel
theorem dJ0_isLatin1_aae02_10 : decode cJ0_isLatin1_aae02 10 = .ok (.ifCond .ne 7, 3) := by decide +kernel
theorem dJ0_isLatin1_aae02_13 : decode cJ0_isLatin1_aae02 13 = .ok (.iconst 1, 1) := by decide +kernel
theorem dJ0_isLatin1_aae02_14 : decode cJ0_isLatin1_aae02 14 = .ok (.goto 4, 3) := by decide +kernel
theorem dJ0_isLatin1_aae02_17 : decode cJ0_isLatin1_aae02 17 = .ok (.iconst 0, 1) := by decide +kernel
theorem dJ0_isLatin1_aae02_18 : decode cJ0_isLatin1_aae02 18 = .ok (.ireturn, 1) := by decide +kernel
theorem cc_J0_isLatin1_aae02 : Cond.code yJ0_isLatin1_aae02 cJ0_isLatin1_aae02 1 (some .boolean) ∈ rf_tb := rf_at 83 (by decide +kernel) (by decide +kernel)
theorem jim_J0_isLatin1_aae02 : Cond.instanceMethod yJ0_isLatin1_aae02 ∈ rf_tb := rf_at 81 (by decide +kernel) (by decide +kernel)
theorem jse_J0_isLatin1_aae02 : Cond.selects RJ0 yJ0_isLatin1_aae02 yJ0_isLatin1_aae02 ∈ rf_tb := rf_at 82 (by decide +kernel) (by decide +kernel)
abbrev cJ0_coder_7d493 : ByteArray := prog_17_method_152_code
def yJ0_coder_7d493 : MethodName := ⟨RJ0, "coder", "()B"⟩
theorem dJ0_coder_7d493_0 : decode cJ0_coder_7d493 0 = .ok (.getstatic 38, 3) := by decide +kernel
theorem dJ0_coder_7d493_3 : decode cJ0_coder_7d493 3 = .ok (.ifCond .eq 10, 3) := by decide +kernel
theorem dJ0_coder_7d493_6 : decode cJ0_coder_7d493 6 = .ok (.aload_n 0, 1) := by decide +kernel
theorem dJ0_coder_7d493_7 : decode cJ0_coder_7d493 7 = .ok (.getfield 15, 3) := by decide +kernel
theorem dJ0_coder_7d493_10 : decode cJ0_coder_7d493 10 = .ok (.goto 4, 3) := by decide +kernel
theorem dJ0_coder_7d493_13 : decode cJ0_coder_7d493 13 = .ok (.iconst 1, 1) := by decide +kernel
theorem dJ0_coder_7d493_14 : decode cJ0_coder_7d493 14 = .ok (.ireturn, 1) := by decide +kernel
theorem cc_J0_coder_7d493 : Cond.code yJ0_coder_7d493 cJ0_coder_7d493 1 (some .byte) ∈ rf_tb := rf_at 936 (by decide +kernel) (by decide +kernel)
theorem jim_J0_coder_7d493 : Cond.instanceMethod yJ0_coder_7d493 ∈ rf_tb := rf_at 934 (by decide +kernel) (by decide +kernel)
theorem jse_J0_coder_7d493 : Cond.selects RJ0 yJ0_coder_7d493 yJ0_coder_7d493 ∈ rf_tb := rf_at 935 (by decide +kernel) (by decide +kernel)
abbrev cJ3_checkIndex_8e157 : ByteArray := prog_22_method_11_code
def yJ3_checkIndex_8e157 : MethodName := ⟨RJ3, "checkIndex", "(IILjava/util/function/BiFunction;)I"⟩
theorem dJ3_checkIndex_8e157_0 : decode cJ3_checkIndex_8e157 0 = .ok (.iload_n 0, 1) := by decide +kernel
theorem dJ3_checkIndex_8e157_1 : decode cJ3_checkIndex_8e157 1 = .ok (.ifCond .lt 8, 3) := by decide +kernel
theorem dJ3_checkIndex_8e157_4 : decode cJ3_checkIndex_8e157 4 = .ok (.iload_n 0, 1) := by decide +kernel
theorem dJ3_checkIndex_8e157_5 : decode cJ3_checkIndex_8e157 5 = .ok (.iload_n 1, 1) := by decide +kernel
theorem dJ3_checkIndex_8e157_6 : decode cJ3_checkIndex_8e157 6 = .ok (.if_icmp .lt 10, 3) := by decide +kernel
theorem dJ3_checkIndex_8e157_9 : decode cJ3_checkIndex_8e157 9 = .ok (.aload_n 2, 1) := by decide +kernel
theorem dJ3_checkIndex_8e157_10 : decode cJ3_checkIndex_8e157 10 = .ok (.iload_n 0, 1) := by decide +kernel
theorem dJ3_checkIndex_8e157_11 : decode cJ3_checkIndex_8e157 11 = .ok (.iload_n 1, 1) := by decide +kernel
theorem dJ3_checkIndex_8e157_12 : decode cJ3_checkIndex_8e157 12 = .ok (.invokestatic 95, 3) := by decide +kernel
theorem dJ3_checkIndex_8e157_15 : decode cJ3_checkIndex_8e157 15 = .ok (.athrow, 1) := by decide +kernel
theorem dJ3_checkIndex_8e157_16 : decode cJ3_checkIndex_8e157 16 = .ok (.iload_n 0, 1) := by decide +kernel
theorem dJ3_checkIndex_8e157_17 : decode cJ3_checkIndex_8e157 17 = .ok (.ireturn, 1) := by decide +kernel
theorem cc_J3_checkIndex_8e157 : Cond.code yJ3_checkIndex_8e157 cJ3_checkIndex_8e157 3 (some .int) ∈ rf_tb := rf_at 96 (by decide +kernel) (by decide +kernel)
theorem jst_J3_checkIndex_8e157 : Cond.static yJ3_checkIndex_8e157 ∈ rf_tb := rf_at 95 (by decide +kernel) (by decide +kernel)
abbrev cJ0_checkIndex_df160 : ByteArray := prog_17_method_155_code
def yJ0_checkIndex_df160 : MethodName := ⟨RJ0, "checkIndex", "(II)V"⟩
theorem dJ0_checkIndex_df160_0 : decode cJ0_checkIndex_df160 0 = .ok (.iload_n 0, 1) := by decide +kernel
theorem dJ0_checkIndex_df160_1 : decode cJ0_checkIndex_df160 1 = .ok (.iload_n 1, 1) := by decide +kernel
theorem dJ0_checkIndex_df160_2 : decode cJ0_checkIndex_df160 2 = .ok (.getstatic 1053, 3) := by decide +kernel
theorem dJ0_checkIndex_df160_5 : decode cJ0_checkIndex_df160 5 = .ok (.invokestatic 1059, 3) := by decide +kernel
theorem dJ0_checkIndex_df160_8 : decode cJ0_checkIndex_df160 8 = .ok (.pop, 1) := by decide +kernel
theorem dJ0_checkIndex_df160_9 : decode cJ0_checkIndex_df160 9 = .ok (.return_, 1) := by decide +kernel
theorem cc_J0_checkIndex_df160 : Cond.code yJ0_checkIndex_df160 cJ0_checkIndex_df160 2 none ∈ rf_tb := rf_at 91 (by decide +kernel) (by decide +kernel)
theorem jst_J0_checkIndex_df160 : Cond.static yJ0_checkIndex_df160 ∈ rf_tb := rf_at 90 (by decide +kernel) (by decide +kernel)
abbrev cJ1_charAt_3b067 : ByteArray := prog_18_method_2_code
def yJ1_charAt_3b067 : MethodName := ⟨RJ1, "charAt", "([BI)C"⟩
theorem dJ1_charAt_3b067_0 : decode cJ1_charAt_3b067 0 = .ok (.iload_n 1, 1) := by decide +kernel
theorem dJ1_charAt_3b067_1 : decode cJ1_charAt_3b067 1 = .ok (.aload_n 0, 1) := by decide +kernel
theorem dJ1_charAt_3b067_2 : decode cJ1_charAt_3b067 2 = .ok (.arraylength, 1) := by decide +kernel
theorem dJ1_charAt_3b067_3 : decode cJ1_charAt_3b067 3 = .ok (.invokestatic 9, 3) := by decide +kernel
theorem dJ1_charAt_3b067_6 : decode cJ1_charAt_3b067 6 = .ok (.aload_n 0, 1) := by decide +kernel
theorem dJ1_charAt_3b067_7 : decode cJ1_charAt_3b067 7 = .ok (.iload_n 1, 1) := by decide +kernel
theorem dJ1_charAt_3b067_8 : decode cJ1_charAt_3b067 8 = .ok (.baload, 1) := by decide +kernel
theorem dJ1_charAt_3b067_9 : decode cJ1_charAt_3b067 9 = .ok (.sipush 255, 3) := by decide +kernel
theorem dJ1_charAt_3b067_12 : decode cJ1_charAt_3b067 12 = .ok (.iand, 1) := by decide +kernel
theorem dJ1_charAt_3b067_13 : decode cJ1_charAt_3b067 13 = .ok (.i2c, 1) := by decide +kernel
theorem dJ1_charAt_3b067_14 : decode cJ1_charAt_3b067 14 = .ok (.ireturn, 1) := by decide +kernel
theorem cc_J1_charAt_3b067 : Cond.code yJ1_charAt_3b067 cJ1_charAt_3b067 2 (some .char) ∈ rf_tb := rf_at 88 (by decide +kernel) (by decide +kernel)
theorem jst_J1_charAt_3b067 : Cond.static yJ1_charAt_3b067 ∈ rf_tb := rf_at 87 (by decide +kernel) (by decide +kernel)
abbrev cJ0_charAt_5068e : ByteArray := prog_17_method_56_code
def yJ0_charAt_5068e : MethodName := ⟨RJ0, "charAt", "(I)C"⟩
theorem dJ0_charAt_5068e_0 : decode cJ0_charAt_5068e 0 = .ok (.aload_n 0, 1) := by decide +kernel
theorem dJ0_charAt_5068e_1 : decode cJ0_charAt_5068e 1 = .ok (.invokevirtual 492, 3) := by decide +kernel
theorem dJ0_charAt_5068e_4 : decode cJ0_charAt_5068e 4 = .ok (.ifCond .eq 12, 3) := by decide +kernel
theorem dJ0_charAt_5068e_7 : decode cJ0_charAt_5068e 7 = .ok (.aload_n 0, 1) := by decide +kernel
theorem dJ0_charAt_5068e_8 : decode cJ0_charAt_5068e 8 = .ok (.getfield 9, 3) := by decide +kernel
theorem dJ0_charAt_5068e_11 : decode cJ0_charAt_5068e 11 = .ok (.iload_n 1, 1) := by decide +kernel
theorem dJ0_charAt_5068e_12 : decode cJ0_charAt_5068e 12 = .ok (.invokestatic 495, 3) := by decide +kernel
theorem dJ0_charAt_5068e_15 : decode cJ0_charAt_5068e 15 = .ok (.ireturn, 1) := by decide +kernel
theorem dJ0_charAt_5068e_16 : decode cJ0_charAt_5068e 16 = .ok (.aload_n 0, 1) := by decide +kernel
theorem dJ0_charAt_5068e_17 : decode cJ0_charAt_5068e 17 = .ok (.getfield 9, 3) := by decide +kernel
theorem dJ0_charAt_5068e_20 : decode cJ0_charAt_5068e 20 = .ok (.iload_n 1, 1) := by decide +kernel
theorem dJ0_charAt_5068e_21 : decode cJ0_charAt_5068e 21 = .ok (.invokestatic 498, 3) := by decide +kernel
theorem dJ0_charAt_5068e_24 : decode cJ0_charAt_5068e 24 = .ok (.ireturn, 1) := by decide +kernel
theorem cc_J0_charAt_5068e : Cond.code yJ0_charAt_5068e cJ0_charAt_5068e 2 (some .char) ∈ rf_tb := rf_at 79 (by decide +kernel) (by decide +kernel)
theorem jim_J0_charAt_5068e : Cond.instanceMethod yJ0_charAt_5068e ∈ rf_tb := rf_at 77 (by decide +kernel) (by decide +kernel)
theorem jse_J0_charAt_5068e : Cond.selects RJ0 yJ0_charAt_5068e yJ0_charAt_5068e ∈ rf_tb := rf_at 78 (by decide +kernel) (by decide +kernel)
abbrev cJ0_length_8abf5 : ByteArray := prog_17_method_54_code
def yJ0_length_8abf5 : MethodName := ⟨RJ0, "length", "()I"⟩
theorem dJ0_length_8abf5_0 : decode cJ0_length_8abf5 0 = .ok (.aload_n 0, 1) := by decide +kernel
theorem dJ0_length_8abf5_1 : decode cJ0_length_8abf5 1 = .ok (.getfield 9, 3) := by decide +kernel
theorem dJ0_length_8abf5_4 : decode cJ0_length_8abf5 4 = .ok (.arraylength, 1) := by decide +kernel
theorem dJ0_length_8abf5_5 : decode cJ0_length_8abf5 5 = .ok (.aload_n 0, 1) := by decide +kernel
theorem dJ0_length_8abf5_6 : decode cJ0_length_8abf5 6 = .ok (.invokevirtual 335, 3) := by decide +kernel
theorem dJ0_length_8abf5_9 : decode cJ0_length_8abf5 9 = .ok (.ishr, 1) := by decide +kernel
theorem dJ0_length_8abf5_10 : decode cJ0_length_8abf5 10 = .ok (.ireturn, 1) := by decide +kernel
theorem cc_J0_length_8abf5 : Cond.code yJ0_length_8abf5 cJ0_length_8abf5 1 (some .int) ∈ rf_tb := rf_at 932 (by decide +kernel) (by decide +kernel)
theorem jim_J0_length_8abf5 : Cond.instanceMethod yJ0_length_8abf5 ∈ rf_tb := rf_at 930 (by decide +kernel) (by decide +kernel)
theorem jse_J0_length_8abf5 : Cond.selects RJ0 yJ0_length_8abf5 yJ0_length_8abf5 ∈ rf_tb := rf_at 931 (by decide +kernel) (by decide +kernel)
theorem jl_492 : Cond.methodLink RJ0 492 yJ0_isLatin1_aae02 ∈ rf_tb := rf_at 80 (by decide +kernel) (by decide +kernel)
theorem jl_335 : Cond.methodLink RJ0 335 yJ0_coder_7d493 ∈ rf_tb := rf_at 933 (by decide +kernel) (by decide +kernel)
theorem jl_1059 : Cond.methodLink RJ0 1059 yJ3_checkIndex_8e157 ∈ rf_tb := rf_at 94 (by decide +kernel) (by decide +kernel)
theorem jl_9 : Cond.methodLink RJ1 9 yJ0_checkIndex_df160 ∈ rf_tb := rf_at 89 (by decide +kernel) (by decide +kernel)
theorem jl_495 : Cond.methodLink RJ0 495 yJ1_charAt_3b067 ∈ rf_tb := rf_at 86 (by decide +kernel) (by decide +kernel)
theorem jl_X0_52 : Cond.methodLink "PartHouse$Assembler" 52 yJ0_charAt_5068e ∈ rf_tb := rf_at 76 (by decide +kernel) (by decide +kernel)
theorem jl_X0_234 : Cond.methodLink "PartHouse$Assembler" 234 yJ0_length_8abf5 ∈ rf_tb := rf_at 929 (by decide +kernel) (by decide +kernel)
theorem jl_X12_265 : Cond.methodLink RX12 265 yJ0_charAt_5068e ∈ rf_tb := rf_at 1515 (by decide +kernel) (by decide +kernel)
theorem jf_38 : Cond.fieldLink RJ0 38 "java/lang/String" "COMPACT_STRINGS" "Z" ∈ rf_tb := rf_at 84 (by decide +kernel) (by decide +kernel)
theorem jf_15 : Cond.fieldLink RJ0 15 "java/lang/String" "coder" "B" ∈ rf_tb := rf_at 2390 (by decide +kernel) (by decide +kernel)
theorem jf_9 : Cond.fieldLink RJ0 9 "java/lang/String" "value" "[B" ∈ rf_tb := rf_at 2391 (by decide +kernel) (by decide +kernel)
theorem jf_1053 : Cond.fieldLink RJ0 1053 "jdk/internal/util/Preconditions" "SIOOBE_FORMATTER" "Ljava/util/function/BiFunction;" ∈ rf_tb := rf_at 92 (by decide +kernel) (by decide +kernel)
theorem ji_0 : Cond.initialized RJ0 ∈ rf_tb := rf_at 4 (by decide +kernel) (by decide +kernel)
theorem ji_1 : Cond.initialized RJ1 ∈ rf_tb := rf_at 5 (by decide +kernel) (by decide +kernel)
theorem ji_3 : Cond.initialized RJ3 ∈ rf_tb := rf_at 6 (by decide +kernel) (by decide +kernel)
section STR
variable {p : Program} {l : Launch} {e : Env} {R : Room} {s : State} {m : MethodId} {args : Array Value} {below : List Frame} {meth : Method} {c : Code} {H : Heap} {locs : List Loc} {cells slots : Nat} {Q : State → Prop}
variable {cc : ByteArray} {pc : Nat} {ls : Array Slot} {rest : List Value} {H0 : Heap} {q qv : Nat} {bs : List Int32} {nL : Nat} {ret : Option FieldType} {own : String}
/-- what lies behind the start's heap -/
def jk_A (H0 : Heap) : Nat → Prop := fun q => H0.size ≤ q
def jk_pre (H0 H : Heap) : Prop := H0.size ≤ H.size ∧ ∀ q : Nat, q < H0.size → H[q]? = H0[q]?
def jk_K (H0 : Heap) (U : State) : Prop := va_Z "java/lang/String" "COMPACT_STRINGS" "Z" (.int 1) (jk_A H0) U H0 ∧ va_Zq "jdk/internal/util/Preconditions" "SIOOBE_FORMATTER" "Ljava/util/function/BiFunction;" (jk_A H0) U H0
/-- a Latin-1 text at q, its octets at qv -/
def jk_S (H0 : Heap) (q qv : Nat) (bs : List Int32) (U : State) : Prop := (bs.length < 2 ^ 31 ∧ ∀ x ∈ bs, (x &&& 255).toUInt32 % 65536 = x.toUInt32 ∧ narrow .char (.int x) = .int x) ∧ va_O "java/lang/String" q (jk_A H0) U H0 ∧ va_OF "java/lang/String" "coder" "B" (.int 0) q (jk_A H0) U H0 ∧ va_OF "java/lang/String" "value" "[B" (.ref qv) q (jk_A H0) U H0 ∧ va_T .byte qv bs.length (fun j => .int (bs.getD j 0)) (jk_A H0) U H0
theorem jk_K.moved {u U : State} (hvm : u.vm.Alike U.vm) (h : jk_K H0 u) : jk_K H0 U := ⟨va_Z.moved hvm h.1, va_Zq.moved hvm h.2⟩
theorem jk_S.moved {u U : State} (hvm : u.vm.Alike U.vm) (h : jk_S H0 q qv bs u) : jk_S H0 q qv bs U := ⟨h.1, va_O.moved hvm h.2.1, va_OF.moved hvm h.2.2.1, va_OF.moved hvm h.2.2.2.1, va_T.moved hvm h.2.2.2.2⟩
theorem jk_nar {U : State} {j : Nat} (h : jk_S H0 q qv bs U) (hj : j < bs.length) : narrow .char (.int (bs.getD j 0)) = .int (bs.getD j 0) := by
  refine (h.1.2 _ ?_).2
  rw [List.getD_eq_getElem?_getD, List.getElem?_eq_getElem hj]
  exact List.getElem_mem hj
def jk_B (H0 : Heap) (q qv : Nat) (bs : List Int32) (U : State) : Prop := jk_K H0 U ∧ jk_S H0 q qv bs U
theorem jk_B.moved {u U : State} (hvm : u.vm.Alike U.vm) (h : jk_B H0 q qv bs u) : jk_B H0 q qv bs U := ⟨h.1.moved hvm, h.2.moved hvm⟩
def jk_Q (rv : Option Value) : Array Value → State → Outcome → State → Prop := fun _ st o t => o = .returned rv ∧ t.heap = st.heap
def jk_Met (l : Launch) (H0 : Heap) (q qv : Nat) (bs : List Int32) (y : MethodName) (cc : ByteArray) (maxL : Nat) (ret : Option FieldType) (fr lo : Nat) (av : List Value) (rv : Option Value) : Prop :=
  Met l y (.code y cc maxL ret :: rf_tb) ({ frames := fr, cells := 0, slots := 0, locals := lo }) (va_Pc av (fun U => jk_pre H0 U.heap ∧ jk_B H0 q qv bs U)) (jk_Q rv) 0 0 (fun _ => False)
theorem jk_blind {av : List Value} : FrameBlind (va_Pc av (fun U => jk_pre H0 U.heap ∧ jk_B H0 q qv bs U)) := fun a U g mk h => ⟨h.1, h.2.1, jk_B.moved (u := U) (U := U.calling g mk a) (Vm.Alike.refl U.vm) h.2.2⟩
def jk_C (H0 : Heap) (q qv : Nat) (bs : List Int32) (p : Program) (s : State) (m : MethodId) (args : Array Value) (meth : Method) (c : Code) (cc : ByteArray) (nL : Nat) (ret : Option FieldType) (own : String) : Prop :=
  p.tables.exec = Jvm.exec ∧ c.code = cc ∧ c.maxLocals = nL ∧ s.vm.findClass own = some m.cls ∧ (∀ w ∈ rf_tb, w.before args s = true) ∧ (jk_pre H0 s.heap ∧ jk_B H0 q qv bs s) ∧ meth.sig.returnType = ret ∧ meth.locks = false
theorem jk_of {y : MethodName} {cy : ByteArray} {mL fr lo : Nat} {rt : Option FieldType} {av : List Value} {rv : Option Value} (hp : plainName y.cls = true) (hnl : (lg_sl av).length ≤ mL)
    (body : ∀ (p : Program) (e : Env) (s : State) (m : MethodId) (args : Array Value) (below : List Frame) (meth : Method) (c : Code) (ls : Array Slot), jk_C H0 q qv bs p s m args meth c cy mL rt y.cls → lv_has ls mL (lv_args 0 av) → W p l e ({ frames := fr, cells := 0, slots := 0, locals := lo }) s m args below meth c s.heap [] 0 0 (MQ below (jk_Q rv) args s 0 0 (fun _ => False)) (F0 m 0 ls [])) : jk_Met l H0 q qv bs y cy mL rt fr lo av rv := by
  refine Met.ofW (cc := cy) (maxL := mL) (ret := rt) hp rfl ?_
  intro p e s m args below meth c s₁ B hml hv
  obtain ⟨rfl, hB⟩ := hv
  have hts := atoms_spec (ws := Cond.code y cy mL rt :: rf_tb) B.pre
  have hl := lv_entry av (n := mL) hnl
  rw [lg_entry_eq]
  exact body p e s m _ below meth c _ ⟨B.exec, B.bytes, hml, findClass_of_methodNamed B.named, fun w hw => hts w (List.mem_cons_of_mem _ hw), hB, B.returns, B.notSynchronized⟩ hl
theorem jk_K.at (h : jk_K H0 s) (hp : jk_pre H0 s.heap) : va_Z "java/lang/String" "COMPACT_STRINGS" "Z" (.int 1) (jk_A H0) s s.heap ∧ va_Zq "jdk/internal/util/Preconditions" "SIOOBE_FORMATTER" "Ljava/util/function/BiFunction;" (jk_A H0) s s.heap := ⟨h.1.kept (fun a ha _ => hp.2 a ha), h.2.kept (fun a ha _ => hp.2 a ha)⟩
theorem jk_nil {L : List Loc} (h : ∀ q ∈ L, (fun _ : Nat => False) q.base) : L = [] := by
  cases L with
  | nil => rfl
  | cons x t => exact (h x List.mem_cons_self).elim
/-- a static call between the JDK's methods -/
theorem jk_callS {y : MethodName} {cy : ByteArray} {mL idx n fr lo : Nat} {rt : Option FieldType} {rv : Option Value} (C : jk_C H0 q qv bs p s m args meth c cc nL ret own) (w1 : Cond.methodLink own idx y ∈ rf_tb) (w2 : Cond.static y ∈ rf_tb) (w3 : Cond.code y cy mL rt ∈ rf_tb) (w4 : Cond.initialized y.cls ∈ rf_tb) (hd : y.cls ≠ "java/lang/invoke/MethodHandle" ∧ y.cls ≠ "java/lang/invoke/VarHandle" ∧ (parseMethodDescriptor y.desc).map (fun d => d.parameters.length) = some n) (As : List Value) (st0 : List Value) (hM : jk_Met l H0 q qv bs y cy mL rt fr lo As rv) (hfr : fr + 1 ≤ R.frames) (hlo : 8 + (mL + 11) + lo ≤ R.locals) (hn : As.length = n) (hst : st0 = As.reverse ++ rest) (hls : ls.size = nL) (hW : (rest.map fun v => v.category).sum ≤ 8) (hce : cells ≤ R.cells) (hsl : slots ≤ R.slots) (hdg : decode cc pc = .ok (.invokestatic idx, 3))
    (kk : W p l e R s m args below meth c s.heap locs cells slots Q (F0 m (pc + 3) ls (rv.toList ++ rest))) : W p l e R s m args below meth c s.heap locs cells slots Q (F0 m pc ls st0) := by
  subst hst
  obtain ⟨hx, hb, hml, hown, hts, hB, -, -⟩ := C
  have hC : CallB R s args own idx y cy mL rt (Cond.code y cy mL rt :: rf_tb) ({ frames := fr, cells := 0, slots := 0, locals := lo }) 0 0 n := callB_of n hts (rf_gw w3) rfl rfl rfl (hts _ w4) (hts _ w1) hd ⟨hfr, hlo⟩
  have hrun := va_runS (p := p) (l := l) (e := e) (R := R) (below := below) (meth := meth) (locs := locs) (cells := cells) (slots := slots) (g := F0 m pc ls (As.reverse ++ rest)) ⟨hx, hb, hml, hown, hts⟩ hM ⟨hC, hts _ w2⟩ (H := s.heap) (As := As) ⟨jk_blind, fun U hU hW => ⟨rfl, by rw [hU]; exact hB.1, hB.2.moved hW.alike⟩⟩ rfl hn hls rfl (lv_room hW) hdg ⟨by omega, by omega⟩
  intro T hT X
  obtain ⟨v, st₀, t, T', L, g0, X', hL, e1, e2, ⟨hv, hP⟩, st⟩ := hrun T hT X
  cases hv
  cases jk_nil hL
  rw [List.append_nil] at X'
  obtain ⟨t2, a1, b1⟩ := kk T' (by rw [e1, hP, g0]) X'
  exact ⟨t2, st t2 a1, b1⟩
theorem jk_callV {y : MethodName} {cy : ByteArray} {mL idx n fr lo : Nat} {rt : Option FieldType} {rv : Option Value} (C : jk_C H0 q qv bs p s m args meth c cc nL ret own) (w1 : Cond.methodLink own idx y ∈ rf_tb) (w2 : Cond.instanceMethod y ∈ rf_tb) (w3 : Cond.code y cy mL rt ∈ rf_tb) (w4 : Cond.initialized y.cls ∈ rf_tb) (w5 : Cond.selects RJ0 y y ∈ rf_tb) (hd : y.cls ≠ "java/lang/invoke/MethodHandle" ∧ y.cls ≠ "java/lang/invoke/VarHandle" ∧ (parseMethodDescriptor y.desc).map (fun d => d.parameters.length) = some n) (As : List Value) (st0 : List Value) (hM : jk_Met l H0 q qv bs y cy mL rt fr lo (.ref q :: As) rv) (hfr : fr + 1 ≤ R.frames) (hlo : 8 + (mL + 11) + lo ≤ R.locals) (hn : As.length = n) (hst : st0 = As.reverse ++ .ref q :: rest) (hls : ls.size = nL) (hW : (rest.map fun v => v.category).sum ≤ 8) (hce : cells ≤ R.cells) (hsl : slots ≤ R.slots) (hdg : decode cc pc = .ok (.invokevirtual idx, 3))
    (kk : W p l e R s m args below meth c s.heap locs cells slots Q (F0 m (pc + 3) ls (rv.toList ++ rest))) : W p l e R s m args below meth c s.heap locs cells slots Q (F0 m pc ls st0) := by
  subst hst
  obtain ⟨hx, hb, hml, hown, hts, hB, -, -⟩ := C
  have hrec : ∃ cell : Cell, s.heap[q]? = some cell ∧ cell.vm.isStatics = false ∧ s.vm.findClass RJ0 = some cell.cls := by
    obtain ⟨cell, h1, h2, h3, -⟩ := hB.2.2.2.1.kept (fun a ha _ => hB.1.2 a ha)
    exact ⟨cell, h1, h2, h3⟩
  have hC : CallB R s args own idx y cy mL rt (Cond.code y cy mL rt :: rf_tb) ({ frames := fr, cells := 0, slots := 0, locals := lo }) 0 0 n := callB_of n hts (rf_gw w3) rfl rfl rfl (hts _ w4) (hts _ w1) hd ⟨hfr, hlo⟩
  have hrun := va_runV (p := p) (l := l) (e := e) (R := R) (below := below) (meth := meth) (locs := locs) (cells := cells) (slots := slots) (g := F0 m pc ls (As.reverse ++ .ref q :: rest)) ⟨hx, hb, hml, hown, hts⟩ hM ⟨hC, hts _ w2, hts _ w5⟩ (H := s.heap) (b := q) (As := As) ⟨jk_blind, hrec, fun U hU hW => ⟨rfl, by rw [hU]; exact hB.1, hB.2.moved hW.alike⟩⟩ rfl hn hls rfl (lv_room hW) hdg ⟨by omega, by omega⟩
  intro T hT X
  obtain ⟨v, st₀, t, T', L, g0, X', hL, e1, e2, ⟨hv, hP⟩, st⟩ := hrun T hT X
  cases hv
  cases jk_nil hL
  rw [List.append_nil] at X'
  obtain ⟨t2, a1, b1⟩ := kk T' (by rw [e1, hP, g0]) X'
  exact ⟨t2, st t2 a1, b1⟩
theorem jk_qe (rv : Option Value) : ∀ t : State, t.heap = s.heap → s.WarmedH t.vm → jk_Q rv args s (.returned rv) t := fun t ht _ => ⟨rfl, ht⟩
theorem jk_isLatin1 : jk_Met l H0 q qv bs yJ0_isLatin1_aae02 cJ0_isLatin1_aae02 1 (some .boolean) 0 0 [.ref q] (some (.int 1)) := by
  refine jk_of (by decide) (Nat.le_of_ble_eq_true rfl) ?_
  intro p e s m args below meth c ls C hl
  obtain ⟨hS, -⟩ := C.2.2.2.2.2.1
  have hZ := (jk_K.at C.2.2.2.2.2.1.2.1 hS).1
  have hF : va_OF "java/lang/String" "coder" "B" (.int 0) q (jk_A H0) s s.heap := C.2.2.2.2.2.1.2.2.2.2.1.kept (fun a ha _ => hS.2 a ha)
  refine va_gets C.1 C.2.1 hZ va_S.rf C.2.2.2.1 (C.2.2.2.2.1 _ jf_38) (fun x h => h) dJ0_isLatin1_aae02_0 ?_
  refine lv_if_eq (tgt := 17) C.1 C.2.1 dJ0_isLatin1_aae02_3 (by decide) (fun hc => ?_) (fun hc => ?_)
  · exact absurd hc (by decide)
  refine lv_aload_n C.1 C.2.1 dJ0_isLatin1_aae02_6 rfl (lv_at hl 0 rfl) ?_
  refine vk_getf C.1 C.2.1 hF va_S.rf C.2.2.2.1 (C.2.2.2.2.1 _ jf_15) (fun x h => h) dJ0_isLatin1_aae02_7 ?_
  refine lv_if_ne (tgt := 17) C.1 C.2.1 dJ0_isLatin1_aae02_10 (by decide) (fun hc => ?_) (fun hc => ?_)
  · exact absurd rfl hc
  refine lv_iconst (v := (1:Int32)) C.1 C.2.1 dJ0_isLatin1_aae02_13 (by decide) ?_
  refine lv_goto (tgt := 18) C.1 C.2.1 dJ0_isLatin1_aae02_14 (by decide) ?_
  exact W.zret C.1 C.2.1 C.2.2.2.2.2.2.1 rfl (jk_qe _) (fun _ h => by cases h) dJ0_isLatin1_aae02_18 C.2.2.2.2.2.2.2
theorem jk_coder : jk_Met l H0 q qv bs yJ0_coder_7d493 cJ0_coder_7d493 1 (some .byte) 0 0 [.ref q] (some (.int 0)) := by
  refine jk_of (by decide) (Nat.le_of_ble_eq_true rfl) ?_
  intro p e s m args below meth c ls C hl
  obtain ⟨hS, -⟩ := C.2.2.2.2.2.1
  have hZ := (jk_K.at C.2.2.2.2.2.1.2.1 hS).1
  have hF : va_OF "java/lang/String" "coder" "B" (.int 0) q (jk_A H0) s s.heap := C.2.2.2.2.2.1.2.2.2.2.1.kept (fun a ha _ => hS.2 a ha)
  refine va_gets C.1 C.2.1 hZ va_S.rf C.2.2.2.1 (C.2.2.2.2.1 _ jf_38) (fun x h => h) dJ0_coder_7d493_0 ?_
  refine lv_if_eq (tgt := 13) C.1 C.2.1 dJ0_coder_7d493_3 (by decide) (fun hc => ?_) (fun hc => ?_)
  · exact absurd hc (by decide)
  refine lv_aload_n C.1 C.2.1 dJ0_coder_7d493_6 rfl (lv_at hl 0 rfl) ?_
  refine vk_getf C.1 C.2.1 hF va_S.rf C.2.2.2.1 (C.2.2.2.2.1 _ jf_15) (fun x h => h) dJ0_coder_7d493_7 ?_
  refine lv_goto (tgt := 14) C.1 C.2.1 dJ0_coder_7d493_10 (by decide) ?_
  exact W.zret C.1 C.2.1 C.2.2.2.2.2.2.1 rfl (jk_qe _) (fun _ h => by cases h) dJ0_coder_7d493_14 C.2.2.2.2.2.2.2
theorem jk_check3 {i n : Int32} {v : Value} (hv : v = .null ∨ ∃ t, v = .ref t) (h0 : ¬ i < 0) (h1 : i < n) : jk_Met l H0 q qv bs yJ3_checkIndex_8e157 cJ3_checkIndex_8e157 3 (some .int) 0 0 [.int i, .int n, v] (some (.int i)) := by
  rcases hv with rfl | ⟨t, rfl⟩
  all_goals
    refine jk_of (by decide) (Nat.le_of_ble_eq_true rfl) ?_
    intro p e s m args below meth c ls C hl
    refine lv_iload_n C.1 C.2.1 dJ3_checkIndex_8e157_0 rfl (lv_at hl 0 rfl) ?_
    refine lv_if_lt (tgt := 9) C.1 C.2.1 dJ3_checkIndex_8e157_1 (by decide) (fun hc => ?_) (fun hc => ?_)
    · exact absurd hc h0
    refine lv_iload_n C.1 C.2.1 dJ3_checkIndex_8e157_4 rfl (lv_at hl 0 rfl) ?_
    refine lv_iload_n C.1 C.2.1 dJ3_checkIndex_8e157_5 rfl (lv_at hl 1 rfl) ?_
    refine lv_icmp_lt (tgt := 16) C.1 C.2.1 dJ3_checkIndex_8e157_6 (by decide) (fun hc => ?_) (fun hc => ?_)
    · refine lv_iload_n C.1 C.2.1 dJ3_checkIndex_8e157_16 rfl (lv_at hl 0 rfl) ?_
      exact W.iret C.1 C.2.1 C.2.2.2.2.2.2.1 (jk_qe _) (fun _ h => by cases h) dJ3_checkIndex_8e157_17 C.2.2.2.2.2.2.2
    · exact absurd h1 hc
theorem jk_check {i n : Int32} (h0 : ¬ i < 0) (h1 : i < n) : jk_Met l H0 q qv bs yJ0_checkIndex_df160 cJ0_checkIndex_df160 2 none 1 22 [.int i, .int n] none := by
  refine jk_of (by decide) (Nat.le_of_ble_eq_true rfl) ?_
  intro p e s m args below meth c ls C hl
  have hS := C.2.2.2.2.2.1.1
  refine lv_iload_n C.1 C.2.1 dJ0_checkIndex_df160_0 rfl (lv_at hl 0 rfl) ?_
  refine lv_iload_n C.1 C.2.1 dJ0_checkIndex_df160_1 rfl (lv_at hl 1 rfl) ?_
  rcases (jk_K.at C.2.2.2.2.2.1.2.1 hS).2 with hZ | ⟨t, hZ⟩
  all_goals
    refine va_gets C.1 C.2.1 hZ va_S.rf C.2.2.2.1 (C.2.2.2.2.1 _ jf_1053) (fun x h => h) dJ0_checkIndex_df160_2 ?_
    refine jk_callS (rest := []) C jl_1059 jst_J3_checkIndex_8e157 cc_J3_checkIndex_8e157 ji_3 (n := 3) (by decide +kernel) [.int i, .int n, _] _ (jk_check3 (by first | exact Or.inl rfl | exact Or.inr ⟨_, rfl⟩) h0 h1) (Nat.le_of_ble_eq_true rfl) (Nat.le_of_ble_eq_true rfl) rfl rfl hl.1 (Nat.le_of_ble_eq_true rfl) (Nat.le_refl _) (Nat.le_refl _) dJ0_checkIndex_df160_5 ?_
    refine lv_pop C.1 C.2.1 dJ0_checkIndex_df160_8 rfl ?_
    exact W.vret C.1 C.2.1 C.2.2.2.2.2.2.1 (jk_qe _) (fun _ h => by cases h) dJ0_checkIndex_df160_9 C.2.2.2.2.2.2.2
theorem jk_charAt1 {i : Int32} (h0 : ¬ i < 0) (h1 : i.toNatClampNeg < bs.length) : jk_Met l H0 q qv bs yJ1_charAt_3b067 cJ1_charAt_3b067 2 (some .char) 2 43 [.ref qv, .int i] (some (.int (bs.getD i.toNatClampNeg 0))) := by
  refine jk_of (by decide) (Nat.le_of_ble_eq_true rfl) ?_
  intro p e s m args below meth c ls C hl
  have hS := C.2.2.2.2.2.1.1
  obtain ⟨⟨hb1, hb2⟩, -, -, -, hT0⟩ := C.2.2.2.2.2.1.2.2
  have hT : va_T .byte qv bs.length (fun j => .int (bs.getD j 0)) (jk_A H0) s s.heap := hT0.kept (fun a ha _ => hS.2 a ha)
  have hin : vp_in i bs.length := fun h => by rcases h with h | h; exact h0 h; omega
  refine lv_iload_n C.1 C.2.1 dJ1_charAt_3b067_0 rfl (lv_at hl 1 rfl) ?_
  refine lv_aload_n C.1 C.2.1 dJ1_charAt_3b067_1 rfl (lv_at hl 0 rfl) ?_
  refine va_tlen C.1 C.2.1 hT va_S.rf rfl dJ1_charAt_3b067_2 ?_
  have hlt : i < Int32.ofNat bs.length := by
    have e0 : (0 : Int) ≤ i.toInt := by
      have := Int32.not_lt.mp h0
      simpa using Int32.le_iff_toInt_le.mp this
    have e1 : (Int32.ofNat bs.length).toInt = (bs.length : Int) := Int32.toInt_ofNat_of_lt hb1
    have e2 : i.toNatClampNeg = i.toInt.toNat := rfl
    refine Int32.lt_iff_toInt_lt.mpr ?_
    rw [e1]
    omega
  refine jk_callS (rest := []) C jl_9 jst_J0_checkIndex_df160 cc_J0_checkIndex_df160 ji_0 (n := 2) (by decide +kernel) [.int i, .int (Int32.ofNat bs.length)] _ (jk_check h0 hlt) (Nat.le_of_ble_eq_true rfl) (Nat.le_of_ble_eq_true rfl) rfl rfl hl.1 (Nat.le_of_ble_eq_true rfl) (Nat.le_refl _) (Nat.le_refl _) dJ1_charAt_3b067_3 ?_
  refine lv_aload_n C.1 C.2.1 dJ1_charAt_3b067_6 rfl (lv_at hl 0 rfl) ?_
  refine lv_iload_n C.1 C.2.1 dJ1_charAt_3b067_7 rfl (lv_at hl 1 rfl) ?_
  refine va_tb C.1 C.2.1 hT va_S.rf hin rfl dJ1_charAt_3b067_8 ?_
  refine lv_sipush (v := (255:Int32)) C.1 C.2.1 dJ1_charAt_3b067_9 (by decide) ?_
  refine lv_iand C.1 C.2.1 dJ1_charAt_3b067_12 ?_
  have hx : ((bs.getD i.toNatClampNeg 0 &&& 255).toUInt32 % 65536).toInt32 = bs.getD i.toNatClampNeg 0 := by
    have hm : bs.getD i.toNatClampNeg 0 ∈ bs := by
      rw [List.getD_eq_getElem?_getD, List.getElem?_eq_getElem h1]
      exact List.getElem_mem h1
    rw [(hb2 _ hm).1]
    rfl
  refine lv_i2c (v := bs.getD i.toNatClampNeg 0) C.1 C.2.1 dJ1_charAt_3b067_13 hx ?_
  exact W.zret C.1 C.2.1 C.2.2.2.2.2.2.1 (jk_nar C.2.2.2.2.2.1.2.2 h1) (jk_qe _) (fun _ h => by cases h) dJ1_charAt_3b067_14 C.2.2.2.2.2.2.2
theorem jk_charAt {i : Int32} (h0 : ¬ i < 0) (h1 : i.toNatClampNeg < bs.length) : jk_Met l H0 q qv bs yJ0_charAt_5068e cJ0_charAt_5068e 2 (some .char) 3 64 [.ref q, .int i] (some (.int (bs.getD i.toNatClampNeg 0))) := by
  refine jk_of (by decide) (Nat.le_of_ble_eq_true rfl) ?_
  intro p e s m args below meth c ls C hl
  have hS := C.2.2.2.2.2.1.1
  have hV : va_OF "java/lang/String" "value" "[B" (.ref qv) q (jk_A H0) s s.heap := C.2.2.2.2.2.1.2.2.2.2.2.1.kept (fun a ha _ => hS.2 a ha)
  refine lv_aload_n C.1 C.2.1 dJ0_charAt_5068e_0 rfl (lv_at hl 0 rfl) ?_
  refine jk_callV (rest := []) C jl_492 jim_J0_isLatin1_aae02 cc_J0_isLatin1_aae02 ji_0 jse_J0_isLatin1_aae02 (n := 0) (by decide +kernel) [] _ jk_isLatin1 (Nat.le_of_ble_eq_true rfl) (Nat.le_of_ble_eq_true rfl) rfl rfl hl.1 (Nat.le_of_ble_eq_true rfl) (Nat.le_refl _) (Nat.le_refl _) dJ0_charAt_5068e_1 ?_
  refine lv_if_eq (tgt := 16) C.1 C.2.1 dJ0_charAt_5068e_4 (by decide) (fun hc => ?_) (fun hc => ?_)
  · exact absurd hc (by decide)
  refine lv_aload_n C.1 C.2.1 dJ0_charAt_5068e_7 rfl (lv_at hl 0 rfl) ?_
  refine vk_getf C.1 C.2.1 hV va_S.rf C.2.2.2.1 (C.2.2.2.2.1 _ jf_9) (fun x h => h) dJ0_charAt_5068e_8 ?_
  refine lv_iload_n C.1 C.2.1 dJ0_charAt_5068e_11 rfl (lv_at hl 1 rfl) ?_
  refine jk_callS (rest := []) C jl_495 jst_J1_charAt_3b067 cc_J1_charAt_3b067 ji_1 (n := 2) (by decide +kernel) [.ref qv, .int i] _ (jk_charAt1 h0 h1) (Nat.le_of_ble_eq_true rfl) (Nat.le_of_ble_eq_true rfl) rfl rfl hl.1 (Nat.le_of_ble_eq_true rfl) (Nat.le_refl _) (Nat.le_refl _) dJ0_charAt_5068e_12 ?_
  exact W.zret C.1 C.2.1 C.2.2.2.2.2.2.1 (jk_nar C.2.2.2.2.2.1.2.2 h1) (jk_qe _) (fun _ h => by cases h) dJ0_charAt_5068e_15 C.2.2.2.2.2.2.2
theorem jk_length : jk_Met l H0 q qv bs yJ0_length_8abf5 cJ0_length_8abf5 1 (some .int) 1 20 [.ref q] (some (.int (Int32.ofNat bs.length))) := by
  refine jk_of (by decide) (Nat.le_of_ble_eq_true rfl) ?_
  intro p e s m args below meth c ls C hl
  have hS := C.2.2.2.2.2.1.1
  have hV : va_OF "java/lang/String" "value" "[B" (.ref qv) q (jk_A H0) s s.heap := C.2.2.2.2.2.1.2.2.2.2.2.1.kept (fun a ha _ => hS.2 a ha)
  have hT : va_T .byte qv bs.length (fun j => .int (bs.getD j 0)) (jk_A H0) s s.heap := C.2.2.2.2.2.1.2.2.2.2.2.2.kept (fun a ha _ => hS.2 a ha)
  refine lv_aload_n C.1 C.2.1 dJ0_length_8abf5_0 rfl (lv_at hl 0 rfl) ?_
  refine vk_getf C.1 C.2.1 hV va_S.rf C.2.2.2.1 (C.2.2.2.2.1 _ jf_9) (fun x h => h) dJ0_length_8abf5_1 ?_
  refine va_tlen C.1 C.2.1 hT va_S.rf rfl dJ0_length_8abf5_4 ?_
  refine lv_aload_n C.1 C.2.1 dJ0_length_8abf5_5 rfl (lv_at hl 0 rfl) ?_
  refine jk_callV (rest := [.int (Int32.ofNat bs.length)]) C jl_335 jim_J0_coder_7d493 cc_J0_coder_7d493 ji_0 jse_J0_coder_7d493 (n := 0) (by decide +kernel) [] _ jk_coder (Nat.le_of_ble_eq_true rfl) (Nat.le_of_ble_eq_true rfl) rfl rfl hl.1 (Nat.le_of_ble_eq_true rfl) (Nat.le_refl _) (Nat.le_refl _) dJ0_length_8abf5_6 ?_
  refine lv_ishr C.1 C.2.1 dJ0_length_8abf5_9 ?_
  have hx : Int32.ofNat bs.length >>> ((0:Int32) &&& 31) = Int32.ofNat bs.length := by
    have : ((0:Int32) &&& 31) = 0 := by decide
    rw [this]
    simp
  rw [hx]
  exact W.iret C.1 C.2.1 C.2.2.2.2.2.2.1 (jk_qe _) (fun _ h => by cases h) dJ0_length_8abf5_10 C.2.2.2.2.2.2.2
end STR
section STR2
variable {p : Program} {l : Launch} {e : Env} {R : Room} {s : State} {m : MethodId} {args : Array Value} {below : List Frame} {meth : Method} {c : Code} {H : Heap} {locs : List Loc} {cells slots : Nat} {Q : State → Prop}
variable {cc : ByteArray} {pc nL : Nat} {ls : Array Slot} {rest : List Value} {D : rf_D} {h0 z9 : Nat} {ρ : rf_S} {ret : Option FieldType} {E : Heap × Nat × Nat}
theorem lv_ldcSW (hexec : p.tables.exec = Jvm.exec) (hb : c.code = cc) {own tx : String} {index q : Nat} (hown : s.vm.findClass own = some m.cls) (hZ : vk_R own index tx q s) (hdg : decode cc pc = .ok (.ldc_w index, 3))
    (k : W p l e R s m args below meth c H locs cells slots Q (F0 m (pc + 3) ls (.ref q :: rest))) : W p l e R s m args below meth c H locs cells slots Q (F0 m pc ls rest) := by
  intro T hT X
  obtain ⟨t, a1, b1⟩ := k T hT X
  refine ⟨t, ?_, b1⟩
  obtain ⟨kk, cf, i, a', hk, hcf, hcp, -, hr, hev'⟩ := Cond.stringRef_spec hown hZ.1
  cases hZ.2.symm.trans hev'
  obtain ⟨k', hk', he⟩ := X.warmed.alike.2.2 _ _ hk
  have hr' : k'.resolved[index]? = some (some (.string q)) := by
    rcases X.warmed.entry hk hk' index with h | ⟨h, -⟩
    · rw [h]; exact hr
    · rw [hr] at h; cases h
  have hd2 : decode c.code (F0 m pc ls rest).pc = .ok (.ldc_w index, 3) := by rw [hb]; exact hdg
  jvm_step X.here [hexec, hd2, ldc_w.wp_string (e := e) (s := T) (f := F0 m pc ls rest) X.here.top hk' (by rw [he]; exact hcf) hcp hr']
  exact a1
/-- the names of the reference's text -/
def rn_tab : List Int32 := [97, 100, 100, 32, 115, 117, 98, 32, 97, 110, 100, 32, 111, 114, 32, 120, 111, 114, 32, 115, 104, 108, 32, 115, 104, 114, 32, 115, 97, 114, 32, 108, 101, 115, 115, 32, 98, 101, 108, 111, 119, 32, 109, 117, 108, 32, 97, 100, 100, 105, 32, 97, 110, 100, 105, 32, 111, 114, 105, 32, 120, 111, 114, 105, 32, 115, 104, 108, 105, 32, 115, 104, 114, 105, 32, 115, 97, 114, 105, 32, 108, 101, 115, 115, 105, 32, 98, 101, 108, 111, 119, 105, 32, 104, 105, 103, 104, 32, 108, 100, 119, 32, 108, 100, 104, 32, 108, 100, 104, 117, 32, 108, 100, 111, 32, 108, 100, 111, 117, 32, 115, 116, 119, 32, 115, 116, 104, 32, 115, 116, 111, 32, 98, 101, 113, 32, 98, 110, 101, 32, 98, 108, 116, 32, 98, 103, 101, 32, 98, 108, 116, 117, 32, 98, 103, 101, 117, 32, 106, 117, 109, 112, 32, 106, 117, 109, 112, 114, 32, 97, 115, 107, 32, 98, 97, 99, 107, 32, 119, 111, 114, 100, 32, 114, 111, 111, 109, 32]
def rf_Zs (E : Heap × Nat × Nat) (h0 : Nat) (U : State) : Prop := E.1.size ≤ h0 ∧ jk_pre E.1 U.heap ∧ jk_B E.1 E.2.1 E.2.2 rn_tab U ∧ vk_R RX12 263 "add sub and o\x72 xo\x72 shl sh\x72 sa\x72 less below mul addi andi o\x72i xo\x72i shli sh\x72i sa\x72i lessi belowi high ldw ldh ldhu ldo ldou stw sth sto beq bne blt bge bltu bgeu jump jump\x72 ask back wo\x72d \x72oom " E.2.1 U
theorem rf_Zs.moved {u U : State} (hh : jk_pre E.1 U.heap) (hW : u.WarmedH U.vm) (h : rf_Zs E h0 u) : rf_Zs E h0 U := ⟨h.1, hh, h.2.2.1.moved hW.alike, h.2.2.2.warm hW⟩
theorem rf_charAt {i : Int32} (hi : vp_in i 188) : jk_Met l E.1 E.2.1 E.2.2 rn_tab yJ0_charAt_5068e cJ0_charAt_5068e 2 (some .char) 3 64 [.ref E.2.1, .int i] (some (.int (rn_tab.getD i.toNatClampNeg 0))) := by
  have hlen : rn_tab.length = 188 := by decide +kernel
  exact jk_charAt (fun q => hi (Or.inl q)) (by rw [hlen]; exact Nat.not_le.mp (fun q => hi (Or.inr q)))
theorem rf_pre (G : rf_Gz z9 D h0 s ρ H locs) (Z : rf_Zs E h0 s) : jk_pre E.1 H := ⟨Nat.le_trans Z.2.1.1 G.2.2.1, fun q hq => by
  rw [G.2.2.2.1 q (Nat.lt_of_lt_of_le hq Z.2.1.1) (fun h => by have := h.1; have := Z.1; omega)]
  exact Z.2.1.2 q hq⟩
/-- a call of a method of String on the reference's own text -/
theorem rf_callJ {y : MethodName} {cy : ByteArray} {mL idx n fr lo : Nat} {rt : Option FieldType} {rv : Option Value} (C : rf_C D p s m args meth c cc nL ret) (G : rf_Gz z9 D h0 s ρ H locs) (Z : rf_Zs E h0 s) (w1 : Cond.methodLink RX12 idx y ∈ rf_tb) (w2 : Cond.instanceMethod y ∈ rf_tb) (w3 : Cond.code y cy mL rt ∈ rf_tb) (w4 : Cond.initialized y.cls ∈ rf_tb) (w5 : Cond.selects RJ0 y y ∈ rf_tb) (hd : y.cls ≠ "java/lang/invoke/MethodHandle" ∧ y.cls ≠ "java/lang/invoke/VarHandle" ∧ (parseMethodDescriptor y.desc).map (fun d => d.parameters.length) = some n) (As : List Value) (st0 : List Value) (hM : jk_Met l E.1 E.2.1 E.2.2 rn_tab y cy mL rt fr lo (.ref E.2.1 :: As) rv) (hfr : fr + 1 ≤ R.frames) (hlo : 8 + (mL + 11) + lo ≤ R.locals) (hn : As.length = n) (hst : st0 = As.reverse ++ .ref E.2.1 :: rest) (hls : ls.size = nL) (hW : (rest.map fun v => v.category).sum ≤ 8) (hce : cells ≤ R.cells) (hsl : slots ≤ R.slots) (hdg : decode cc pc = .ok (.invokevirtual idx, 3))
    (kk : W p l e R s m args below meth c H locs cells slots Q (F0 m (pc + 3) ls (rv.toList ++ rest))) : W p l e R s m args below meth c H locs cells slots Q (F0 m pc ls st0) := by
  subst hst
  have hpre := rf_pre G Z
  obtain ⟨hx, hb, hml, hown, hts, hB, -, -⟩ := C
  have hJ := Z.2.2.1
  have hrec : ∃ cell : Cell, H[E.2.1]? = some cell ∧ cell.vm.isStatics = false ∧ s.vm.findClass RJ0 = some cell.cls := by
    obtain ⟨cell, h1, h2, h3, -⟩ := hJ.2.2.1.kept (fun a ha _ => hpre.2 a ha)
    exact ⟨cell, h1, h2, h3⟩
  have hC : CallB R s args RX12 idx y cy mL rt (Cond.code y cy mL rt :: rf_tb) ({ frames := fr, cells := 0, slots := 0, locals := lo }) 0 0 n := callB_of n hts (rf_gw w3) rfl rfl rfl (hts _ w4) (hts _ w1) hd ⟨hfr, hlo⟩
  have hrun := va_runV (p := p) (l := l) (e := e) (R := R) (below := below) (meth := meth) (locs := locs) (cells := cells) (slots := slots) (g := F0 m pc ls (As.reverse ++ .ref E.2.1 :: rest)) ⟨hx, hb, hml, hown, hts⟩ hM ⟨hC, hts _ w2, hts _ w5⟩ (H := H) (b := E.2.1) (As := As) ⟨jk_blind, hrec, fun U hU hW => ⟨rfl, by rw [hU]; exact hpre, hJ.moved hW.alike⟩⟩ rfl hn hls rfl (lv_room hW) hdg ⟨by omega, by omega⟩
  intro T hT X
  obtain ⟨v, st₀, t, T', L, g0, X', hL, e1, e2, ⟨hv, hP⟩, st⟩ := hrun T hT X
  cases hv
  cases jk_nil hL
  rw [List.append_nil] at X'
  obtain ⟨t2, a1, b1⟩ := kk T' (by rw [e1, hP, g0]) X'
  exact ⟨t2, st t2 a1, b1⟩
def rf_MetZ (l : Launch) (D : rf_D) (E : Heap × Nat × Nat) (h0 : Nat) (y : MethodName) (cc : ByteArray) (maxL : Nat) (ret : Option FieldType) (fr lo : Nat) (av : List Value) (ρ : rf_S) (rv : Option Value) (ρ' : rf_S) : Prop :=
  Met l y (.code y cc maxL ret :: rf_tb) ({ frames := fr, cells := 0, slots := 0, locals := lo }) (va_Pc av (fun U => (rf_P D h0 ρ U.heap ∧ rf_Zs E h0 U) ∧ rf_K D U)) (rf_Q D h0 rv ρ') 0 0 (rf_A h0)
theorem rf_ofZ {y : MethodName} {cy : ByteArray} {mL fr lo : Nat} {rt : Option FieldType} {av : List Value} {rv : Option Value} {ρ' : rf_S} (hy : y.cls = RX12) (hnl : (lg_sl av).length ≤ mL)
    (body : ∀ (p : Program) (e : Env) (s : State) (m : MethodId) (args : Array Value) (below : List Frame) (meth : Method) (c : Code) (ls : Array Slot), rf_C D p s m args meth c cy mL rt → rf_Zs E h0 s → rf_G D h0 s ρ s.heap [] → lv_has ls mL (lv_args 0 av) → W p l e ({ frames := fr, cells := 0, slots := 0, locals := lo }) s m args below meth c s.heap [] 0 0 (MQ below (rf_Q D h0 rv ρ') args s 0 0 (rf_A h0)) (F0 m 0 ls [])) : rf_MetZ l D E h0 y cy mL rt fr lo av ρ rv ρ' := by
  refine Met.ofW (cc := cy) (maxL := mL) (ret := rt) (by rw [hy]; decide) rfl ?_
  intro p e s m args below meth c s₁ B hml hv
  obtain ⟨rfl, ⟨hP, hZ⟩, hK⟩ := hv
  have hts := atoms_spec (ws := Cond.code y cy mL rt :: rf_tb) B.pre
  have hown : s.vm.findClass RX12 = some m.cls := by rw [← hy]; exact findClass_of_methodNamed B.named
  have hl := lv_entry av (n := mL) hnl
  rw [lg_entry_eq]
  exact body p e s m _ below meth c _ ⟨B.exec, B.bytes, hml, hown, fun w hw => hts w (List.mem_cons_of_mem _ hw), hK, B.returns, B.notSynchronized⟩ hZ ⟨hP, rfl, va_S.rf⟩ hl
end STR2

