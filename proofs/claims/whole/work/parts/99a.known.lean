section KNOWN
variable {s : State} {b : Nat}
theorem kn_ht (hts : ∀ w ∈ lw_tbl, w.before #[Value.ref b] s = true) {w : Cond} (i : Nat) (h : tables_1[i]? = some w) : w.before #[Value.ref b] s = true := hts w (List.mem_append_right _ (List.mem_of_getElem? h))
theorem kn_fl (hgv : (Jvm.Cond.and given_1 narrow_1).before #[Value.ref b] s = true) {w : Cond} (i : Nat) (h : (flatC (Jvm.Cond.and given_1 narrow_1))[i]? = some w) : w.before #[Value.ref b] s = true := flat_of_before _ hgv w (List.mem_of_getElem? h)
theorem kn_arr {ty : FieldType} (h : (Cond.arrayClass ty).before #[Value.ref b] s = true) : ∃ cA, ArrOfT s cA ty ∧ s.vm.findClass ("[" ++ ty.toString) = some cA := by
  obtain ⟨cA, kA, comp, h1, h2, h3⟩ := Cond.arrayClass_spec h
  exact ⟨cA, fun n z => ⟨fun k h => (by cases h), kA, h2, comp, h3⟩, h1⟩
theorem kn_arO {C : String} (h : (Cond.arrayOver (.object C)).before #[Value.ref b] s = true) : ∃ cA, ArrOfT s cA (.object C) ∧ va_RA s cA (.object C) := by
  obtain ⟨comp, cA, kA, h1, h2, h3, h4, h5⟩ := Cond.arrayOver_spec h
  exact ⟨cA, fun n z => ⟨fun k h => (by cases h), kA, h3, comp, h4⟩, kA, comp, h3, h4, h1, h5⟩
theorem kn_arA (h : (Cond.arrayOver (.array .int)).before #[Value.ref b] s = true) : ∃ cA, ArrOfT s cA (.array .int) ∧ va_RA s cA (.array .int) := by
  obtain ⟨comp, cA, kA, h1, h2, h3, h4⟩ := Cond.arrayOver_specA h
  exact ⟨cA, fun n z => ⟨fun k h => (by cases h), kA, h2, comp, h3⟩, h4⟩
theorem kn_str {own : String} {k : Nat} (bs : List Int32) (hN : bs.length < 2 ^ 31) (hx : ∀ x ∈ bs, (x &&& 255).toUInt32 % 65536 = x.toUInt32 ∧ narrow .char (.int x) = .int x) (hex : (Cond.exactly (.string own k) "java/lang/String").before #[Value.ref b] s = true) (hco : (Cond.eq (.field (.string own k) "java/lang/String" "coder" "B") (.int 0)).before #[Value.ref b] s = true) (har : (Cond.arrayOf (.field (.string own k) "java/lang/String" "value" "[B") .byte).before #[Value.ref b] s = true) (hle : (Cond.eq (.length (.field (.string own k) "java/lang/String" "value" "[B")) (.int (Int32.ofNat bs.length))).before #[Value.ref b] s = true) (hel : ∀ j, j < bs.length → (Cond.eq (.elem (.field (.string own k) "java/lang/String" "value" "[B") (.int (Int32.ofNat j))) (.int (bs.getD j 0))).before #[Value.ref b] s = true) : ∃ q qv, (Term.string own k).eval #[Value.ref b] s none [] s = some (.ref q) ∧ jk_S s.heap q qv bs s := by
  obtain ⟨adK, adV, h1, h2⟩ := vk_Sof (args := #[Value.ref b]) (s := s) (N := 1) (tm := fun _ => .string own k) (len := [bs.length]) (byt := [bs]) (A := jk_A s.heap) (fun i hi => by
    have : i = 0 := by omega
    subst this
    exact hN) (fun i _ => hex) (fun i _ => hco) (fun i _ => har) (fun i hi => by
    have : i = 0 := by omega
    subst this
    exact hle) (fun i hi j hj => by
    have : i = 0 := by omega
    subst this
    exact hel j hj) (fun i j hi hj h => absurd (show i = j by omega) h) (fun a ha h => Nat.not_le.mpr ha h)
  obtain ⟨a1, a2, a3, a4⟩ := h1.1 0 (by omega)
  exact ⟨adK 0, adV 0, h2 0 (by omega), ⟨hN, hx⟩, a1, a2, a3, a4⟩
theorem kn_jK (hts : ∀ w ∈ lw_tbl, w.before #[Value.ref b] s = true) (hgv : (Jvm.Cond.and given_1 narrow_1).before #[Value.ref b] s = true) : jk_K s.heap s := by
  have hA : ∀ a : Nat, a < s.heap.size → ¬ jk_A s.heap a := fun a ha h => Nat.not_le.mpr ha h
  have w2 : (Cond.eq (.static "java/lang/String" "COMPACT_STRINGS" "Z") (.int 1)).before #[Value.ref b] s = true := kn_fl hgv 4 (by decide +kernel)
  have w3 : (Cond.isRef (.static "jdk/internal/util/Preconditions" "SIOOBE_FORMATTER" "Ljava/util/function/BiFunction;")).before #[Value.ref b] s = true := kn_fl hgv 5 (by decide +kernel)
  exact ⟨va_Zof (args := #[Value.ref b]) (kn_ht hts 85 (by decide +kernel)) (kn_ht hts 4 (by decide +kernel)) (va_eqt w2) hA, va_Zqof (args := #[Value.ref b]) (kn_ht hts 93 (by decide +kernel)) (kn_ht hts 6 (by decide +kernel)) w3 hA⟩
set_option maxRecDepth 100000 in
theorem kn_t50 : tables_1[75]? = some (Cond.stringRef RX0 50 "add   sub   and   o\x72    xo\x72   shl   sh\x72   sa\x72   less  below mul   addi  andi  o\x72i   xo\x72i  shli  sh\x72i  sa\x72i  lessi belowihigh  ldw   ldh   ldhu  ldo   ldou  stw   sth   sto   beq   bne   blt   bge   bltu  bgeu  jump  jump\x72 ask   back  wo\x72d  \x72oom  ") := by first | rfl | decide +kernel
set_option maxRecDepth 100000 in
theorem kn_t206 : tables_1[924]? = some (Cond.stringRef RX0 206 " ") := by first | rfl | decide +kernel
set_option maxRecDepth 100000 in
theorem kn_t215 : tables_1[943]? = some (Cond.stringRef RX0 215 " \x72") := by first | rfl | decide +kernel
set_option maxRecDepth 100000 in
theorem kn_t221 : tables_1[948]? = some (Cond.stringRef RX0 221 ", \x72") := by first | rfl | decide +kernel
set_option maxRecDepth 100000 in
theorem kn_t223 : tables_1[949]? = some (Cond.stringRef RX0 223 ", ") := by first | rfl | decide +kernel
set_option maxRecDepth 100000 in
theorem kn_tm : tables_1[1514]? = some (Cond.stringRef RX12 263 "add sub and o\x72 xo\x72 shl sh\x72 sa\x72 less below mul addi andi o\x72i xo\x72i shli sh\x72i sa\x72i lessi belowi high ldw ldh ldhu ldo ldou stw sth sto beq bne blt bge bltu bgeu jump jump\x72 ask back wo\x72d \x72oom ") := by first | rfl | decide +kernel
set_option maxRecDepth 100000 in
theorem kn_s50_e : ∀ j, j < 246 → (flatC (Jvm.Cond.and given_1 narrow_1))[16 + j]? = some (Cond.eq (.elem (.field (.string RX0 50) "java/lang/String" "value" "[B") (.int (Int32.ofNat j))) (.int ((nm_tab : List Int32).getD j 0))) := by decide +kernel
theorem kn_s50 (hgv : (Jvm.Cond.and given_1 narrow_1).before #[Value.ref b] s = true) : ∃ q qv, (Term.string RX0 50).eval #[Value.ref b] s none [] s = some (.ref q) ∧ jk_S s.heap q qv nm_tab s :=
  kn_str nm_tab (by decide +kernel) (by decide +kernel) (kn_fl hgv 12 (by decide +kernel)) (kn_fl hgv 13 (by decide +kernel)) (kn_fl hgv 14 (by decide +kernel)) (kn_fl hgv 15 (by decide +kernel)) (fun j hj => kn_fl hgv (16 + j) (kn_s50_e j hj))
set_option maxRecDepth 100000 in
theorem kn_s206_e : ∀ j, j < 1 → (flatC (Jvm.Cond.and given_1 narrow_1))[266 + j]? = some (Cond.eq (.elem (.field (.string RX0 206) "java/lang/String" "value" "[B") (.int (Int32.ofNat j))) (.int (([32] : List Int32).getD j 0))) := by decide +kernel
theorem kn_s206 (hgv : (Jvm.Cond.and given_1 narrow_1).before #[Value.ref b] s = true) : ∃ q qv, (Term.string RX0 206).eval #[Value.ref b] s none [] s = some (.ref q) ∧ jk_S s.heap q qv [32] s :=
  kn_str [32] (by decide +kernel) (by decide +kernel) (kn_fl hgv 262 (by decide +kernel)) (kn_fl hgv 263 (by decide +kernel)) (kn_fl hgv 264 (by decide +kernel)) (kn_fl hgv 265 (by decide +kernel)) (fun j hj => kn_fl hgv (266 + j) (kn_s206_e j hj))
set_option maxRecDepth 100000 in
theorem kn_s215_e : ∀ j, j < 2 → (flatC (Jvm.Cond.and given_1 narrow_1))[272 + j]? = some (Cond.eq (.elem (.field (.string RX0 215) "java/lang/String" "value" "[B") (.int (Int32.ofNat j))) (.int (([32, 114] : List Int32).getD j 0))) := by decide +kernel
theorem kn_s215 (hgv : (Jvm.Cond.and given_1 narrow_1).before #[Value.ref b] s = true) : ∃ q qv, (Term.string RX0 215).eval #[Value.ref b] s none [] s = some (.ref q) ∧ jk_S s.heap q qv [32, 114] s :=
  kn_str [32, 114] (by decide +kernel) (by decide +kernel) (kn_fl hgv 268 (by decide +kernel)) (kn_fl hgv 269 (by decide +kernel)) (kn_fl hgv 270 (by decide +kernel)) (kn_fl hgv 271 (by decide +kernel)) (fun j hj => kn_fl hgv (272 + j) (kn_s215_e j hj))
set_option maxRecDepth 100000 in
theorem kn_s221_e : ∀ j, j < 3 → (flatC (Jvm.Cond.and given_1 narrow_1))[280 + j]? = some (Cond.eq (.elem (.field (.string RX0 221) "java/lang/String" "value" "[B") (.int (Int32.ofNat j))) (.int (([44, 32, 114] : List Int32).getD j 0))) := by decide +kernel
theorem kn_s221 (hgv : (Jvm.Cond.and given_1 narrow_1).before #[Value.ref b] s = true) : ∃ q qv, (Term.string RX0 221).eval #[Value.ref b] s none [] s = some (.ref q) ∧ jk_S s.heap q qv [44, 32, 114] s :=
  kn_str [44, 32, 114] (by decide +kernel) (by decide +kernel) (kn_fl hgv 276 (by decide +kernel)) (kn_fl hgv 277 (by decide +kernel)) (kn_fl hgv 278 (by decide +kernel)) (kn_fl hgv 279 (by decide +kernel)) (fun j hj => kn_fl hgv (280 + j) (kn_s221_e j hj))
set_option maxRecDepth 100000 in
theorem kn_s223_e : ∀ j, j < 2 → (flatC (Jvm.Cond.and given_1 narrow_1))[290 + j]? = some (Cond.eq (.elem (.field (.string RX0 223) "java/lang/String" "value" "[B") (.int (Int32.ofNat j))) (.int (([44, 32] : List Int32).getD j 0))) := by decide +kernel
theorem kn_s223 (hgv : (Jvm.Cond.and given_1 narrow_1).before #[Value.ref b] s = true) : ∃ q qv, (Term.string RX0 223).eval #[Value.ref b] s none [] s = some (.ref q) ∧ jk_S s.heap q qv [44, 32] s :=
  kn_str [44, 32] (by decide +kernel) (by decide +kernel) (kn_fl hgv 286 (by decide +kernel)) (kn_fl hgv 287 (by decide +kernel)) (kn_fl hgv 288 (by decide +kernel)) (kn_fl hgv 289 (by decide +kernel)) (fun j hj => kn_fl hgv (290 + j) (kn_s223_e j hj))
set_option maxRecDepth 100000 in
theorem kn_sm_e : ∀ j, j < 188 → (flatC (Jvm.Cond.and given_1 narrow_1))[300 + j]? = some (Cond.eq (.elem (.field (.string RX12 263) "java/lang/String" "value" "[B") (.int (Int32.ofNat j))) (.int ((rn_tab : List Int32).getD j 0))) := by decide +kernel
theorem kn_sm (hgv : (Jvm.Cond.and given_1 narrow_1).before #[Value.ref b] s = true) : ∃ q qv, (Term.string RX12 263).eval #[Value.ref b] s none [] s = some (.ref q) ∧ jk_S s.heap q qv rn_tab s :=
  kn_str rn_tab (by decide +kernel) (by decide +kernel) (kn_fl hgv 296 (by decide +kernel)) (kn_fl hgv 297 (by decide +kernel)) (kn_fl hgv 298 (by decide +kernel)) (kn_fl hgv 299 (by decide +kernel)) (fun j hj => kn_fl hgv (300 + j) (kn_sm_e j hj))
/-- what the class's walks ask of the start -/
theorem kn_K (hts : ∀ w ∈ lw_tbl, w.before #[Value.ref b] s = true) (hgv : (Jvm.Cond.and given_1 narrow_1).before #[Value.ref b] s = true) : ∃ D : cl_D, D.2.2.2.1 = s.heap ∧ cl_K D s := by
  have htb : ∀ w ∈ rf_tb, w.before #[Value.ref b] s = true := fun w hw => hts w (List.mem_filter.mp hw).1
  have hA : ∀ a : Nat, a < s.heap.size → ¬ (fun q : Nat => s.heap.size ≤ q) a := fun a ha h => Nat.not_le.mpr ha h
  obtain ⟨c0, i0, K0⟩ := u_known (C := RX0) (T := TX0) (N := 16) (n := 16) htb inX0 (htb _ ni_0)
  obtain ⟨c1, i1, K1⟩ := u_known (C := RX1) (T := TX1) (N := 16) (n := 16) htb inX1 (htb _ ni_1)
  obtain ⟨c2, i2, K2⟩ := u_known (C := RX2) (T := TX2) (N := 9) (n := 9) htb inX2 (htb _ ni_2)
  obtain ⟨c3, i3, K3⟩ := u_known (C := RX3) (T := TX3) (N := 3) (n := 3) htb inX3 (htb _ ni_3)
  obtain ⟨c4, i4, K4⟩ := u_known (C := RX4) (T := TX4) (N := 7) (n := 7) htb inX4 (htb _ ni_4)
  obtain ⟨c5, i5, K5⟩ := u_known (C := RX5) (T := TX5) (N := 20) (n := 20) htb inX5 (htb _ ni_5)
  obtain ⟨c6, i6, K6⟩ := u_known (C := RX6) (T := TX6) (N := 18) (n := 18) htb inX6 (htb _ ni_6)
  obtain ⟨c7, i7, K7⟩ := u_known (C := RX7) (T := TX7) (N := 5) (n := 5) htb inX7 (htb _ ni_7)
  obtain ⟨c8, i8, K8⟩ := u_known (C := RX8) (T := TX8) (N := 6) (n := 6) htb inX8 (htb _ ni_8)
  obtain ⟨c9, i9, K9⟩ := u_known (C := RX9) (T := TX9) (N := 16) (n := 16) htb inX9 (htb _ ni_9)
  obtain ⟨c10, i10, K10⟩ := u_known (C := RX10) (T := TX10) (N := 11) (n := 11) htb inX10 (htb _ ni_10)
  obtain ⟨c11, i11, K11⟩ := u_known (C := RX11) (T := TX11) (N := 15) (n := 15) htb inX11 (kn_ht hts 22 (by decide +kernel))
  obtain ⟨aI, rI, fI⟩ := kn_arr (ty := .int) (kn_ht hts 64 (by decide +kernel))
  obtain ⟨aJ, rJ, fJ⟩ := kn_arr (ty := .long) (kn_ht hts 65 (by decide +kernel))
  obtain ⟨aC, rC, fC⟩ := kn_arr (ty := .char) (kn_ht hts 63 (by decide +kernel))
  obtain ⟨aT, rT, fT⟩ := kn_arO (C := "PartHouse$Term") (kn_ht hts 202 (by decide +kernel))
  obtain ⟨aP, rP, fP⟩ := kn_arO (C := "PartHouse$Partition") (kn_ht hts 486 (by decide +kernel))
  obtain ⟨aA, rA, fA⟩ := kn_arA (kn_ht hts 194 (by decide +kernel))
  obtain ⟨q0, qv0, ev0, j0⟩ := kn_s50 hgv
  obtain ⟨q1, qv1, ev1, j1⟩ := kn_s206 hgv
  obtain ⟨q2, qv2, ev2, j2⟩ := kn_s215 hgv
  obtain ⟨q3, qv3, ev3, j3⟩ := kn_s221 hgv
  obtain ⟨q4, qv4, ev4, j4⟩ := kn_s223 hgv
  obtain ⟨qw, _, hqw, _⟩ := Term.length_spec (va_eqt (kn_fl hgv 11 (by decide +kernel) : (Cond.eq (.length (.static "PartHouse$Term" "NO_WORDS" "[I")) (.int 0)).before #[Value.ref b] s = true))
  have hNW : va_Z "PartHouse$Term" "NO_WORDS" "[I" (.ref qw) (fun q => s.heap.size ≤ q) s s.heap := va_Zof (args := #[Value.ref b]) (kn_ht hts 209 (by decide +kernel)) (kn_ht hts 10 (by decide +kernel)) hqw hA
  obtain ⟨qS, hqS⟩ : ∃ qS : List Int32 → Nat, ∀ l, qS l = (if l = nm_tab then q0 else if l = [32] then q1 else if l = [32, 114] then q2 else if l = [44, 32, 114] then q3 else q4) := ⟨fun l => if l = nm_tab then q0 else if l = [32] then q1 else if l = [32, 114] then q2 else if l = [44, 32, 114] then q3 else q4, fun _ => rfl⟩
  have e0 : qS nm_tab = q0 := by rw [hqS, if_pos rfl]
  have e1 : qS [32] = q1 := by rw [hqS, if_neg (by decide +kernel), if_pos rfl]
  have e2 : qS [32, 114] = q2 := by rw [hqS, if_neg (by decide +kernel), if_neg (by decide +kernel), if_pos rfl]
  have e3 : qS [44, 32, 114] = q3 := by rw [hqS, if_neg (by decide +kernel), if_neg (by decide +kernel), if_neg (by decide +kernel), if_pos rfl]
  have e4 : qS [44, 32] = q4 := by rw [hqS, if_neg (by decide +kernel), if_neg (by decide +kernel), if_neg (by decide +kernel), if_neg (by decide +kernel)]
  have v0 : vk_R RX0 50 "add   sub   and   o\x72    xo\x72   shl   sh\x72   sa\x72   less  below mul   addi  andi  o\x72i   xo\x72i  shli  sh\x72i  sa\x72i  lessi belowihigh  ldw   ldh   ldhu  ldo   ldou  stw   sth   sto   beq   bne   blt   bge   bltu  bgeu  jump  jump\x72 ask   back  wo\x72d  \x72oom  " (qS nm_tab) s ∧ ∃ qv, jk_S s.heap (qS nm_tab) qv nm_tab s := by rw [e0]; exact ⟨vk_R.of (A := #[Value.ref b]) (kn_ht hts 75 kn_t50) ev0, qv0, j0⟩
  have v1 : vk_R RX0 206 " " (qS [32]) s ∧ ∃ qv, jk_S s.heap (qS [32]) qv [32] s := by rw [e1]; exact ⟨vk_R.of (A := #[Value.ref b]) (kn_ht hts 924 kn_t206) ev1, qv1, j1⟩
  have v2 : vk_R RX0 215 " \x72" (qS [32, 114]) s ∧ ∃ qv, jk_S s.heap (qS [32, 114]) qv [32, 114] s := by rw [e2]; exact ⟨vk_R.of (A := #[Value.ref b]) (kn_ht hts 943 kn_t215) ev2, qv2, j2⟩
  have v3 : vk_R RX0 221 ", \x72" (qS [44, 32, 114]) s ∧ ∃ qv, jk_S s.heap (qS [44, 32, 114]) qv [44, 32, 114] s := by rw [e3]; exact ⟨vk_R.of (A := #[Value.ref b]) (kn_ht hts 948 kn_t221) ev3, qv3, j3⟩
  have v4 : vk_R RX0 223 ", " (qS [44, 32]) s ∧ ∃ qv, jk_S s.heap (qS [44, 32]) qv [44, 32] s := by rw [e4]; exact ⟨vk_R.of (A := #[Value.ref b]) (kn_ht hts 949 kn_t223) ev4, qv4, j4⟩
  refine ⟨(fun k => ([c0, c1, c2, c3, c4, c5, c6, c7, c8, c9, c10, c11] : List ClassId).getD k c0, fun k => ([i0, i1, i2, i3, i4, i5, i6, i7, i8, i9, i10, i11] : List (Nat → Nat)).getD k i0, fun t => ([aI, aI, aJ, aC, aT, aP, aA] : List ClassId).getD t aI, s.heap, qw, qS), rfl, ?_, ?_, ?_⟩
  · intro ci q hq
    match ci, hq with
    | 0, hq => cases hq; exact K0
    | 1, hq => cases hq; exact K1
    | 2, hq => cases hq; exact K2
    | 3, hq => cases hq; exact K3
    | 4, hq => cases hq; exact K4
    | 5, hq => cases hq; exact K5
    | 6, hq => cases hq; exact K6
    | 7, hq => cases hq; exact K7
    | 8, hq => cases hq; exact K8
    | 9, hq => cases hq; exact K9
    | 10, hq => cases hq; exact K10
    | 11, hq => cases hq; exact K11
    | k + 12, hq =>
      rw [List.getElem?_eq_none (show cl_cls.length ≤ k + 12 from Nat.le_add_left 12 k)] at hq
      cases hq
  · intro t h0 h7
    match t, h0, h7 with
    | 0, h, _ => exact absurd h (by decide)
    | 1, _, _ => exact ⟨rI, fI⟩
    | 2, _, _ => exact ⟨rJ, fJ⟩
    | 3, _, _ => exact ⟨rC, fC⟩
    | 4, _, _ => exact ⟨rT, fT⟩
    | 5, _, _ => exact ⟨rP, fP⟩
    | 6, _, _ => exact ⟨rA, fA⟩
    | t + 7, _, h => exact absurd h (by omega)
  · refine ⟨?_, ?_, ?_, ?_, ?_, hNW, ?_, kn_jK hts hgv⟩
    · exact List.forall_mem_cons.mpr ⟨v0, List.forall_mem_cons.mpr ⟨v1, List.forall_mem_cons.mpr ⟨v2, List.forall_mem_cons.mpr ⟨v3, List.forall_mem_cons.mpr ⟨v4, fun _ h => absurd h List.not_mem_nil⟩⟩⟩⟩⟩
    · exact List.forall_mem_cons.mpr ⟨va_Nw.of (A := #[Value.ref b]) rfl (kn_ht hts 31 (by decide +kernel)), List.forall_mem_cons.mpr ⟨va_Nw.of (A := #[Value.ref b]) rfl (kn_ht hts 173 (by decide +kernel)), List.forall_mem_cons.mpr ⟨va_Nw.of (A := #[Value.ref b]) rfl (kn_ht hts 415 (by decide +kernel)), List.forall_mem_cons.mpr ⟨va_Nw.of (A := #[Value.ref b]) rfl (kn_ht hts 496 (by decide +kernel)), List.forall_mem_cons.mpr ⟨va_Nw.of (A := #[Value.ref b]) rfl (kn_ht hts 692 (by decide +kernel)), fun _ h => absurd h List.not_mem_nil⟩⟩⟩⟩⟩
    · exact va_AO.of (A := #[Value.ref b]) (kn_ht hts 202 (by decide +kernel))
    · exact va_AO.of (A := #[Value.ref b]) (kn_ht hts 486 (by decide +kernel))
    · exact (kn_ht hts 194 (by decide +kernel) : (Cond.arrayOver (.array .int)).before #[Value.ref b] s = true)
    · exact va_Nw.of (A := #[Value.ref b]) rfl (kn_ht hts 1076 (by decide +kernel))
/-- what the reference's walks ask of the start -/
theorem kn_Q (hts : ∀ w ∈ lw_tbl, w.before #[Value.ref b] s = true) : ∃ Dr : rf_D, rf_K Dr s ∧ ri_A Dr s := by
  have htb : ∀ w ∈ rf_tb, w.before #[Value.ref b] s = true := fun w hw => hts w (List.mem_filter.mp hw).1
  obtain ⟨cM, iM, KM⟩ := u_known (C := RX12) (T := TX12) (N := 122) (n := 122) htb rf_in (kn_ht hts 1506 (by decide +kernel))
  obtain ⟨aI, rI, fI⟩ := kn_arr (htb _ ri_a0)
  obtain ⟨aB, rB, fB⟩ := kn_arr (htb _ ri_a1)
  obtain ⟨aZ, rZ, fZ⟩ := kn_arr (htb _ ri_a2)
  obtain ⟨aJ, rJ, fJ⟩ := kn_arr (htb _ ri_a3)
  refine ⟨(cM, iM, fun t => ([aI, aB, aZ, aJ] : List ClassId).getD t aI), ⟨KM, fun t ht => ?_⟩, fun t ht => ?_⟩
  · match t, ht with
    | 0, _ => exact rI
    | 1, _ => exact rB
    | 2, _ => exact rZ
    | 3, _ => exact rJ
    | t + 4, h => exact absurd h (by omega)
  · match t, ht with
    | 0, _ => exact fI
    | 1, _ => exact fB
    | 2, _ => exact fZ
    | 3, _ => exact fJ
    | t + 4, h => exact absurd h (by omega)
theorem kn_Z (hts : ∀ w ∈ lw_tbl, w.before #[Value.ref b] s = true) (hgv : (Jvm.Cond.and given_1 narrow_1).before #[Value.ref b] s = true) : ∃ q qv, ∀ h0, s.heap.size ≤ h0 → rf_Zs (s.heap, q, qv) h0 s := by
  obtain ⟨q, qv, ev, j⟩ := kn_sm hgv
  exact ⟨q, qv, fun h0 h => ⟨h, ⟨Nat.le_refl _, fun _ _ => rfl⟩, ⟨kn_jK hts hgv, j⟩, vk_R.of (A := #[Value.ref b]) (kn_ht hts 1514 kn_tm) ev⟩⟩
end KNOWN
