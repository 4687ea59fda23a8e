section LAW3
variable {p : Program} {l : Launch} {e : Env} {s : State} {m : MethodId} {below : List Frame} {meth : Method} {c : Code} {D : cl_D} {Dr : rf_D} {c0 h0 b L q9 qv9 : Nat} {xs : Nat → Int32}
theorem lw_le {k L : Nat} (hL : L ≤ 320) (h : ¬ (nI L - (5:Int32)) < nI k) (hk : k ≤ 400) : k + 5 ≤ L := by
  have h1 : (nI k).toInt = (k : Int) := Int32.toInt_ofNat_of_lt (by omega)
  have h2 : (nI L - (5:Int32)).toInt = (L : Int) - 5 := by
    have e1 : (nI L).toInt = (L : Int) := Int32.toInt_ofNat_of_lt (by omega)
    have e2 : (5:Int32).toInt = 5 := by decide
    rw [Int32.toInt_sub, e1, e2]
    exact Int.bmod_eq_of_le (by omega) (by omega)
  have h3 : ¬ (nI L - (5:Int32)).toInt < (nI k).toInt := fun q => h (Int32.lt_iff_toInt_lt.mpr q)
  omega
set_option maxHeartbeats 4000000 in
/-- THE LAW'S LOOP over any relation that the 34 calls keep -/
theorem lw_loop (I : Nat → cl_S → rf_S → Prop) (hI : ∀ k σ ρ, k < 64 → I k σ ρ → I (k + 1) σ ρ ∧ ∀ n x1 x2 x3 x4, n < 34 → ∃ r σ' ρ', lw_fc n x1 x2 x3 x4 σ = some (r, σ') ∧ lw_fq n x1 x2 x3 x4 ρ = some (r, ρ') ∧ I (k + 1) σ' ρ')
    (hr : meth.sig.returnType = ret) (C : cl_C D p s m #[Value.ref b] meth c code 4 ret R_law) (hK : rf_K Dr s) (hZ : rf_Zs (s.heap, q9, qv9) h0 s) (hcs : s.heap.size = c0 ∧ D.2.2.2.1 = s.heap) (hX : va_X b L xs s s.heap) (hbl : b < s.heap.size) (hL : L ≤ 320) :
    ∀ (n k : Nat), 65 ≤ k + n → k ≤ 64 → ∀ (σ : cl_S) (ρ : rf_S), I k σ ρ → ∀ (H : Heap) (locs : List Loc) (cells slots : Nat) (ls : Array Slot), lw_H D Dr c0 h0 s σ ρ H locs cells slots → lv_has ls 4 [(3, .int (nI (5 * k))), (2, .ref h0), (1, .ref (c0 + 0)), (0, .ref b)] → W p l e room_1 s m #[Value.ref b] below meth c H locs cells slots (lw_Z below #[Value.ref b] s) (F0 m 18 ls []) := by
  intro n
  induction n with
  | zero => intro k h1 h2; omega
  | succ n ih =>
    intro k hkn hk64 σ ρ hi0 H locs cells slots ls G hl
    refine lv_iload_n C.1 C.2.1 dL_law_18 rfl (lv_at hl 0 rfl) ?_
    refine lv_aload_n C.1 C.2.1 dL_law_19 rfl (lv_at hl 3 rfl) ?_
    refine va_slen C.1 C.2.1 hX hbl (lw_nA hbl hcs.1) G.1.2.2.2.1 dL_law_20 ?_
    refine lv_iconst (v := (5:Int32)) C.1 C.2.1 dL_law_21 (by decide) ?_
    refine lv_isub C.1 C.2.1 dL_law_22 ?_
    refine lv_icmp_gt (tgt := 1232) C.1 C.2.1 dL_law_23 (by decide) (fun hc => ?_) (fun hc => ?_)
    · refine lv_iconst (v := 1) C.1 C.2.1 dL_law_1232 (by decide) ?_
      have hce := cl_le1 G.1
      have hsl := cl_le2 G.1
      refine va_forget (fun q hq => ?_) ?_
      · rcases G.1.2.2.2.1.2.2 q hq with h | ⟨-, h⟩
        · exact h
        · exact absurd rfl h
      refine W.widen (k := 600000) (n := 7302250) hce hsl ?_
      exact lw_ret C.1 C.2.1 hr C.2.2.2.2.2.2.2 dL_law_1233
    have hi : 5 * k + 5 ≤ L := lw_le hL hc (by omega)
    have hk : k < 64 := by omega
    have hs := hI k σ ρ hk hi0
    have next : ∀ (σ' : cl_S) (ρ' : rf_S) (H : Heap) (locs : List Loc) (cells slots : Nat), I (k + 1) σ' ρ' → lw_H D Dr c0 h0 s σ' ρ' H locs cells slots → W p l e room_1 s m #[Value.ref b] below meth c H locs cells slots (lw_Z below #[Value.ref b] s) (F0 m 1226 ls []) := by
      intro σ' ρ' H locs cells slots hI' G
      refine lv_iinc (v := nI (5 * (k + 1))) (lv' := [(3, .int (nI (5 * (k + 1)))), (2, .ref h0), (1, .ref (c0 + 0)), (0, .ref b)]) C.1 C.2.1 dL_law_1226 hl (k := 0) rfl (show nI (5 * k) + (5:Int32) = nI (5 * (k + 1)) from nI_add (5 * k) 5) (by decide) rfl (fun ls hl => ?_)
      refine lv_goto (tgt := 18) C.1 C.2.1 dL_law_1229 (by decide) ?_
      exact ih (k + 1) (by omega) (by omega) σ' ρ' hI' H locs cells slots ls G hl
    refine lv_aload_n C.1 C.2.1 dL_law_26 rfl (lv_at hl 3 rfl) ?_
    refine lv_iload_n C.1 C.2.1 dL_law_27 rfl (lv_at hl 0 rfl) ?_
    refine va_sld C.1 C.2.1 hX hbl (lw_nA hbl hcs.1) G.1.2.2.2.1 (vp_in_nI (show 5 * k < L by omega) (by omega)) dL_law_28 ?_
    rw [show (nI (5 * k)).toNatClampNeg = 5 * k from Int32.toNatClampNeg_ofNat_of_lt (by omega)]
    refine lv_bipush (v := (63:Int32)) C.1 C.2.1 dL_law_29 (by decide) ?_
    refine lv_iand C.1 C.2.1 dL_law_31 ?_
    by_cases hk0 : (xs (5 * k) &&& (63:Int32)) = (0:Int32)
    · refine lv_tableIn (tgt := 184) C.1 C.2.1 dL_law_32 (by rw [hk0]; decide) (by rw [hk0]; decide) (by rw [hk0]; rfl) (by decide) ?_
      obtain ⟨r, σ', ρ', hc, hq, hI'⟩ := hs.2 0 (xs (5 * k + 1)) (xs (5 * k + 2)) (xs (5 * k + 3)) (xs (5 * k + 4)) (by decide)
      exact lw_case0 C hK hZ hcs hX hbl hL hi G hl hc hq (fun H locs cells slots G => next _ _ _ _ _ _ hI' G)
    by_cases hk1 : (xs (5 * k) &&& (63:Int32)) = (1:Int32)
    · refine lv_tableIn (tgt := 247) C.1 C.2.1 dL_law_32 (by rw [hk1]; decide) (by rw [hk1]; decide) (by rw [hk1]; rfl) (by decide) ?_
      obtain ⟨r, σ', ρ', hc, hq, hI'⟩ := hs.2 1 (xs (5 * k + 1)) (xs (5 * k + 2)) (xs (5 * k + 3)) (xs (5 * k + 4)) (by decide)
      exact lw_case1 C hK hZ hcs hX hbl hL hi G hl hc hq (fun H locs cells slots G => next _ _ _ _ _ _ hI' G)
    by_cases hk2 : (xs (5 * k) &&& (63:Int32)) = (2:Int32)
    · refine lv_tableIn (tgt := 260) C.1 C.2.1 dL_law_32 (by rw [hk2]; decide) (by rw [hk2]; decide) (by rw [hk2]; rfl) (by decide) ?_
      obtain ⟨r, σ', ρ', hc, hq, hI'⟩ := hs.2 2 (xs (5 * k + 1)) (xs (5 * k + 2)) (xs (5 * k + 3)) (xs (5 * k + 4)) (by decide)
      exact lw_case2 C hK hZ hcs hX hbl hL hi G hl hc hq (fun H locs cells slots G => next _ _ _ _ _ _ hI' G)
    by_cases hk3 : (xs (5 * k) &&& (63:Int32)) = (3:Int32)
    · refine lv_tableIn (tgt := 273) C.1 C.2.1 dL_law_32 (by rw [hk3]; decide) (by rw [hk3]; decide) (by rw [hk3]; rfl) (by decide) ?_
      obtain ⟨r, σ', ρ', hc, hq, hI'⟩ := hs.2 3 (xs (5 * k + 1)) (xs (5 * k + 2)) (xs (5 * k + 3)) (xs (5 * k + 4)) (by decide)
      exact lw_case3 C hK hZ hcs hX hbl hL hi G hl hc hq (fun H locs cells slots G => next _ _ _ _ _ _ hI' G)
    by_cases hk4 : (xs (5 * k) &&& (63:Int32)) = (4:Int32)
    · refine lv_tableIn (tgt := 326) C.1 C.2.1 dL_law_32 (by rw [hk4]; decide) (by rw [hk4]; decide) (by rw [hk4]; rfl) (by decide) ?_
      obtain ⟨r, σ', ρ', hc, hq, hI'⟩ := hs.2 4 (xs (5 * k + 1)) (xs (5 * k + 2)) (xs (5 * k + 3)) (xs (5 * k + 4)) (by decide)
      exact lw_case4 C hK hZ hcs hX hbl hL hi G hl hc hq (fun H locs cells slots G => next _ _ _ _ _ _ hI' G)
    by_cases hk5 : (xs (5 * k) &&& (63:Int32)) = (5:Int32)
    · refine lv_tableIn (tgt := 349) C.1 C.2.1 dL_law_32 (by rw [hk5]; decide) (by rw [hk5]; decide) (by rw [hk5]; rfl) (by decide) ?_
      obtain ⟨r, σ', ρ', hc, hq, hI'⟩ := hs.2 5 (xs (5 * k + 1)) (xs (5 * k + 2)) (xs (5 * k + 3)) (xs (5 * k + 4)) (by decide)
      exact lw_case5 C hK hZ hcs hX hbl hL hi G hl hc hq (fun H locs cells slots G => next _ _ _ _ _ _ hI' G)
    by_cases hk6 : (xs (5 * k) &&& (63:Int32)) = (6:Int32)
    · refine lv_tableIn (tgt := 372) C.1 C.2.1 dL_law_32 (by rw [hk6]; decide) (by rw [hk6]; decide) (by rw [hk6]; rfl) (by decide) ?_
      obtain ⟨r, σ', ρ', hc, hq, hI'⟩ := hs.2 6 (xs (5 * k + 1)) (xs (5 * k + 2)) (xs (5 * k + 3)) (xs (5 * k + 4)) (by decide)
      exact lw_case6 C hK hZ hcs hX hbl hL hi G hl hc hq (fun H locs cells slots G => next _ _ _ _ _ _ hI' G)
    by_cases hk7 : (xs (5 * k) &&& (63:Int32)) = (7:Int32)
    · refine lv_tableIn (tgt := 395) C.1 C.2.1 dL_law_32 (by rw [hk7]; decide) (by rw [hk7]; decide) (by rw [hk7]; rfl) (by decide) ?_
      obtain ⟨r, σ', ρ', hc, hq, hI'⟩ := hs.2 7 (xs (5 * k + 1)) (xs (5 * k + 2)) (xs (5 * k + 3)) (xs (5 * k + 4)) (by decide)
      exact lw_case7 C hK hZ hcs hX hbl hL hi G hl hc hq (fun H locs cells slots G => next _ _ _ _ _ _ hI' G)
    by_cases hk8 : (xs (5 * k) &&& (63:Int32)) = (8:Int32)
    · refine lv_tableIn (tgt := 418) C.1 C.2.1 dL_law_32 (by rw [hk8]; decide) (by rw [hk8]; decide) (by rw [hk8]; rfl) (by decide) ?_
      obtain ⟨r, σ', ρ', hc, hq, hI'⟩ := hs.2 8 (xs (5 * k + 1)) (xs (5 * k + 2)) (xs (5 * k + 3)) (xs (5 * k + 4)) (by decide)
      exact lw_case8 C hK hZ hcs hX hbl hL hi G hl hc hq (fun H locs cells slots G => next _ _ _ _ _ _ hI' G)
    by_cases hk9 : (xs (5 * k) &&& (63:Int32)) = (9:Int32)
    · refine lv_tableIn (tgt := 441) C.1 C.2.1 dL_law_32 (by rw [hk9]; decide) (by rw [hk9]; decide) (by rw [hk9]; rfl) (by decide) ?_
      obtain ⟨r, σ', ρ', hc, hq, hI'⟩ := hs.2 9 (xs (5 * k + 1)) (xs (5 * k + 2)) (xs (5 * k + 3)) (xs (5 * k + 4)) (by decide)
      exact lw_case9 C hK hZ hcs hX hbl hL hi G hl hc hq (fun H locs cells slots G => next _ _ _ _ _ _ hI' G)
    by_cases hk10 : (xs (5 * k) &&& (63:Int32)) = (10:Int32)
    · refine lv_tableIn (tgt := 474) C.1 C.2.1 dL_law_32 (by rw [hk10]; decide) (by rw [hk10]; decide) (by rw [hk10]; rfl) (by decide) ?_
      obtain ⟨r, σ', ρ', hc, hq, hI'⟩ := hs.2 10 (xs (5 * k + 1)) (xs (5 * k + 2)) (xs (5 * k + 3)) (xs (5 * k + 4)) (by decide)
      exact lw_case10 C hK hZ hcs hX hbl hL hi G hl hc hq (fun H locs cells slots G => next _ _ _ _ _ _ hI' G)
    by_cases hk11 : (xs (5 * k) &&& (63:Int32)) = (11:Int32)
    · refine lv_tableIn (tgt := 487) C.1 C.2.1 dL_law_32 (by rw [hk11]; decide) (by rw [hk11]; decide) (by rw [hk11]; rfl) (by decide) ?_
      obtain ⟨r, σ', ρ', hc, hq, hI'⟩ := hs.2 11 (xs (5 * k + 1)) (xs (5 * k + 2)) (xs (5 * k + 3)) (xs (5 * k + 4)) (by decide)
      exact lw_case11 C hK hZ hcs hX hbl hL hi G hl hc hq (fun H locs cells slots G => next _ _ _ _ _ _ hI' G)
    by_cases hk12 : (xs (5 * k) &&& (63:Int32)) = (12:Int32)
    · refine lv_tableIn (tgt := 500) C.1 C.2.1 dL_law_32 (by rw [hk12]; decide) (by rw [hk12]; decide) (by rw [hk12]; rfl) (by decide) ?_
      obtain ⟨r, σ', ρ', hc, hq, hI'⟩ := hs.2 12 (xs (5 * k + 1)) (xs (5 * k + 2)) (xs (5 * k + 3)) (xs (5 * k + 4)) (by decide)
      exact lw_case12 C hK hZ hcs hX hbl hL hi G hl hc hq (fun H locs cells slots G => next _ _ _ _ _ _ hI' G)
    by_cases hk13 : (xs (5 * k) &&& (63:Int32)) = (13:Int32)
    · refine lv_tableIn (tgt := 523) C.1 C.2.1 dL_law_32 (by rw [hk13]; decide) (by rw [hk13]; decide) (by rw [hk13]; rfl) (by decide) ?_
      obtain ⟨r, σ', ρ', hc, hq, hI'⟩ := hs.2 13 (xs (5 * k + 1)) (xs (5 * k + 2)) (xs (5 * k + 3)) (xs (5 * k + 4)) (by decide)
      exact lw_case13 C hK hZ hcs hX hbl hL hi G hl hc hq (fun H locs cells slots G => next _ _ _ _ _ _ hI' G)
    by_cases hk14 : (xs (5 * k) &&& (63:Int32)) = (14:Int32)
    · refine lv_tableIn (tgt := 546) C.1 C.2.1 dL_law_32 (by rw [hk14]; decide) (by rw [hk14]; decide) (by rw [hk14]; rfl) (by decide) ?_
      obtain ⟨r, σ', ρ', hc, hq, hI'⟩ := hs.2 14 (xs (5 * k + 1)) (xs (5 * k + 2)) (xs (5 * k + 3)) (xs (5 * k + 4)) (by decide)
      exact lw_case14 C hK hZ hcs hX hbl hL hi G hl hc hq (fun H locs cells slots G => next _ _ _ _ _ _ hI' G)
    by_cases hk15 : (xs (5 * k) &&& (63:Int32)) = (15:Int32)
    · refine lv_tableIn (tgt := 579) C.1 C.2.1 dL_law_32 (by rw [hk15]; decide) (by rw [hk15]; decide) (by rw [hk15]; rfl) (by decide) ?_
      obtain ⟨r, σ', ρ', hc, hq, hI'⟩ := hs.2 15 (xs (5 * k + 1)) (xs (5 * k + 2)) (xs (5 * k + 3)) (xs (5 * k + 4)) (by decide)
      exact lw_case15 C hK hZ hcs hX hbl hL hi G hl hc hq (fun H locs cells slots G => next _ _ _ _ _ _ hI' G)
    by_cases hk16 : (xs (5 * k) &&& (63:Int32)) = (16:Int32)
    · refine lv_tableIn (tgt := 612) C.1 C.2.1 dL_law_32 (by rw [hk16]; decide) (by rw [hk16]; decide) (by rw [hk16]; rfl) (by decide) ?_
      obtain ⟨r, σ', ρ', hc, hq, hI'⟩ := hs.2 16 (xs (5 * k + 1)) (xs (5 * k + 2)) (xs (5 * k + 3)) (xs (5 * k + 4)) (by decide)
      exact lw_case16 C hK hZ hcs hX hbl hL hi G hl hc hq (fun H locs cells slots G => next _ _ _ _ _ _ hI' G)
    by_cases hk17 : (xs (5 * k) &&& (63:Int32)) = (17:Int32)
    · refine lv_tableIn (tgt := 655) C.1 C.2.1 dL_law_32 (by rw [hk17]; decide) (by rw [hk17]; decide) (by rw [hk17]; rfl) (by decide) ?_
      obtain ⟨r, σ', ρ', hc, hq, hI'⟩ := hs.2 17 (xs (5 * k + 1)) (xs (5 * k + 2)) (xs (5 * k + 3)) (xs (5 * k + 4)) (by decide)
      exact lw_case17 C hK hZ hcs hX hbl hL hi G hl hc hq (fun H locs cells slots G => next _ _ _ _ _ _ hI' G)
    by_cases hk18 : (xs (5 * k) &&& (63:Int32)) = (18:Int32)
    · refine lv_tableIn (tgt := 688) C.1 C.2.1 dL_law_32 (by rw [hk18]; decide) (by rw [hk18]; decide) (by rw [hk18]; rfl) (by decide) ?_
      obtain ⟨r, σ', ρ', hc, hq, hI'⟩ := hs.2 18 (xs (5 * k + 1)) (xs (5 * k + 2)) (xs (5 * k + 3)) (xs (5 * k + 4)) (by decide)
      exact lw_case18 C hK hZ hcs hX hbl hL hi G hl hc hq (fun H locs cells slots G => next _ _ _ _ _ _ hI' G)
    by_cases hk19 : (xs (5 * k) &&& (63:Int32)) = (19:Int32)
    · refine lv_tableIn (tgt := 721) C.1 C.2.1 dL_law_32 (by rw [hk19]; decide) (by rw [hk19]; decide) (by rw [hk19]; rfl) (by decide) ?_
      obtain ⟨r, σ', ρ', hc, hq, hI'⟩ := hs.2 19 (xs (5 * k + 1)) (xs (5 * k + 2)) (xs (5 * k + 3)) (xs (5 * k + 4)) (by decide)
      exact lw_case19 C hK hZ hcs hX hbl hL hi G hl hc hq (fun H locs cells slots G => next _ _ _ _ _ _ hI' G)
    by_cases hk20 : (xs (5 * k) &&& (63:Int32)) = (20:Int32)
    · refine lv_tableIn (tgt := 754) C.1 C.2.1 dL_law_32 (by rw [hk20]; decide) (by rw [hk20]; decide) (by rw [hk20]; rfl) (by decide) ?_
      obtain ⟨r, σ', ρ', hc, hq, hI'⟩ := hs.2 20 (xs (5 * k + 1)) (xs (5 * k + 2)) (xs (5 * k + 3)) (xs (5 * k + 4)) (by decide)
      exact lw_case20 C hK hZ hcs hX hbl hL hi G hl hc hq (fun H locs cells slots G => next _ _ _ _ _ _ hI' G)
    by_cases hk21 : (xs (5 * k) &&& (63:Int32)) = (21:Int32)
    · refine lv_tableIn (tgt := 787) C.1 C.2.1 dL_law_32 (by rw [hk21]; decide) (by rw [hk21]; decide) (by rw [hk21]; rfl) (by decide) ?_
      obtain ⟨r, σ', ρ', hc, hq, hI'⟩ := hs.2 21 (xs (5 * k + 1)) (xs (5 * k + 2)) (xs (5 * k + 3)) (xs (5 * k + 4)) (by decide)
      exact lw_case21 C hK hZ hcs hX hbl hL hi G hl hc hq (fun H locs cells slots G => next _ _ _ _ _ _ hI' G)
    by_cases hk22 : (xs (5 * k) &&& (63:Int32)) = (22:Int32)
    · refine lv_tableIn (tgt := 820) C.1 C.2.1 dL_law_32 (by rw [hk22]; decide) (by rw [hk22]; decide) (by rw [hk22]; rfl) (by decide) ?_
      obtain ⟨r, σ', ρ', hc, hq, hI'⟩ := hs.2 22 (xs (5 * k + 1)) (xs (5 * k + 2)) (xs (5 * k + 3)) (xs (5 * k + 4)) (by decide)
      exact lw_case22 C hK hZ hcs hX hbl hL hi G hl hc hq (fun H locs cells slots G => next _ _ _ _ _ _ hI' G)
    by_cases hk23 : (xs (5 * k) &&& (63:Int32)) = (23:Int32)
    · refine lv_tableIn (tgt := 863) C.1 C.2.1 dL_law_32 (by rw [hk23]; decide) (by rw [hk23]; decide) (by rw [hk23]; rfl) (by decide) ?_
      obtain ⟨r, σ', ρ', hc, hq, hI'⟩ := hs.2 23 (xs (5 * k + 1)) (xs (5 * k + 2)) (xs (5 * k + 3)) (xs (5 * k + 4)) (by decide)
      exact lw_case23 C hK hZ hcs hX hbl hL hi G hl hc hq (fun H locs cells slots G => next _ _ _ _ _ _ hI' G)
    by_cases hk24 : (xs (5 * k) &&& (63:Int32)) = (24:Int32)
    · refine lv_tableIn (tgt := 916) C.1 C.2.1 dL_law_32 (by rw [hk24]; decide) (by rw [hk24]; decide) (by rw [hk24]; rfl) (by decide) ?_
      obtain ⟨r, σ', ρ', hc, hq, hI'⟩ := hs.2 24 (xs (5 * k + 1)) (xs (5 * k + 2)) (xs (5 * k + 3)) (xs (5 * k + 4)) (by decide)
      exact lw_case24 C hK hZ hcs hX hbl hL hi G hl hc hq (fun H locs cells slots G => next _ _ _ _ _ _ hI' G)
    by_cases hk25 : (xs (5 * k) &&& (63:Int32)) = (25:Int32)
    · refine lv_tableIn (tgt := 959) C.1 C.2.1 dL_law_32 (by rw [hk25]; decide) (by rw [hk25]; decide) (by rw [hk25]; rfl) (by decide) ?_
      obtain ⟨r, σ', ρ', hc, hq, hI'⟩ := hs.2 25 (xs (5 * k + 1)) (xs (5 * k + 2)) (xs (5 * k + 3)) (xs (5 * k + 4)) (by decide)
      exact lw_case25 C hK hZ hcs hX hbl hL hi G hl hc hq (fun H locs cells slots G => next _ _ _ _ _ _ hI' G)
    by_cases hk26 : (xs (5 * k) &&& (63:Int32)) = (26:Int32)
    · refine lv_tableIn (tgt := 982) C.1 C.2.1 dL_law_32 (by rw [hk26]; decide) (by rw [hk26]; decide) (by rw [hk26]; rfl) (by decide) ?_
      obtain ⟨r, σ', ρ', hc, hq, hI'⟩ := hs.2 26 (xs (5 * k + 1)) (xs (5 * k + 2)) (xs (5 * k + 3)) (xs (5 * k + 4)) (by decide)
      exact lw_case26 C hK hZ hcs hX hbl hL hi G hl hc hq (fun H locs cells slots G => next _ _ _ _ _ _ hI' G)
    by_cases hk27 : (xs (5 * k) &&& (63:Int32)) = (27:Int32)
    · refine lv_tableIn (tgt := 1005) C.1 C.2.1 dL_law_32 (by rw [hk27]; decide) (by rw [hk27]; decide) (by rw [hk27]; rfl) (by decide) ?_
      obtain ⟨r, σ', ρ', hc, hq, hI'⟩ := hs.2 27 (xs (5 * k + 1)) (xs (5 * k + 2)) (xs (5 * k + 3)) (xs (5 * k + 4)) (by decide)
      exact lw_case27 C hK hZ hcs hX hbl hL hi G hl hc hq (fun H locs cells slots G => next _ _ _ _ _ _ hI' G)
    by_cases hk28 : (xs (5 * k) &&& (63:Int32)) = (28:Int32)
    · refine lv_tableIn (tgt := 1028) C.1 C.2.1 dL_law_32 (by rw [hk28]; decide) (by rw [hk28]; decide) (by rw [hk28]; rfl) (by decide) ?_
      obtain ⟨r, σ', ρ', hc, hq, hI'⟩ := hs.2 28 (xs (5 * k + 1)) (xs (5 * k + 2)) (xs (5 * k + 3)) (xs (5 * k + 4)) (by decide)
      exact lw_case28 C hK hZ hcs hX hbl hL hi G hl hc hq (fun H locs cells slots G => next _ _ _ _ _ _ hI' G)
    by_cases hk29 : (xs (5 * k) &&& (63:Int32)) = (29:Int32)
    · refine lv_tableIn (tgt := 1061) C.1 C.2.1 dL_law_32 (by rw [hk29]; decide) (by rw [hk29]; decide) (by rw [hk29]; rfl) (by decide) ?_
      obtain ⟨r, σ', ρ', hc, hq, hI'⟩ := hs.2 29 (xs (5 * k + 1)) (xs (5 * k + 2)) (xs (5 * k + 3)) (xs (5 * k + 4)) (by decide)
      exact lw_case29 C hK hZ hcs hX hbl hL hi G hl hc hq (fun H locs cells slots G => next _ _ _ _ _ _ hI' G)
    by_cases hk30 : (xs (5 * k) &&& (63:Int32)) = (30:Int32)
    · refine lv_tableIn (tgt := 1094) C.1 C.2.1 dL_law_32 (by rw [hk30]; decide) (by rw [hk30]; decide) (by rw [hk30]; rfl) (by decide) ?_
      obtain ⟨r, σ', ρ', hc, hq, hI'⟩ := hs.2 30 (xs (5 * k + 1)) (xs (5 * k + 2)) (xs (5 * k + 3)) (xs (5 * k + 4)) (by decide)
      exact lw_case30 C hK hZ hcs hX hbl hL hi G hl hc hq (fun H locs cells slots G => next _ _ _ _ _ _ hI' G)
    by_cases hk31 : (xs (5 * k) &&& (63:Int32)) = (31:Int32)
    · refine lv_tableIn (tgt := 1147) C.1 C.2.1 dL_law_32 (by rw [hk31]; decide) (by rw [hk31]; decide) (by rw [hk31]; rfl) (by decide) ?_
      obtain ⟨r, σ', ρ', hc, hq, hI'⟩ := hs.2 31 (xs (5 * k + 1)) (xs (5 * k + 2)) (xs (5 * k + 3)) (xs (5 * k + 4)) (by decide)
      exact lw_case31 C hK hZ hcs hX hbl hL hi G hl hc hq (fun H locs cells slots G => next _ _ _ _ _ _ hI' G)
    by_cases hk32 : (xs (5 * k) &&& (63:Int32)) = (32:Int32)
    · refine lv_tableIn (tgt := 1180) C.1 C.2.1 dL_law_32 (by rw [hk32]; decide) (by rw [hk32]; decide) (by rw [hk32]; rfl) (by decide) ?_
      obtain ⟨r, σ', ρ', hc, hq, hI'⟩ := hs.2 32 (xs (5 * k + 1)) (xs (5 * k + 2)) (xs (5 * k + 3)) (xs (5 * k + 4)) (by decide)
      exact lw_case32 C hK hZ hcs hX hbl hL hi G hl hc hq (fun H locs cells slots G => next _ _ _ _ _ _ hI' G)
    by_cases hk33 : (xs (5 * k) &&& (63:Int32)) = (33:Int32)
    · refine lv_tableIn (tgt := 1203) C.1 C.2.1 dL_law_32 (by rw [hk33]; decide) (by rw [hk33]; decide) (by rw [hk33]; rfl) (by decide) ?_
      obtain ⟨r, σ', ρ', hc, hq, hI'⟩ := hs.2 33 (xs (5 * k + 1)) (xs (5 * k + 2)) (xs (5 * k + 3)) (xs (5 * k + 4)) (by decide)
      exact lw_case33 C hK hZ hcs hX hbl hL hi G hl hc hq (fun H locs cells slots G => next _ _ _ _ _ _ hI' G)
    refine lv_tableOut (tgt := 1226) C.1 C.2.1 dL_law_32 ?_ (by decide) ?_
    · rcases Int.lt_or_le (xs (5 * k) &&& (63:Int32)).toInt 0 with q | q
      · exact Or.inl q
      · rcases Int.lt_or_le 33 (xs (5 * k) &&& (63:Int32)).toInt with q2 | q2
        · exact Or.inr q2
        · exfalso
          have hd : (xs (5 * k) &&& (63:Int32)).toInt = (0 : Int) ∨ (xs (5 * k) &&& (63:Int32)).toInt = (1 : Int) ∨ (xs (5 * k) &&& (63:Int32)).toInt = (2 : Int) ∨ (xs (5 * k) &&& (63:Int32)).toInt = (3 : Int) ∨ (xs (5 * k) &&& (63:Int32)).toInt = (4 : Int) ∨ (xs (5 * k) &&& (63:Int32)).toInt = (5 : Int) ∨ (xs (5 * k) &&& (63:Int32)).toInt = (6 : Int) ∨ (xs (5 * k) &&& (63:Int32)).toInt = (7 : Int) ∨ (xs (5 * k) &&& (63:Int32)).toInt = (8 : Int) ∨ (xs (5 * k) &&& (63:Int32)).toInt = (9 : Int) ∨ (xs (5 * k) &&& (63:Int32)).toInt = (10 : Int) ∨ (xs (5 * k) &&& (63:Int32)).toInt = (11 : Int) ∨ (xs (5 * k) &&& (63:Int32)).toInt = (12 : Int) ∨ (xs (5 * k) &&& (63:Int32)).toInt = (13 : Int) ∨ (xs (5 * k) &&& (63:Int32)).toInt = (14 : Int) ∨ (xs (5 * k) &&& (63:Int32)).toInt = (15 : Int) ∨ (xs (5 * k) &&& (63:Int32)).toInt = (16 : Int) ∨ (xs (5 * k) &&& (63:Int32)).toInt = (17 : Int) ∨ (xs (5 * k) &&& (63:Int32)).toInt = (18 : Int) ∨ (xs (5 * k) &&& (63:Int32)).toInt = (19 : Int) ∨ (xs (5 * k) &&& (63:Int32)).toInt = (20 : Int) ∨ (xs (5 * k) &&& (63:Int32)).toInt = (21 : Int) ∨ (xs (5 * k) &&& (63:Int32)).toInt = (22 : Int) ∨ (xs (5 * k) &&& (63:Int32)).toInt = (23 : Int) ∨ (xs (5 * k) &&& (63:Int32)).toInt = (24 : Int) ∨ (xs (5 * k) &&& (63:Int32)).toInt = (25 : Int) ∨ (xs (5 * k) &&& (63:Int32)).toInt = (26 : Int) ∨ (xs (5 * k) &&& (63:Int32)).toInt = (27 : Int) ∨ (xs (5 * k) &&& (63:Int32)).toInt = (28 : Int) ∨ (xs (5 * k) &&& (63:Int32)).toInt = (29 : Int) ∨ (xs (5 * k) &&& (63:Int32)).toInt = (30 : Int) ∨ (xs (5 * k) &&& (63:Int32)).toInt = (31 : Int) ∨ (xs (5 * k) &&& (63:Int32)).toInt = (32 : Int) ∨ (xs (5 * k) &&& (63:Int32)).toInt = (33 : Int) := by omega
          rcases hd with e | e | e | e | e | e | e | e | e | e | e | e | e | e | e | e | e | e | e | e | e | e | e | e | e | e | e | e | e | e | e | e | e | e
          · exact hk0 (Int32.toInt_inj.mp (e.trans (by decide)))
          · exact hk1 (Int32.toInt_inj.mp (e.trans (by decide)))
          · exact hk2 (Int32.toInt_inj.mp (e.trans (by decide)))
          · exact hk3 (Int32.toInt_inj.mp (e.trans (by decide)))
          · exact hk4 (Int32.toInt_inj.mp (e.trans (by decide)))
          · exact hk5 (Int32.toInt_inj.mp (e.trans (by decide)))
          · exact hk6 (Int32.toInt_inj.mp (e.trans (by decide)))
          · exact hk7 (Int32.toInt_inj.mp (e.trans (by decide)))
          · exact hk8 (Int32.toInt_inj.mp (e.trans (by decide)))
          · exact hk9 (Int32.toInt_inj.mp (e.trans (by decide)))
          · exact hk10 (Int32.toInt_inj.mp (e.trans (by decide)))
          · exact hk11 (Int32.toInt_inj.mp (e.trans (by decide)))
          · exact hk12 (Int32.toInt_inj.mp (e.trans (by decide)))
          · exact hk13 (Int32.toInt_inj.mp (e.trans (by decide)))
          · exact hk14 (Int32.toInt_inj.mp (e.trans (by decide)))
          · exact hk15 (Int32.toInt_inj.mp (e.trans (by decide)))
          · exact hk16 (Int32.toInt_inj.mp (e.trans (by decide)))
          · exact hk17 (Int32.toInt_inj.mp (e.trans (by decide)))
          · exact hk18 (Int32.toInt_inj.mp (e.trans (by decide)))
          · exact hk19 (Int32.toInt_inj.mp (e.trans (by decide)))
          · exact hk20 (Int32.toInt_inj.mp (e.trans (by decide)))
          · exact hk21 (Int32.toInt_inj.mp (e.trans (by decide)))
          · exact hk22 (Int32.toInt_inj.mp (e.trans (by decide)))
          · exact hk23 (Int32.toInt_inj.mp (e.trans (by decide)))
          · exact hk24 (Int32.toInt_inj.mp (e.trans (by decide)))
          · exact hk25 (Int32.toInt_inj.mp (e.trans (by decide)))
          · exact hk26 (Int32.toInt_inj.mp (e.trans (by decide)))
          · exact hk27 (Int32.toInt_inj.mp (e.trans (by decide)))
          · exact hk28 (Int32.toInt_inj.mp (e.trans (by decide)))
          · exact hk29 (Int32.toInt_inj.mp (e.trans (by decide)))
          · exact hk30 (Int32.toInt_inj.mp (e.trans (by decide)))
          · exact hk31 (Int32.toInt_inj.mp (e.trans (by decide)))
          · exact hk32 (Int32.toInt_inj.mp (e.trans (by decide)))
          · exact hk33 (Int32.toInt_inj.mp (e.trans (by decide)))
    · exact next _ _ _ _ _ _ hs.1 G
end LAW3

