section START
theorem ni_11 : Cond.instantiable RX11 15 ∈ rf_tb := rf_at 22 (by decide +kernel) (by decide +kernel)
theorem nw_law_7 : Cond.classLink R_law 7 RX11 ∈ rf_tb := rf_at 21 (by decide +kernel) (by decide +kernel)
theorem nw_law_10 : Cond.classLink R_law 10 RX12 ∈ rf_tb := rf_at 1505 (by decide +kernel) (by decide +kernel)
theorem nz_11 : Cond.initialized RX11 ∈ rf_tb := rf_at 1 (by decide +kernel) (by decide +kernel)
theorem nd_11 {c0 zw : Nat} {σ : cl_S} : ∀ k, k < 15 → defaultValue (tyX11 k) = cl_V c0 zw true (cl_nw σ 127 0 15) σ.2.2.2.2.1 11 k := by
  intro k hk
  have h1 : ∀ j, (cl_nw σ 127 0 15).1 σ.2.2.2.2.1 j = 0 := fun j => (by simp [cl_nw, cl_row_eq])
  have h2 : ∀ j, (cl_nw σ 127 0 15).2.1 σ.2.2.2.2.1 j = 0 := fun j => (by simp [cl_nw, cl_row_eq])
  have h3 : ∀ j, (cl_nw σ 127 0 15).2.2.1 σ.2.2.2.2.1 j = none := fun j => (by simp [cl_nw, cl_row_eq])
  unfold cl_V
  rw [h1, h2, h3]
  rcases (show k = 0 ∨ k = 1 ∨ k = 2 ∨ k = 3 ∨ k = 4 ∨ k = 5 ∨ k = 6 ∨ k = 7 ∨ k = 8 ∨ k = 9 ∨ k = 10 ∨ k = 11 ∨ k = 12 ∨ k = 13 ∨ k = 14 by omega) with rfl | rfl | rfl | rfl | rfl | rfl | rfl | rfl | rfl | rfl | rfl | rfl | rfl | rfl | rfl <;> rfl
def dvX (n : Nat) : Value := match n with
  | 0 => .int 0
  | 1 => .long 0
  | _ => .null
theorem ri_V0 (h0 k : Nat) : ri_V h0 0 rf_0 k = dvX (rf_fk k) := by
  unfold ri_V
  generalize rf_fk k = n
  match n with
  | 0 => rfl
  | 1 => rfl
  | n + 2 => exact if_neg (Nat.not_lt_zero n)
theorem dv_12 : ∀ k, k < 122 → defaultValue (tyX12 k) = dvX (rf_fk k) := by decide +kernel
theorem nd_12 {h0 : Nat} : ∀ k, k < 122 → defaultValue (tyX12 k) = ri_V h0 0 rf_0 k := fun k hk => by rw [ri_V0]; exact dv_12 k hk
theorem lw_wI11 : cl_wI R_law yX11_init cX11_init 1 9 0 := ⟨⟨rf_at 23 (by decide +kernel) (by decide +kernel), rf_at 24 (by decide +kernel) (by decide +kernel), cc_X11_init, rf_at 1 (by decide +kernel) (by decide +kernel)⟩, rfl, by decide, by decide, by decide +kernel⟩
theorem sc_11 : ∀ e ∈ cl_layL.getD 11 [], s13.2.2.1 0 e.1 = some (cl_tgt 0 e) ∧ s13.2.2.2.1 (cl_tgt 0 e) = (e.2.2.2.1, cl_ll 0 e) := by decide +kernel
theorem rm_13 : 80 ≤ s13.2.2.2.2.2.1 ∧ 2124222 ≤ s13.2.2.2.2.2.2 := by decide +kernel
variable {p : Program} {l : Launch} {e : Env} {s : State} {m : MethodId} {below : List Frame} {meth : Method} {c : Code} {D : cl_D} {Dr : rf_D} {c0 h0 b L q9 qv9 : Nat} {xs : Nat → Int32}
theorem lw_G0 (hD : D.2.2.2.1 = s.heap) : cl_G true D s.heap.size room_1 s (fun _ => (0, 0)) (fun _ => (0, 0)) sE s.heap [] 0 0 := by
  refine ⟨rfl, ⟨rfl, fun _ _ => rfl, fun a => ?_, ⟨fun a k h => absurd (show 16 ≤ 0 from h) (by decide), fun a j h => absurd (show 4 ≤ 0 from h) (by decide)⟩, by rw [hD]; exact Nat.le_refl _, fun q _ => by rw [hD]⟩, fun _ a ci h => absurd (show 0 = 16 + ci from h) (by omega), va_S.rf, fun _ _ => rfl, rfl, rfl⟩
  unfold cl_at
  rw [if_pos (show (sE.2.2.2.1 a).1 = 0 from rfl)]
  trivial
/-- the reference stands behind the class -/
theorem lw_grow {T : Nat → Nat × Nat} {σ : cl_S} {ρ : rf_S} {H H5 : Heap} {locs L : List Loc} {cells slots : Nat} (hcs : s.heap.size = c0 ∧ D.2.2.2.1 = s.heap) (G : cl_G true D c0 room_1 s (fun _ => (0, 0)) T σ H locs cells slots) (hh : h0 = c0 + σ.2.2.2.2.1) (hz : H5.size = h0 + 80) (hk : ∀ q : Nat, q < h0 → H5[q]? = H[q]?) (hP : rf_P Dr h0 ρ H5) (hL : ∀ q ∈ L, rf_A h0 q.base) (h27 : (T 0).1 = 27) (hc : 80 ≤ σ.2.2.2.2.2.1) (hs : 2124222 ≤ σ.2.2.2.2.2.2) : lw_H D Dr c0 h0 s (σ.1, σ.2.1, σ.2.2.1, σ.2.2.2.1, σ.2.2.2.2.1 + 80, σ.2.2.2.2.2.1 - 80, σ.2.2.2.2.2.2 - 2124222) ρ H5 (locs ++ L) (cells + 1 + 79) (slots + 122 + 2124100) := by
  obtain ⟨g1, ⟨p1, p2, p3, p4, p5, p6⟩, g3, ⟨v1, v2, v3⟩, g5, g6, g7⟩ := G
  have hsz := hcs.1
  refine ⟨⟨rfl, ⟨?_, ?_, ?_, p4, p5, ?_⟩, g3, ⟨?_, ?_, ?_⟩, ?_, ?_, ?_⟩, hP, by omega, by omega, ?_, ?_⟩
  · show H5.size = c0 + (σ.2.2.2.2.1 + 80)
    omega
  · intro a (ha : σ.2.2.2.2.1 + 80 ≤ a)
    exact p2 a (by omega)
  · intro a
    have ha := p3 a
    show cl_at D c0 _ a (σ.2.2.2.1 a).1 (σ.2.2.2.1 a).2 H5
    unfold cl_at at ha ⊢
    by_cases t0 : (σ.2.2.2.1 a).1 = 0
    · rw [if_pos t0]; trivial
    · have hlt : a < σ.2.2.2.2.1 := Nat.lt_of_not_le (fun q => t0 (p2 a q))
      rw [if_neg t0] at ha ⊢
      by_cases t9 : (σ.2.2.2.1 a).1 < 16
      · rw [if_pos t9] at ha ⊢
        rw [hk _ (by omega)]; exact ha
      · rw [if_neg t9] at ha ⊢
        exact ha.kept (hk _ (by omega))
  · intro q hq
    exact (hk q (by omega)).trans (p6 q hq)
  · omega
  · intro q h1 h2
    exact (hk q (by omega)).trans (v2 q h1 h2)
  · intro q hq
    rcases List.mem_append.mp hq with h | h
    · exact v3 q h
    · exact Or.inl (by have := (hL q h).1; omega)
  · intro a ha; omega
  · show cells + 1 + 79 + (σ.2.2.2.2.2.1 - 80) = room_1.cells
    omega
  · show slots + 122 + 2124100 + (σ.2.2.2.2.2.2 - 2124222) = room_1.slots
    omega
  · intro a h1 h2
    exact p2 a (by omega)
  · show (σ.2.2.2.1 0).1 = 27
    rw [g1]; exact h27
set_option maxHeartbeats 4000000 in
/-- from the entry, for every script of at most 320 ints, the law comes to its end with true -/
theorem whole_start {p : Program} {e : Env} {s : State} {m : MethodId} {below : List Frame} {meth : Method} {c : Code} (l : Launch) {b L : Nat} {xs : Nat → Int32} (hL : L ≤ 320) (C0 : lw_At p s m meth c b L xs) : W p l e room_1 s m #[Value.ref b] below meth c s.heap [] 0 0 (lw_Z below #[Value.ref b] s) (entryFrame m ([Value.ref b] : List Value).toArray 4) := by
  obtain ⟨hx, hb, hr, hml, hown, hts, hX, hbl, hlk, hgv⟩ := id C0
  obtain ⟨D, hD, hKc⟩ := kn_K hts hgv
  obtain ⟨Dr, hKr, hAr⟩ := kn_Q hts
  obtain ⟨q9, qv9, hZ⟩ := kn_Z hts hgv
  obtain ⟨hci, ρ, hqi, hRC⟩ := both_made
  have htb : ∀ w ∈ rf_tb, w.before #[Value.ref b] s = true := fun w hw => hts w (List.mem_filter.mp hw).1
  have C : cl_C D p s m #[Value.ref b] meth c code 4 ret R_law := ⟨hx, hb, hml, hown, htb, hKc, hr, hlk⟩
  have hl := lv_entry ([.ref b]) (n := 4) (Nat.le_of_ble_eq_true rfl)
  rw [lg_entry_eq]
  generalize (lg_sl ([.ref b]) ++ List.replicate (4 - (lg_sl ([.ref b])).length) Slot.unset).toArray = ls at hl ⊢
  have hl : lv_has ls 4 [(0, .ref b)] := hl
  refine cl_new (ci := 11) C (lw_G0 hD) rfl rfl inX11 tyX11 tyX11_ok (by intro k hk; exact nd_11 k hk) nw_law_7 ni_11 nz_11 ⟨by decide +kernel, by decide +kernel⟩ dL_law_0 (fun T1 H1 cells1 slots1 z1 u1 hu1 G1 => ?_)
  have G1 : cl_G true D s.heap.size room_1 s (fun _ => (0, 0)) T1 s0 H1 [] cells1 slots1 := G1
  have u1 : (T1 0).1 = 127 := u1
  refine W.eq (g2 := F0 m 3 ls [.ref (s.heap.size + 0)]) rfl ?_
  refine lv_dup C.1 C.2.1 dL_law_3 rfl ?_
  refine cl_callI (rest := [.ref (s.heap.size + 0)]) (a := 0) C G1 lw_wI11 [] _ (kc_X11_init l D s.heap.size (a := 0) (by rw [G1.1]; exact u1) hci) (Nat.le_of_ble_eq_true rfl) (Nat.le_of_ble_eq_true rfl) rfl rfl hl.1 (Nat.le_of_ble_eq_true rfl) dL_law_4 (fun T2 H2 locs2 cells2 slots2 _ hu2 G2 => ?_)
  refine W.eq (g2 := F0 m 7 ls [.ref (s.heap.size + 0)]) rfl ?_
  have G3 := cl_Gseal (a := 0) (ci := 11) G2 (by decide) (hu2.kind u1 (by decide)) (Nat.le_add_right _ _) ⟨sc_11, fun q => absurd q (by decide)⟩
  have r13 := rm_13
  have gc : cells2 + s13.2.2.2.2.2.1 = 600000 := G2.2.2.2.2.2.1
  have gs : slots2 + s13.2.2.2.2.2.2 = 7302250 := G2.2.2.2.2.2.2
  have hz2 : H2.size = s.heap.size + 325 := by
    have := G2.2.1.1
    rw [n13] at this
    exact this
  refine lv_astore_n (lv' := [(1, .ref (s.heap.size + 0)), (0, .ref b)]) C.1 C.2.1 dL_law_7 rfl hl (by decide) rfl (fun ls hl => ?_)
  -- what is left behind the reference's constructor
  have tail : ∀ (H5 : Heap) (locs5 : List Loc), lw_H D Dr s.heap.size (s.heap.size + 325) s sI ρ H5 locs5 (cells2 + 1 + 79) (slots2 + 122 + 2124100) → W p l e room_1 s m #[Value.ref b] below meth c H5 locs5 (cells2 + 1 + 79) (slots2 + 122 + 2124100) (lw_Z below #[Value.ref b] s) (F0 m 15 ls [.ref (s.heap.size + 325)]) := by
    intro H5 locs5 G5
    refine lv_astore_n (lv' := [(2, .ref (s.heap.size + 325)), (1, .ref (s.heap.size + 0)), (0, .ref b)]) C.1 C.2.1 dL_law_15 rfl hl (by decide) rfl (fun ls hl => ?_)
    refine lv_iconst (v := nI (5 * 0)) C.1 C.2.1 dL_law_16 (by decide) ?_
    refine lv_istore_n (lv' := [(3, .int (nI (5 * 0))), (2, .ref (s.heap.size + 325)), (1, .ref (s.heap.size + 0)), (0, .ref b)]) C.1 C.2.1 dL_law_17 rfl hl (by decide) rfl (fun ls hl => ?_)
    exact lw_loop (I := RC) (fun k σ ρ hk h => all_calls k σ ρ hk h) hr C hKr (hZ _ (Nat.le_add_right _ _)) ⟨rfl, hD⟩ hX hbl hL 65 0 (by omega) (by omega) sI ρ hRC H5 locs5 _ _ ls G5 hl
  refine W.newcK (n := 122) C.1 C.2.1 C.2.2.2.1 (htb _ nw_law_10) (htb _ (rf_at 1506 (by decide +kernel) (by decide +kernel))) (htb _ (rf_at 17 (by decide +kernel) (by decide +kernel))) rfl dL_law_8 (by show cells2 + 1 ≤ 600000; omega) (by show slots2 + 122 ≤ 7302250; omega) hKr.1.2.1 hz2 (fun H4 kC hkC e4 z4 o4 => ?_)
  have hob : t_OB (s.heap.size + 325) Dr.1 122 Dr.2.1 H4 (ri_V (s.heap.size + 325) 0 rf_0) := (u_born tyX12 htb rf_in hKr.1 hkC e4 tyX12_ok).to nd_12
  refine W.eq (g2 := F0 m 11 ls [.ref (s.heap.size + 325)]) rfl ?_
  refine lv_dup C.1 C.2.1 dL_law_11 rfl ?_
  have hB : CallB room_1 s #[Value.ref b] R_law 12 yX12_init cX12_init 5 none (Cond.code yX12_init cX12_init 5 none :: rf_tb) (ri_R 4 85) 79 2124100 0 := callB_of 0 htb (rf_gw cc_init) rfl rfl rfl (htb _ (rf_at 17 (by decide +kernel) (by decide +kernel))) (htb _ (rf_at 1507 (by decide +kernel) (by decide +kernel))) ⟨by decide, by decide, by decide +kernel⟩ ⟨by decide, by decide⟩
  have hrun := va_runI (p := p) (l := l) (e := e) (R := room_1) (below := below) (meth := meth) (locs := locs2) (cells := cells2 + 1) (slots := slots2 + 122) (g := F0 m 12 ls [.ref (s.heap.size + 325), .ref (s.heap.size + 325)]) (H := H4) (b := s.heap.size + 325) (As := []) (rest := [.ref (s.heap.size + 325)]) ⟨hx, hb, hml, hown, htb⟩ (kq_init l Dr (s.heap, q9, qv9) (s.heap.size + 325) hqi) ⟨hB, rfl, htb _ (rf_at 1508 (by decide +kernel) (by decide +kernel))⟩
    ⟨fun a U g mk q => ⟨q.1, ⟨q.2.1.1, q.2.1.2.1, q.2.1.2.2.1, q.2.1.2.2.2.1, q.2.1.2.2.2.2.1, jk_B.moved (u := U) (U := U.calling g mk a) (Vm.Alike.refl U.vm) q.2.1.2.2.2.2.2.1, vk_R.same (u := U) rfl q.2.1.2.2.2.2.2.2⟩, rf_K.moved (u := U) (U := U.calling g mk a) (Vm.Alike.refl U.vm) q.2.2⟩,
      fun U hU hW => ⟨rfl, ⟨by rw [hU]; exact hob, by rw [hU]; exact z4, fun t ht => by rw [hW.alike.findClass]; exact hAr t ht, rf_Zs.moved (by
        rw [hU]
        refine ⟨by show s.heap.size ≤ H4.size; omega, fun q (hq : q < s.heap.size) => ?_⟩
        rw [o4 q (by omega)]
        exact G2.2.2.2.1.2.1 q hq (lw_nA hq rfl)) hW (hZ _ (Nat.le_add_right _ _))⟩, hKr.moved hW.alike⟩⟩
    rfl rfl hl.1 rfl (lv_room (Nat.le_of_ble_eq_true rfl)) dL_law_12 ⟨by show cells2 + 1 + 79 ≤ 600000; omega, by show slots2 + 122 + 2124100 ≤ 7302250; omega⟩
  intro T hT X
  obtain ⟨v, st₀, t, T', L5, g0, X', hL5, e1, e2, ⟨hv, hP, hz, hF⟩, st⟩ := hrun T hT X
  cases hv
  have hk5 : ∀ q : Nat, q < s.heap.size + 325 → T'.heap[q]? = H2[q]? := fun q hq => by
    rw [e1, hF.2 q (by rw [g0]; omega) (fun h => by have := h.1; omega), g0]
    exact o4 q hq
  have G5 := lw_grow (h0 := s.heap.size + 325) (H5 := T'.heap) (L := L5) (ρ := ρ) (Dr := Dr) ⟨rfl, hD⟩ G3 (by rw [sel_r, n13]) (by rw [e1]; exact hz) hk5 (by rw [e1]; exact hP) hL5 (by
    first
      | (unfold va_up; simp; done)
      | (simp [va_up]; done)
      | rfl) (by rw [sel_r]; exact r13.1) (by rw [sel_r]; exact r13.2)
  rw [sI_eq] at G5
  obtain ⟨t2, a1, b1⟩ := tail T'.heap (locs2 ++ L5) G5 T' rfl X'
  exact ⟨t2, st t2 a1, b1⟩
end START
