section Z2_L9
variable {K : Bd} {W W' : Wd} {b : Bool} {k s p : Nat} {σ σ' : cl_S} {ρ ρ' : rf_S}
/-- a new SECRET on both sides -/
theorem t_secret {ts : List Nat} {tm : Nat → Nat} {N : Nat} {n0 : Nat} (T : TermR n0 σ ρ ts tm N) (hN : N < 112000) (h1 : 1 ≤ σ.2.2.2.2.2.1) (h16 : 16 ≤ σ.2.2.2.2.2.2) (hlen : ts.length < 2147483647) :
    ∃ σ' ρ', fc_X10_newSecret 31 σ = some (some σ.2.2.2.2.1, σ') ∧ (∃ ρ1, fq_term (2:Int32) (ρ.1 0 13) (0:Int32) (0:Int32) ρ = some (nI N, ρ1) ∧ ρ' = rf_w ρ1 0 13 (ρ1.1 0 13 + 1)) ∧ TFr σ σ' ts (σ.2.2.2.2.1 :: ts) 0 0 ∧ QFr ρ ρ' ∧ TermR n0 σ' ρ' (σ.2.2.2.2.1 :: ts) (va_up tm N σ.2.2.2.2.1) (N + 1) := by
  obtain ⟨C, Q, L, K0, J1, J2, J3⟩ := T
  have e33 := C.tms.2.2.1
  obtain ⟨S, es, hS, hsec⟩ := C.sec
  obtain ⟨S', es', hS', hsec'⟩ := Q.sec
  have p33 : pt ts 33 := Or.inl rfl
  obtain ⟨mb, hmb, emb⟩ := hB_lt (nI 2) (nI S) (σ.1 33 2) (σ.1 33 2) (σ.1 33 2)
  obtain ⟨mq, hmq, emq⟩ := hQ_lt (nI 2) (nI S') 0 0
  obtain ⟨σ1, ec, A⟩ := c_add_eq C.toCSt0 (nI 2) (nI S) p33 p33 p33 h1 h16 hmb emb
  obtain ⟨ρ1, eq, A'⟩ := q_add Q.n.1 hN (show 2 < 10 by omega) (nI S') 0 0 hmq
  have F := A.fr C.toCSt0 p33 p33 p33 h1 h16
  have hnc : ∀ d ∈ ts, ¬ kyI σ d (nI 2) (nI S) (some 33) (some 33) (some 33) := by
    rintro d hd ⟨q1, q2, -⟩
    obtain ⟨i, hi, ei⟩ := hsec d hd q1
    have := (n_eq (by omega) (by omega)).mp (ei.symm.trans q2)
    omega
  have hnq : ∀ t, t < N → ¬ kyQ ρ t (nI 2) (nI S') 0 0 := by
    rintro t ht ⟨q1, q2, -⟩
    obtain ⟨i, hi, ei⟩ := hsec' t ht q1
    have := (n_eq (by omega) (by omega)).mp (ei.symm.trans q2)
    omega
  have sh : shp (inT ts) isN 2 (some 33) (some 33) (some 33) := by
    unfold shp
    rw [if_pos (by omega)]
    exact ⟨rfl, rfl, rfl⟩
  have C' := c_add_st C.toCSt0 (show 2 < 10 by omega) sh (fun q => by omega) hmb emb (fun _ => hnc) A
  have Q' := q_add_st Q.toRSt0 hN (show 2 < 10 by omega) (fun E _ _ => by unfold rsh; rw [if_neg (by omega), if_neg (by omega), if_pos rfl]; exact ⟨rfl, rfl⟩) hmq (Or.inl ⟨by omega, emq⟩) (fun _ => hnq) A'
  have ft : ∀ d ∈ ts, σ1.1 d 9 = σ.1 d 9 := fun d hd => by have := C.mem d hd; rw [A.I d (by omega) (by omega)]
  have L' : TL σ1 ρ1 (σ.2.2.2.2.1 :: ts) (va_up tm N σ.2.2.2.2.1) (N + 1) := by
    refine TL.ext L Q.toRSt0 F ft (show 2 < 10 by omega) (by omega) (Or.inr ⟨rfl, rfl, rfl⟩) (fun q => absurd rfl q) List.mem_cons_self ?_ (fun d hd => List.mem_cons.mp hd) ⟨A.A0, A.A1, A.A3, A.A4, A.A5⟩ A.A9 A'
    intro t ht q
    have := C.mem _ (L.inm t ht)
    omega
  -- the secrets are counted
  have s1 : σ1.1 31 3 = nI S := by rw [A.I31 3 (by decide) (by decide)]; exact es
  have s1' : ρ1.1 0 13 = nI S' := by rw [A'.f 13 (by decide)]; exact es'
  refine ⟨cl_w σ1 31 3 (nI (S + 1)), rf_w ρ1 0 13 (ρ1.1 0 13 + 1), ?_, ⟨ρ1, ?_, rfl⟩, ?_, ?_, ?_⟩
  · unfold fc_X10_newSecret bc_X10_newSecret_0
    have ec' : fc_X10_add 31 (2:Int32) (nI S) (some 33) (some 33) (some 33) σ = some (some σ.2.2.2.2.1, σ1) := ec
    rw [e33, vl_eq, vl_eq, vl_eq, es, ec', bd2_eq, s1, vl_eq, show nI S + (1:Int32) = nI (S + 1) from n_add S 1]
  · rcases q_peek Q.toRSt0 (nI 2) (nI S') 0 0 (fun q => by have := (n_eq (by omega) (by omega)).mp q; omega) with ⟨u, hu, hq, -⟩ | ⟨-, w, hw, ew⟩
    · exact absurd hq (hnq u hu)
    · rw [es']
      rw [← emq] at eq
      exact q_term_a (k := (2:Int32)) (b := (0:Int32)) (c := (0:Int32)) hw ew eq
  · refine F.trans (c' := 0) (d' := 0) ?_
    refine ⟨fun b h1 h2 => r_w (by omega), fun _ _ => rfl, fun _ _ _ => rfl, fun _ _ => rfl, Nat.le_refl _, fun _ h => h, Nat.le_refl _, fun b hb j hj => ?_, fun _ _ _ _ _ => rfl, fun b h1 h2 h3 => r_w (by omega), fun _ _ _ => rfl, Nat.le_refl _, Nat.le_refl _⟩
    have := pt_lo C' hb
    rw [r_w (by omega)]
  · have F1 := A'.fr
    refine ⟨fun d hd => by rw [q_w (by omega)]; exact F1.o d hd, F1.l, fun j a1 a2 a3 a4 a5 a6 => by rw [q_wk a3]; exact F1.f j a1 a2 a3 a4 a5 a6⟩
  · have I : ∀ d, pt (σ.2.2.2.2.1 :: ts) d → (cl_w σ1 31 3 (nI (S + 1))).1 d = σ1.1 d := fun d hd => by have := pt_lo C' hd; rw [r_w (by omega)]
    have CN : CSt (cl_w σ1 31 3 (nI (S + 1))) (σ.2.2.2.2.1 :: ts) := by
      have CS1 : CSt0 (cl_w σ1 31 3 (nI (S + 1))) (σ.2.2.2.2.1 :: ts) := by
        have p : ∀ a ∈ (σ.2.2.2.2.1 :: ts), pt (σ.2.2.2.2.1 :: ts) a := fun a ha => Or.inr ha
        refine ⟨?_, ?_, ?_, ?_, ?_, ?_, ?_, ?_, ?_, ?_, ?_⟩
        · exact C'.mem
        · exact C'.nd
        · exact C'.top
        · intro a ha; rw [I a (p a ha)]; exact C'.kd a ha
        · rw [I 33 (Or.inl rfl)]; exact C'.non
        · exact C'.tms
        · intro a ha d hd
          unfold kyE
          rw [I a (p a ha), I d (p d hd)]
          exact C'.uq a ha d hd
        · intro m hm
          obtain ⟨l, hl, ml⟩ := C'.bk m hm
          refine ⟨l, hl, fun a => ?_⟩
          rw [ml a]
          have bke : ∀ a ∈ (σ.2.2.2.2.1 :: ts), (bkt (cl_w σ1 31 3 (nI (S + 1))) a m ↔ bkt σ1 a m) := by
            intro a ha
            obtain ⟨k', -, -, hs', -⟩ := C'.kd a ha
            obtain ⟨u, v, w, e3, e4, e5, p3, p4, p5⟩ := shp_pt hs'
            unfold bkt
            rw [I a (p a ha)]
            show (∃ x y z, σ1.2.2.1 a 3 = some x ∧ σ1.2.2.1 a 4 = some y ∧ σ1.2.2.1 a 5 = some z ∧ _) ↔ _
            rw [e3, e4, e5]
            refine ⟨?_, ?_⟩
            · rintro ⟨u', v', w', q3, q4, q5, q⟩
              cases q3; cases q4; cases q5
              rw [I _ p3, I _ p4, I _ p5] at q
              exact ⟨u, v, w, rfl, rfl, rfl, q⟩
            · rintro ⟨u', v', w', q3, q4, q5, q⟩
              cases q3; cases q4; cases q5
              refine ⟨u, v, w, rfl, rfl, rfl, ?_⟩
              rw [I _ p3, I _ p4, I _ p5]; exact q
          exact ⟨fun q => ⟨q.1, (bke a q.1).mpr q.2⟩, fun q => ⟨q.1, (bke a q.1).mp q.2⟩⟩
        · exact C'.old
        · rw [r_wk (by decide)]; exact C'.cnt
        · exact C'.us
      refine ⟨CS1, ?_, ?_, ?_⟩
      · intro a ha q
        rw [I a (Or.inr ha)] at q
        rcases List.mem_cons.mp ha with rfl | ha'
        · rw [A.A0] at q; exact absurd q (by decide)
        · rw [F.fI a (Or.inr ha') 0 (by omega)] at q
          obtain ⟨n, f, w, hn, hr⟩ := C.wd a ha' q
          refine ⟨n, f, (wdL.cg (σ := σ1) (σ' := cl_w σ1 31 3 (nI (S + 1))) rfl (fun d hd _ => r_w (by omega))).mpr (w.fr F ha'), hn, by rw [I a (Or.inr ha), F.fI a (Or.inr ha') 1 (by omega)]; exact hr⟩
      · intro a ha c hc n f q1 q2 w1 w2
        rw [I a (Or.inr ha)] at q1
        rw [I c (Or.inr hc)] at q2
        have w1' := (wdL.cg (σ := σ1) (σ' := cl_w σ1 31 3 (nI (S + 1))) rfl (fun d hd _ => r_w (by omega))).mp w1
        have w2' := (wdL.cg (σ := σ1) (σ' := cl_w σ1 31 3 (nI (S + 1))) rfl (fun d hd _ => r_w (by omega))).mp w2
        rcases List.mem_cons.mp ha with rfl | ha'
        · rw [A.A0] at q1; exact absurd q1 (by decide)
        · rcases List.mem_cons.mp hc with rfl | hc'
          · rw [A.A0] at q2; exact absurd q2 (by decide)
          · rw [F.fI a (Or.inr ha') 0 (by omega)] at q1
            rw [F.fI c (Or.inr hc') 0 (by omega)] at q2
            exact C.uqr a ha' c hc' n f q1 q2 (w1'.fr' F ha' (C.wd' a ha' q1)) (w2'.fr' F hc' (C.wd' c hc' q2))
      · refine ⟨S + 1, r_ws, by rw [List.length_cons]; omega, fun a ha q => ?_⟩
        rw [I a (Or.inr ha)] at q ⊢
        rcases List.mem_cons.mp ha with rfl | ha'
        · exact ⟨S, by omega, A.A1⟩
        · rw [F.fI a (Or.inr ha') 0 (by omega)] at q
          rw [F.fI a (Or.inr ha') 1 (by omega)]
          obtain ⟨i, hi, ei⟩ := hsec a ha' q
          exact ⟨i, by omega, ei⟩
    have d : ∀ c, c ≠ 0 → (rf_w ρ1 0 13 (ρ1.1 0 13 + 1)).1 c = ρ1.1 c := fun c hc => q_w hc
    refine ⟨CN, ?_, ?_, ?_, Or.inl (by rw [r_wk (by decide)]; exact A.I8), (J2.add hN A').cg (fun c hc t _ => by rw [d c (by omega)]) (fun j hj => by rw [q_wk (by omega)]), (J3.add (by omega) (by omega) A').cg (fun t _ => by rw [d 1 (by decide)]) (fun t _ => by rw [d 2 (by decide)]) (fun t _ _ => by rw [d 6 (by decide)])⟩
    · have Q1 : RSt0 (rf_w ρ1 0 13 (ρ1.1 0 13 + 1)) (N + 1) := by
        obtain ⟨n1, e1, u1, c1⟩ := Q'
        refine ⟨n1, e1, ?_, ?_⟩
        · exact u1
        · exact c1
      refine ⟨Q1, S' + 1, ?_, by omega, ?_⟩
      · rw [q_ws, s1']; exact n_add S' 1
      · intro t ht q
        have q' : ρ1.1 1 t = nI 2 := q
        show ∃ i, i < S' + 1 ∧ ρ1.1 2 t = nI i
        by_cases c : t = N
        · subst c; exact ⟨S', by omega, A'.p2⟩
        · rw [A'.p 1 t (by omega) c] at q'
          rw [A'.p 2 t (by omega) c]
          obtain ⟨i, hi, ei⟩ := hsec' t (by omega) q'
          exact ⟨i, by omega, ei⟩
    · obtain ⟨m1, m2, m3, m4, m5, m6, m7, m8, m9, m10, m11⟩ := L'
      have It : ∀ t, t < N + 1 → (cl_w σ1 31 3 (nI (S + 1))).1 (va_up tm N σ.2.2.2.2.1 t) = σ1.1 (va_up tm N σ.2.2.2.2.1 t) := fun t ht => I _ (Or.inr (m1 t ht))
      refine ⟨m1, m2, fun t ht => by rw [It t ht]; exact m3 t ht, fun t ht q => by rw [It t ht]; exact m4 t ht q, m5, m6, m7, ?_, ?_, fun t ht => by rw [It t ht]; exact m10 t ht, fun a ha q => by rw [I a (Or.inr ha)]; exact m11 a ha q⟩
      · intro t o l ht q1 q2 q3 ho hl
        exact (wdL.cg (σ := σ1) (σ' := cl_w σ1 31 3 (nI (S + 1))) rfl (fun d hd _ => r_w (by omega))).mpr (m8 t o l ht q1 q2 q3 ho hl)
      · intro a ha q
        rw [I a (Or.inr ha)] at q
        exact m9 a ha q
    · obtain ⟨k1, k2, k3, k4, k5, k6, k7⟩ := K0
      refine ⟨by omega, by rw [up_n (by omega)]; exact k2, by rw [up_n (by omega)]; exact k3, by rw [up_n (by omega)]; exact k4, ?_, ?_, ?_⟩
      · rw [q_wk (by decide), A'.f 19 (by decide)]; exact k5
      · rw [q_wk (by decide), A'.f 20 (by decide)]; exact k6
      · rw [q_wk (by decide), A'.f 21 (by decide)]; exact k7
end Z2_L9
