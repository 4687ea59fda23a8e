section Z2_W2
theorem wdL.cg {σ σ' : cl_S} (h2 : σ'.2 = σ.2) (hw : ∀ b, 324 < b → (σ.2.2.2.1 b).1 = 1 → σ'.1 b = σ.1 b) {a n : Nat} {f : Nat → Int32} : wdL σ' a n f ↔ wdL σ a n f := by
  unfold wdL
  rw [h2]
  refine ⟨?_, ?_⟩
  · rintro ⟨w, a1, a2, a3, a4, a5⟩
    refine ⟨w, a1, a2, a3, a4, fun j hj => ?_⟩
    rw [← hw w a2 (by rw [a4])]; exact a5 j hj
  · rintro ⟨w, a1, a2, a3, a4, a5⟩
    refine ⟨w, a1, a2, a3, a4, fun j hj => ?_⟩
    rw [hw w a2 (by rw [a4])]; exact a5 j hj
/-- the class's terms are the same where what they are made of is the same -/
theorem CSt.cg {σ σ' : cl_S} {ts : List Nat} (C : CSt σ ts) (h2 : σ'.2 = σ.2) (hI : ∀ b, pt ts b → ∀ j, j < 3 → σ'.1 b j = σ.1 b j) (h31 : σ'.1 31 2 = σ.1 31 2) (h31' : σ'.1 31 3 = σ.1 31 3) (hw : ∀ b, 324 < b → (σ.2.2.2.1 b).1 = 1 → σ'.1 b = σ.1 b) : CSt σ' ts := by
  have p : ∀ a ∈ ts, pt ts a := fun a ha => Or.inr ha
  have bk : ∀ a ∈ ts, ∀ m, bkt σ' a m ↔ bkt σ a m := by
    intro a ha m
    obtain ⟨k, -, -, hs, -⟩ := C.kd a ha
    obtain ⟨u, v, w, e3, e4, e5, p3, p4, p5⟩ := shp_pt hs
    unfold bkt
    rw [h2, hI a (p a ha) 0 (by omega), hI a (p a ha) 1 (by omega), e3, e4, e5]
    refine ⟨?_, ?_⟩
    · rintro ⟨u', v', w', q3, q4, q5, q⟩
      cases q3; cases q4; cases q5
      rw [hI _ p3 2 (by omega), hI _ p4 2 (by omega), hI _ p5 2 (by omega)] at q
      exact ⟨u, v, w, rfl, rfl, rfl, q⟩
    · rintro ⟨u', v', w', q3, q4, q5, q⟩
      cases q3; cases q4; cases q5
      refine ⟨u, v, w, rfl, rfl, rfl, ?_⟩
      rw [hI _ p3 2 (by omega), hI _ p4 2 (by omega), hI _ p5 2 (by omega)]; exact q
  refine ⟨?_, ?_, ?_, ?_⟩
  · refine ⟨?_, ?_, ?_, ?_, ?_, ?_, ?_, ?_, ?_, ?_, ?_⟩
    · rw [h2]; exact C.mem
    · exact C.nd
    · rw [h2]; exact C.top
    · intro a ha
      rw [h2, hI a (p a ha) 0 (by omega), hI a (p a ha) 1 (by omega)]; exact C.kd a ha
    · rw [h2, hI 33 (Or.inl rfl) 0 (by omega)]; exact C.non
    · rw [h2]; exact C.tms
    · intro a ha b hb
      unfold kyE
      rw [h2, hI a (p a ha) 0 (by omega), hI a (p a ha) 1 (by omega), hI b (p b hb) 0 (by omega), hI b (p b hb) 1 (by omega)]
      exact C.uq a ha b hb
    · intro m hm
      obtain ⟨l, hl, ml⟩ := C.bk m hm
      refine ⟨l, by rw [h2]; exact hl, fun a => ?_⟩
      rw [ml a]
      exact ⟨fun q => ⟨q.1, (bk a q.1 m).mpr q.2⟩, fun q => ⟨q.1, (bk a q.1 m).mp q.2⟩⟩
    · rw [h2]; exact C.old
    · rw [h31]; exact C.cnt
    · have e : nxU σ' = nxU σ := by
        funext x u
        unfold nxU
        rw [h2]
      rw [e, h2]; exact C.us
  · intro a ha q
    rw [hI a (p a ha) 0 (by omega)] at q
    obtain ⟨n, f, h, hn, hr⟩ := C.wd a ha q
    exact ⟨n, f, (wdL.cg h2 hw).mpr h, hn, by rw [hI a (p a ha) 1 (by omega)]; exact hr⟩
  · intro a ha b hb n f q1 q2 w1 w2
    rw [hI a (p a ha) 0 (by omega)] at q1
    rw [hI b (p b hb) 0 (by omega)] at q2
    exact C.uqr a ha b hb n f q1 q2 ((wdL.cg h2 hw).mp w1) ((wdL.cg h2 hw).mp w2)
  · obtain ⟨S, e1, e2, e3⟩ := C.sec
    refine ⟨S, by rw [h31']; exact e1, e2, fun a ha q => ?_⟩
    rw [hI a (p a ha) 0 (by omega)] at q
    rw [hI a (p a ha) 1 (by omega)]
    exact e3 a ha q
theorem RSt.cg {ρ ρ' : rf_S} {N : Nat} (Q : RSt ρ N) (hd : ∀ d, d = 1 ∨ d = 2 ∨ d = 3 ∨ d = 4 ∨ d = 5 ∨ d = 11 ∨ d = 12 → ρ'.1 d = ρ.1 d) (h0 : ∀ j, j = 12 ∨ j = 13 ∨ j = 18 → ρ'.1 0 j = ρ.1 0 j) : RSt ρ' N := by
  have d1 := hd 1 (by omega)
  have d2 := hd 2 (by omega)
  have d3 := hd 3 (by omega)
  have d4 := hd 4 (by omega)
  have d5 := hd 5 (by omega)
  have d11 := hd 11 (by omega)
  have d12 := hd 12 (by omega)
  have rb : rbk ρ' = rbk ρ := by
    funext t i
    unfold rbk
    rw [d1, d2, d3, d4, d12]
  have kq : kyQ ρ' = kyQ ρ := by
    funext t k a b c
    unfold kyQ
    rw [d1, d2, d3, d4]
  refine ⟨?_, ?_⟩
  · refine ⟨?_, ?_, ?_, ?_⟩
    · rw [h0 12 (by omega)]; exact Q.n
    · rw [h0 18 (by omega), d1, d2, d3, d4]; exact Q.e
    · rw [kq, d1, d2, d3, d4]; exact Q.uq
    · rw [rb, d5, d11]; exact Q.ch
  · rw [h0 13 (by omega), d1, d2]; exact Q.sec
/-- a TERM is told to the outside -/
theorem t_tell {σ : cl_S} {ρ : rf_S} {ts : List Nat} {tm : Nat → Nat} {N : Nat} {n0 : Nat} (T : TermR n0 σ ρ ts tm N) {t : Nat} (ht : t < N) (hn0 : t < nbd n0) :
    ∃ σ' ρ', fc_X10_tell 31 (some (tm t)) σ = some σ' ∧ fq_wentOut (nI t) ρ = some ρ' ∧ TFr σ σ' ts ts 0 0 ∧ QFr ρ ρ' ∧ TermR n0 σ' ρ' ts tm N ∧ σ'.2 = σ.2 ∧ ((σ' = σ ∧ ρ' = ρ) ∨ (σ'.1 31 8 = 0 ∧ ρ'.1 0 14 = ρ.1 0 14 + 1)) ∧ (∀ j, j ≠ 14 → ρ'.1 0 j = ρ.1 0 j) ∧ (∀ d, d ≠ 0 → d ≠ 6 → ρ'.1 d = ρ.1 d) := by
  obtain ⟨C, Q, L, K, J1, J2, J3⟩ := T
  have hN := Q.n.2
  have hm := C.mem _ (L.inm t ht)
  obtain ⟨et, h01⟩ := L.told t ht
  unfold fc_X10_tell bc_X10_tell_0 fq_wentOut bq_wentOut_0
  rw [nn_eq, n_ix (show t < 112000 by omega) (by omega), n_cl (by omega), et]
  by_cases q : ρ.1 6 t = 0
  · rw [if_pos q, if_pos q, n_ix (show t < 112000 by omega) (by omega), nar_1]
    simp only [vl_eq]
    refine ⟨_, _, rfl, rfl, ?_⟩
    have i2 : (cl_w (cl_w σ (tm t) 9 1) 31 8 0).2 = σ.2 := rfl
    have iI : ∀ b j, b ≠ 31 → j ≠ 9 → (cl_w (cl_w σ (tm t) 9 1) 31 8 0).1 b j = σ.1 b j := by
      intro b j h1 h2
      simp only [g_w, h1, h2, false_and, and_false, if_false]
    have iR : ∀ b, b ≠ 31 → b ≠ tm t → (cl_w (cl_w σ (tm t) 9 1) 31 8 0).1 b = σ.1 b := by
      intro b h1 h2
      rw [r_w h1, r_w h2]
    have n31 : 31 ≠ tm t := by omega
    have pl : ∀ b, pt ts b → 32 < b := fun b hb => (pt_lo C.toCSt0 hb).2
    have nw : ∀ b, 324 < b → (σ.2.2.2.1 b).1 = 1 → (cl_w (cl_w σ (tm t) 9 1) 31 8 0).1 b = σ.1 b := by
      intro b h1 h2
      refine iR b (by omega) (fun q => ?_)
      rw [q, hm.2.2.2] at h2
      exact absurd h2 (by decide)
    have F : TFr σ (cl_w (cl_w σ (tm t) 9 1) 31 8 0) ts ts 0 0 := by
      refine ⟨fun b h1 h2 => iR b (by omega) (by omega), fun _ _ => rfl, fun _ _ _ => rfl, fun _ _ => rfl, Nat.le_refl _, fun _ h => h, Nat.le_refl _, fun b hb j hj => iI b j (by have := pl b hb; omega) (by omega), fun _ _ _ _ _ => rfl, fun b h1 h2 h3 => nw b h1 h3, fun _ _ _ => rfl, Nat.le_refl _, Nat.le_refl _⟩
    have C' := C.cg (σ' := cl_w (cl_w σ (tm t) 9 1) 31 8 0) rfl (fun b hb j hj => iI b j (by have := pl b hb; omega) (by omega)) (by simp only [g_w, n31, false_and, and_false, if_false, Nat.reduceEqDiff]) (by simp only [g_w, n31, false_and, and_false, if_false, Nat.reduceEqDiff]) nw
    have o1 : ∀ j, j ≠ 14 → (rf_w (rf_w ρ 6 t 1) 0 14 ((rf_w ρ 6 t 1).1 0 14 + 1)).1 0 j = ρ.1 0 j := by
      intro j hj
      simp only [g_q, hj, and_false, false_and, if_false, Nat.reduceEqDiff]
    have o2 : ∀ d, d ≠ 0 → d ≠ 6 → (rf_w (rf_w ρ 6 t 1) 0 14 ((rf_w ρ 6 t 1).1 0 14 + 1)).1 d = ρ.1 d := by
      intro d h1 h2
      rw [q_w h1, q_w h2]
    have o6 : ∀ u, (rf_w (rf_w ρ 6 t 1) 0 14 ((rf_w ρ 6 t 1).1 0 14 + 1)).1 6 u = if u = t then 1 else ρ.1 6 u := by
      intro u
      simp only [g_q, false_and, true_and, if_false, Nat.reduceEqDiff]
    have Q' := Q.cg (ρ' := rf_w (rf_w ρ 6 t 1) 0 14 ((rf_w ρ 6 t 1).1 0 14 + 1)) (fun d hd => o2 d (by omega) (by omega)) (fun j hj => o1 j (by omega))
    have F' : QFr ρ (rf_w (rf_w ρ 6 t 1) 0 14 ((rf_w ρ 6 t 1).1 0 14 + 1)) := ⟨fun d hd => o2 d (by omega) (by omega), rfl, fun j _ _ _ h _ _ => o1 j h⟩
    have tI : ∀ u, u < N → ∀ j, j < 3 → (cl_w (cl_w σ (tm t) 9 1) 31 8 0).1 (tm u) j = σ.1 (tm u) j := fun u hu j hj => iI _ j (by have := C.mem _ (L.inm u hu); omega) (by omega)
    have t9 : ∀ b, b ∈ ts → (cl_w (cl_w σ (tm t) 9 1) 31 8 0).1 b 9 = if b = tm t then 1 else σ.1 b 9 := by
      intro b hb
      have h1 : b ≠ 31 := by have := C.mem b hb; omega
      simp only [g_w, h1, false_and, and_true, if_false]
    refine ⟨F, F', ⟨C', Q', ?_, TermR.k0' ⟨C, Q, L, K, J1, J2, J3⟩ (ts' := ts) (σ' := σ) (Nat.le_refl _) (fun _ _ => rfl) F', Or.inl (by simp only [g_w, true_and, if_true]), J2.tell hN ht (fun u hu => by rw [o6 u, if_neg hu]) q (by rw [o6 t, if_pos rfl]; decide) (by rw [q_ws, q_w (by decide)]) (o1 15 (by decide)) (o1 16 (by decide)), J3.cg (fun u _ => by rw [o2 1 (by decide) (by decide)]) (fun u _ => by rw [o2 2 (by decide) (by decide)]) (fun u h1 _ => by rw [o6 u, if_neg (by omega)])⟩, rfl, Or.inr ⟨by simp only [g_w, true_and, if_true], by rw [q_ws, q_w (by decide)]⟩, o1, o2⟩
    have d1 := o2 1 (by decide) (by decide)
    have d2 := o2 2 (by decide) (by decide)
    have d3 := o2 3 (by decide) (by decide)
    have d4 := o2 4 (by decide) (by decide)
    have d12 := o2 12 (by decide) (by decide)
    refine ⟨?_, ?_, ?_, ?_, ?_, ?_, ?_, ?_, ?_, ?_, ?_⟩
    · exact L.inm
    · exact L.inj
    · intro u hu; rw [tI u hu 0 (by omega), d1]; exact L.kd u hu
    · intro u hu h; rw [d1] at h; rw [tI u hu 1 (by omega), d2]; exact L.nu u hu h
    · rw [d1, d2]; exact L.pa
    · rw [d1, d3]; exact L.pb
    · rw [d1, d4]; exact L.pc
    · intro u o l hu h1 h2 h3 ho hl
      rw [d1] at h1; rw [d2] at h2; rw [d3] at h3; rw [d12]
      exact (wdL.cg i2 nw).mpr (L.rw u o l hu h1 h2 h3 ho hl)
    · intro b hb h
      rw [iI b 0 (by have := C.mem b hb; omega) (by omega)] at h
      exact L.rall b hb h
    · intro u hu
      rw [t9 _ (L.inm u hu), o6 u]
      by_cases c : u = t
      · subst c; rw [if_pos rfl, if_pos rfl]; exact ⟨rfl, Or.inr rfl⟩
      · rw [if_neg c, if_neg (fun h => c (L.inj u t hu ht h))]; exact L.told u hu
    · intro b hb h
      rw [t9 b hb, if_neg (fun h' => h t ht h'.symm)]
      exact L.tex b hb h
  · rw [if_neg q, if_neg q]
    exact ⟨σ, ρ, rfl, rfl, TFr.refl _ _, QFr.refl _, ⟨C, Q, L, K, J1, J2, J3⟩, rfl, Or.inl ⟨rfl, rfl⟩, fun _ _ => rfl, fun _ _ _ => rfl⟩
end Z2_W2
