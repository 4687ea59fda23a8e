section Z2_G3
variable {K : Bd} {W W' : Wd} {b : Bool} {k s p : Nat} {σ σ' : cl_S} {ρ ρ' : rf_S}
/-- Arrays.copyOf -/
def Cpy (σ σ' : cl_S) (a0 n : Nat) : Prop := (∀ b, b ≠ σ.2.2.2.2.1 → σ'.1 b = σ.1 b) ∧ (∀ j, j < n → σ'.1 σ.2.2.2.2.1 j = σ.1 a0 j) ∧ (∀ b, b ≠ σ.2.2.2.2.1 → σ'.2.1 b = σ.2.1 b) ∧ (∀ b, b ≠ σ.2.2.2.2.1 → σ'.2.2.1 b = σ.2.2.1 b) ∧ (σ'.2.2.2 = (va_up σ.2.2.2.1 σ.2.2.2.2.1 (1, n), σ.2.2.2.2.1 + 1, σ.2.2.2.2.2.1 - 1, σ.2.2.2.2.2.2 - n))
theorem Cpy.I {σ σ' : cl_S} {a0 n : Nat} (hS : Cpy σ σ' a0 n) : ∀ b, b ≠ σ.2.2.2.2.1 → σ'.1 b = σ.1 b := hS.1
theorem Cpy.A {σ σ' : cl_S} {a0 n : Nat} (hS : Cpy σ σ' a0 n) : ∀ j, j < n → σ'.1 σ.2.2.2.2.1 j = σ.1 a0 j := hS.2.1
theorem Cpy.L {σ σ' : cl_S} {a0 n : Nat} (hS : Cpy σ σ' a0 n) : ∀ b, b ≠ σ.2.2.2.2.1 → σ'.2.1 b = σ.2.1 b := hS.2.2.1
theorem Cpy.R {σ σ' : cl_S} {a0 n : Nat} (hS : Cpy σ σ' a0 n) : ∀ b, b ≠ σ.2.2.2.2.1 → σ'.2.2.1 b = σ.2.2.1 b := hS.2.2.2.1
theorem Cpy.T {σ σ' : cl_S} {a0 n : Nat} (hS : Cpy σ σ' a0 n) : σ'.2.2.2 = (va_up σ.2.2.2.1 σ.2.2.2.2.1 (1, n), σ.2.2.2.2.1 + 1, σ.2.2.2.2.2.1 - 1, σ.2.2.2.2.2.2 - n) := hS.2.2.2.2
theorem c_copy {a0 cap n : Nat} (hT : (σ.2.2.2.1 a0).2 = cap) (hc : n ≤ cap) (hcap : cap ≤ 2048) (h0 : a0 < σ.2.2.2.2.1) (h1 : 1 ≤ σ.2.2.2.2.2.1) (hn : n ≤ σ.2.2.2.2.2.2) : ∃ σ', fc_J7_copyOf_59c91 (some a0) (nI n) σ = some (some σ.2.2.2.2.1, σ') ∧ Cpy σ σ' a0 n := by
  unfold fc_J7_copyOf_59c91 bc_J7_copyOf_59c91_0
  rw [nnn, hT]
  by_cases c : n = cap
  · subst c
    rw [if_pos rfl, al_in h1 hn, vln, vln]
    refine ⟨_, rfl, fun b hb => ?_, fun j hj => ?_, fun b hb => r_nL hb, fun b hb => r_nR hb, rfl⟩
    · exact funext fun j => (if_neg hb).trans (if_neg hb)
    · exact (if_pos rfl).trans (if_pos hj)
  · rw [if_neg (fun q => c ((n_eq (by omega) (by omega)).mp q))]
    have ng : ∀ {α : Type} (x : Option α), nag (nI n) x = x := by
      intro α x
      unfold nag
      rw [if_neg]
      rintro (q | q)
      · exact n_nneg (by omega) q
      · rw [n_cl (by omega)] at q; omega
    have T0 : ((cl_nw σ 1 n n).2.2.2.1 a0).2 = cap := by
      rw [r_nT]
      show (va_up σ.2.2.2.1 σ.2.2.2.2.1 (1, n) a0).2 = cap
      rw [up_n (by omega)]; exact hT
    have cg : ∀ {α : Type} (y : Option α), cpg (0:Int32) (0:Int32) (nI n) cap n y = y := by
      intro α y
      unfold cpg
      rw [if_neg]
      intro q
      rw [n_cl (show n < 2147483648 by omega), show (0:Int32).toNatClampNeg = 0 from rfl] at q
      rcases q with q | q | q | q | q
      · exact absurd q (by decide)
      · exact absurd q (by decide)
      · exact n_nneg (by omega) q
      · omega
      · omega
    rw [ng, n_cl (show n < 2147483648 by omega), al_in h1 hn, vln, vln, T0, if_pos ((n_lt (by omega) (by omega)).mpr (by omega)), cg, vln]
    refine ⟨_, rfl, fun b hb => ?_, fun j hj => ?_, fun b hb => r_nL hb, fun b hb => r_nR hb, rfl⟩
    · rw [r_c hb, r_nI hb]
    · rw [r_cs, n_cl (show n < 2147483648 by omega), show (0:Int32).toNatClampNeg = 0 from rfl]
      unfold va_cpy
      rw [if_pos (by omega), r_nI (by omega), show 0 + (j - 0) = j by omega]
/-- the rows of terms but for their words -/
theorem CSt0.ag {ts : List Nat} (C : CSt0 σ ts) (hI : ∀ b, pt ts b ∨ b = 31 → σ'.1 b = σ.1 b) (hR : ∀ b, pt ts b → ∀ j, j ≠ 6 → σ'.2.2.1 b j = σ.2.2.1 b j) (h31 : σ'.2.2.1 31 = σ.2.2.1 31) (h32 : σ'.2.2.1 32 = σ.2.2.1 32) (hT : ∀ b, b < σ.2.2.2.2.1 → σ'.2.2.2.1 b = σ.2.2.2.1 b) (htop : σ.2.2.2.2.1 ≤ σ'.2.2.2.2.1) : CSt0 σ' ts := by
  have p : ∀ a ∈ ts, pt ts a := fun a ha => Or.inr ha
  have I : ∀ a, pt ts a → σ'.1 a = σ.1 a := fun a ha => hI a (Or.inl ha)
  have bk : ∀ a ∈ ts, ∀ m, bkt σ' a m ↔ bkt σ a m := by
    intro a ha m
    obtain ⟨k, -, -, hs, -⟩ := C.kd a ha
    obtain ⟨u, v, w, e3, e4, e5, p3, p4, p5⟩ := shp_pt hs
    unfold bkt
    rw [hR a (p a ha) 3 (by decide), hR a (p a ha) 4 (by decide), hR a (p a ha) 5 (by decide), I a (p a ha), e3, e4, e5]
    refine ⟨?_, ?_⟩
    · rintro ⟨u', v', w', q3, q4, q5, q⟩
      cases q3; cases q4; cases q5
      rw [I _ p3, I _ p4, I _ p5] at q
      exact ⟨u, v, w, rfl, rfl, rfl, q⟩
    · rintro ⟨u', v', w', q3, q4, q5, q⟩
      cases q3; cases q4; cases q5
      refine ⟨u, v, w, rfl, rfl, rfl, ?_⟩
      rw [I _ p3, I _ p4, I _ p5]; exact q
  have t31 : 32 < σ.2.2.2.2.1 := by have := C.top; omega
  refine ⟨?_, ?_, ?_, ?_, ?_, ?_, ?_, ?_, ?_, ?_, ?_⟩
  · intro a ha
    have := C.mem a ha
    exact ⟨this.1, by omega, this.2.2.1, by rw [hT a this.2.1]; exact this.2.2.2⟩
  · exact C.nd
  · have := C.top; omega
  · intro a ha
    rw [I a (p a ha), hR a (p a ha) 3 (by decide), hR a (p a ha) 4 (by decide), hR a (p a ha) 5 (by decide)]; exact C.kd a ha
  · rw [I 33 (Or.inl rfl), hR 33 (Or.inl rfl) 3 (by decide), hR 33 (Or.inl rfl) 4 (by decide), hR 33 (Or.inl rfl) 5 (by decide)]; exact C.non
  · rw [h31, hT 32 t31]; exact C.tms
  · intro a ha b hb
    unfold kyE
    rw [I a (p a ha), I b (p b hb), hR a (p a ha) 3 (by decide), hR a (p a ha) 4 (by decide), hR a (p a ha) 5 (by decide), hR b (p b hb) 3 (by decide), hR b (p b hb) 4 (by decide), hR b (p b hb) 5 (by decide)]
    exact C.uq a ha b hb
  · intro m hm
    obtain ⟨l, hl, ml⟩ := C.bk m hm
    refine ⟨l, ?_, fun a => ?_⟩
    · rw [h32]
      exact hl.congr (fun a ha => by rw [hR a (p a ((ml a).mp ha).1) 7 (by decide)])
    · rw [ml a]
      exact ⟨fun q => ⟨q.1, (bk a q.1 m).mpr q.2⟩, fun q => ⟨q.1, (bk a q.1 m).mp q.2⟩⟩
  · rw [h31]
    exact C.old.congr (fun a ha => by rw [hR a (p a ha) 8 (by decide)])
  · rw [hI 31 (Or.inr rfl)]; exact C.cnt
  · intro x hx
    obtain ⟨l, hl, ml⟩ := C.us x hx
    refine ⟨l, ?_, fun u => ?_⟩
    · rw [hR x (p x hx) 12 (by decide)]
      refine hl.congr (fun u hu => ?_)
      unfold nxU
      have pu := p u ((ml u).mp hu).1
      rw [hR u pu 3 (by decide), hR u pu 4 (by decide), hR u pu 13 (by decide), hR u pu 14 (by decide), hR u pu 15 (by decide)]
    · rw [ml u]
      refine ⟨?_, ?_⟩
      · rintro ⟨q1, q2⟩; exact ⟨q1, by rw [hR u (p u q1) 3 (by decide), hR u (p u q1) 4 (by decide), hR u (p u q1) 5 (by decide)]; exact q2⟩
      · rintro ⟨q1, q2⟩; exact ⟨q1, by rw [hR u (p u q1) 3 (by decide), hR u (p u q1) 4 (by decide), hR u (p u q1) 5 (by decide)] at q2; exact q2⟩
/-- a new row in the class -/
theorem c_row_add {a0 cap n : Nat} {ts : List Nat} (C : CSt σ ts) (hT : (σ.2.2.2.1 a0).2 = cap) (hc : n ≤ cap) (hcap : cap ≤ 2048) (h0 : a0 < 325) (ha0 : a0 ≠ 31) (h2 : 2 ≤ σ.2.2.2.2.2.1) (hn : 16 + n ≤ σ.2.2.2.2.2.2) (hno : ∀ a ∈ ts, σ.1 a 0 = nI 1 → ¬ wdL σ a n (σ.1 a0)) :
    ∃ σ', ec_X10_row_51 31 (some a0) (nI n) (rowH (σ.1 a0) n n) none σ = some (some σ.2.2.2.2.1, σ') ∧ CSt σ' (σ.2.2.2.2.1 :: ts) ∧ TFr σ σ' ts (σ.2.2.2.2.1 :: ts) 1 n ∧ (∀ d ∈ ts, σ'.1 d 9 = σ.1 d 9) ∧ σ'.1 σ.2.2.2.2.1 0 = nI 1 ∧ σ'.1 σ.2.2.2.2.1 9 = 0 ∧ σ'.1 31 8 = 0 ∧ wdL σ' σ.2.2.2.2.1 n (σ.1 a0) := by
  have e33 := C.tms.2.2.1
  have top := C.top
  have p33 : pt ts 33 := Or.inl rfl
  obtain ⟨m, hm, em⟩ := hB_lt (nI 1) (rowH (σ.1 a0) n n) (σ.1 33 2) (σ.1 33 2) (σ.1 33 2)
  obtain ⟨σ1, ec, A⟩ := c_add_eq C.toCSt0 (nI 1) (rowH (σ.1 a0) n n) p33 p33 p33 (by omega) (by omega) hm em
  have F1 := A.fr C.toCSt0 p33 p33 p33 (by omega) (by omega)
  have sh : shp (inT ts) isN 1 (some 33) (some 33) (some 33) := by
    unfold shp
    rw [if_pos (by omega)]
    exact ⟨rfl, rfl, rfl⟩
  have C1 := c_add_st C.toCSt0 (show 1 < 10 by omega) sh (fun q => by omega) hm em (fun q => absurd rfl q) A
  have An := A.n
  have Arc := A.rc
  have Ars := A.rs
  have hT1 : (σ1.2.2.2.1 a0).2 = cap := by rw [A.T, up_n (by omega)]; exact hT
  obtain ⟨σ2, ecp, Y⟩ := c_copy (σ := σ1) hT1 hc hcap (by omega) (by omega) (by omega)
  have YT : σ2.2.2.2.1 = va_up σ1.2.2.2.1 σ1.2.2.2.2.1 (1, n) := by rw [Y.T]
  have Yn : σ2.2.2.2.2.1 = σ1.2.2.2.2.1 + 1 := by rw [Y.T]
  have Yrc : σ2.2.2.2.2.2.1 = σ1.2.2.2.2.2.1 - 1 := by rw [Y.T]
  have Yrs : σ2.2.2.2.2.2.2 = σ1.2.2.2.2.2.2 - n := by rw [Y.T]
  have lo : ∀ d, pt (σ.2.2.2.2.1 :: ts) d → d < σ1.2.2.2.2.1 ∧ 32 < d := fun d hd => pt_lo C1 hd
  -- the last state
  have cI : ∀ d, d ≠ σ1.2.2.2.2.1 → (cl_wr σ2 σ.2.2.2.2.1 6 (some σ1.2.2.2.2.1)).1 d = σ1.1 d := fun d hd => by rw [r_rI]; exact Y.I d hd
  have cR : ∀ d j, d ≠ σ1.2.2.2.2.1 → ¬ (d = σ.2.2.2.2.1 ∧ j = 6) → (cl_wr σ2 σ.2.2.2.2.1 6 (some σ1.2.2.2.2.1)).2.2.1 d j = σ1.2.2.1 d j := fun d j hd hj => by rw [g_r, if_neg hj, Y.R d hd]
  have c6 : (cl_wr σ2 σ.2.2.2.2.1 6 (some σ1.2.2.2.2.1)).2.2.1 σ.2.2.2.2.1 6 = some σ1.2.2.2.2.1 := r_rs
  have cT : (cl_wr σ2 σ.2.2.2.2.1 6 (some σ1.2.2.2.2.1)).2.2.2 = σ2.2.2.2 := rfl
  have cL : ∀ d, d ≠ σ1.2.2.2.2.1 → (cl_wr σ2 σ.2.2.2.2.1 6 (some σ1.2.2.2.2.1)).2.1 d = σ1.2.1 d := fun d hd => by rw [r_rL]; exact Y.L d hd
  have eE : ec_X10_row_51 31 (some a0) (nI n) (rowH (σ.1 a0) n n) none σ = some (some σ.2.2.2.2.1, cl_wr σ2 σ.2.2.2.2.1 6 (some σ1.2.2.2.2.1)) := by
    unfold ec_X10_row_51
    have ec' : fc_X10_add 31 (1:Int32) (rowH (σ.1 a0) n n) (some 33) (some 33) (some 33) σ = some (some σ.2.2.2.2.1, σ1) := ec
    rw [e33, vln, vln, vln, ec', bd2n, ecp, bd2n, nnn, nnn, vln]
  have A0' : (cl_wr σ2 σ.2.2.2.2.1 6 (some σ1.2.2.2.2.1)).1 σ1.2.2.2.2.1 = σ2.1 σ1.2.2.2.2.1 := rfl
  generalize hτ : cl_wr σ2 σ.2.2.2.2.1 6 (some σ1.2.2.2.2.1) = τ at cI cR c6 cT cL eE A0'
  have tn : τ.2.2.2.2.1 = σ.2.2.2.2.1 + 2 := by rw [cT, Yn, An]
  have C2 : CSt0 τ (σ.2.2.2.2.1 :: ts) := by
    refine C1.ag (fun d hd => cI d ?_) (fun d hd j hj => cR d j (by have := lo d hd; omega) (fun q => hj q.2)) (funext fun j => cR 31 j (by omega) (by omega)) (funext fun j => cR 32 j (by omega) (by omega)) (fun d hd => by rw [cT, YT, up_n (by omega)]) (by rw [tn]; omega)
    rcases hd with hd | hd
    · have := lo d hd; omega
    · omega
  have wa : wdL τ σ.2.2.2.2.1 n (σ.1 a0) := by
    refine ⟨σ1.2.2.2.2.1, c6, by omega, by rw [tn]; omega, by rw [cT, YT, up_s], fun j hj => ?_⟩
    rw [A0', Y.A j hj, A.I a0 ha0 (by omega)]
  have I0 : ∀ d, d ∈ ts → ∀ j, j < 3 → τ.1 d j = σ.1 d j := fun d hd j hj => by
    have := C.mem d hd
    rw [cI d (by omega), F1.fI d (Or.inr hd) j hj]
  have wo : ∀ d ∈ ts, σ.1 d 0 = nI 1 → ∀ l g, wdL τ d l g ↔ wdL σ d l g := by
    intro d hd kd l g
    have hd' := C.mem d hd
    obtain ⟨w', c1, c2, c3, c4, -⟩ := (C.wd' d hd kd).choose_spec.choose_spec
    have e6 : τ.2.2.1 d 6 = some w' := by rw [cR d 6 (by omega) (by omega), A.R d 6 (by omega) (by omega) (by omega) (by decide)]; exact c1
    have Tw : τ.2.2.2.1 w' = σ.2.2.2.1 w' := by rw [cT, YT, up_n (by omega), A.T, up_n (by omega)]
    have Iw : τ.1 w' = σ.1 w' := by rw [cI w' (by omega), A.I w' (by omega) (by omega)]
    refine ⟨?_, ?_⟩
    · rintro ⟨w, b1, b2, b3, b4, b5⟩
      rw [e6] at b1
      cases b1
      exact ⟨w', c1, c2, c3, by rw [← Tw]; exact b4, by rw [← Iw]; exact b5⟩
    · rintro ⟨w, b1, b2, b3, b4, b5⟩
      rw [c1] at b1
      cases b1
      exact ⟨w', e6, c2, by rw [tn]; omega, by rw [Tw]; exact b4, by rw [Iw]; exact b5⟩
  have Aa0 : τ.1 σ.2.2.2.2.1 0 = nI 1 := by rw [cI _ (by omega)]; exact A.A0
  have Aa1 : τ.1 σ.2.2.2.2.1 1 = rowH (σ.1 a0) n n := by rw [cI _ (by omega)]; exact A.A1
  refine ⟨τ, eE, ⟨C2, ?_, ?_, ?_⟩, ?_, fun d hd => ?_, Aa0, by rw [cI _ (by omega)]; exact A.A9, by rw [cI 31 (by omega)]; exact A.I8, wa⟩
  · intro d hd q
    rcases List.mem_cons.mp hd with rfl | hd'
    · exact ⟨n, σ.1 a0, wa, by omega, Aa1⟩
    · rw [I0 d hd' 0 (by omega)] at q
      obtain ⟨l, g, w, hl, hr⟩ := C.wd d hd' q
      exact ⟨l, g, (wo d hd' q l g).mpr w, hl, by rw [I0 d hd' 1 (by omega)]; exact hr⟩
  · intro d hd e he l g q1 q2 w1 w2
    rcases List.mem_cons.mp hd with rfl | hd'
    · rcases List.mem_cons.mp he with rfl | he'
      · rfl
      · exfalso
        rw [I0 e he' 0 (by omega)] at q2
        have w2' := (wo e he' q2 l g).mp w2
        obtain ⟨el, eg⟩ := wa.un w1
        subst el
        exact hno e he' q2 (w2'.cgf (fun j hj => (eg j hj).symm))
    · rw [I0 d hd' 0 (by omega)] at q1
      have w1' := (wo d hd' q1 l g).mp w1
      rcases List.mem_cons.mp he with rfl | he'
      · exfalso
        obtain ⟨el, eg⟩ := wa.un w2
        subst el
        exact hno d hd' q1 (w1'.cgf (fun j hj => (eg j hj).symm))
      · rw [I0 e he' 0 (by omega)] at q2
        exact C.uqr d hd' e he' l g q1 q2 w1' ((wo e he' q2 l g).mp w2)
  · obtain ⟨S, s1, s2, s3⟩ := C.sec
    refine ⟨S, by rw [cI 31 (by omega), A.I31 3 (by decide) (by decide)]; exact s1, by rw [List.length_cons]; omega, fun d hd q => ?_⟩
    rcases List.mem_cons.mp hd with rfl | hd'
    · rw [Aa0] at q; exact absurd q (by decide)
    · rw [I0 d hd' 0 (by omega)] at q
      rw [I0 d hd' 1 (by omega)]
      exact s3 d hd' q
  · refine ⟨fun d h1 h2 => by rw [cI d (by omega)]; exact F1.I d h1 h2, fun d h1 => by rw [cL d (by omega)]; exact F1.L d h1, fun d h1 h2 => ?_, fun d hd => by rw [cT, YT, up_n (by omega)]; exact F1.T d hd, by rw [tn]; omega, fun a ha => List.mem_cons_of_mem _ ha, by rw [List.length_cons]; omega, fun d hd j hj => ?_, fun d hd j h1 h2 => ?_, fun d h1 h2 h3 => by rw [cI d (by omega)]; exact F1.w d h1 h2 h3, fun j h1 h2 => by rw [cR 31 j (by omega) (by omega)]; exact F1.R31 j h1 h2, by rw [cT, Yrc, Arc, List.length_cons]; omega, by rw [cT, Yrs, Ars, List.length_cons]; omega⟩
    · exact funext fun j => by rw [cR d j (by omega) (by omega)]; exact congrFun (F1.R d h1 h2) j
    · have : d < σ.2.2.2.2.1 := by
        rcases hd with rfl | hd
        · omega
        · exact (C.mem d hd).2.1
      rw [cI d (by omega)]; exact F1.fI d hd j hj
    · have : d < σ.2.2.2.2.1 := by
        rcases hd with rfl | hd
        · omega
        · exact (C.mem d hd).2.1
      rw [cR d j (by omega) (by omega)]; exact F1.fR d hd j h1 h2
  · have := C.mem d hd
    rw [cI d (by omega), A.I d (by omega) (by omega)]
end Z2_G3
