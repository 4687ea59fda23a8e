section Z2_V2
/-- rows and secrets stay when another term comes -/
theorem CSt.add {σ σ' : cl_S} {ts : List Nat} (C : CSt σ ts) {kk : Nat} {n : Int32} {x y z m a : Nat} (hk : kk < 10) (k1 : kk ≠ 1) (k2 : kk ≠ 2) (A : Add σ σ' a (nI kk) n x y z m) (F : TFr σ σ' ts (a :: ts) 0 0) (C' : CSt0 σ' (a :: ts)) : CSt σ' (a :: ts) := by
  have n1 : nI kk ≠ nI 1 := fun q => k1 ((n_eq (by omega) (by omega)).mp q)
  have n2 : nI kk ≠ nI 2 := fun q => k2 ((n_eq (by omega) (by omega)).mp q)
  refine ⟨C', ?_, ?_, ?_⟩
  · intro b hb q
    rcases List.mem_cons.mp hb with rfl | hb'
    · rw [A.A0] at q; exact absurd q n1
    · rw [F.fI b (Or.inr hb') 0 (by omega)] at q
      obtain ⟨n, f, h, hn, hr⟩ := C.wd b hb' q
      exact ⟨n, f, h.fr F hb', hn, by rw [F.fI b (Or.inr hb') 1 (by omega)]; exact hr⟩
  · intro b hb c hc n f q1 q2 h1 h2
    rcases List.mem_cons.mp hb with rfl | hb'
    · rw [A.A0] at q1; exact absurd q1 n1
    · rcases List.mem_cons.mp hc with rfl | hc'
      · rw [A.A0] at q2; exact absurd q2 n1
      · rw [F.fI b (Or.inr hb') 0 (by omega)] at q1
        rw [F.fI c (Or.inr hc') 0 (by omega)] at q2
        exact C.uqr b hb' c hc' n f q1 q2 (h1.fr' F hb' (C.wd' b hb' q1)) (h2.fr' F hc' (C.wd' c hc' q2))
  · obtain ⟨S, e1, e2, e3⟩ := C.sec
    refine ⟨S, by rw [A.I31 3 (by decide) (by decide)]; exact e1, by rw [List.length_cons]; omega, ?_⟩
    intro b hb q
    rcases List.mem_cons.mp hb with rfl | hb'
    · rw [A.A0] at q; exact absurd q n2
    · rw [F.fI b (Or.inr hb') 0 (by omega)] at q
      rw [F.fI b (Or.inr hb') 1 (by omega)]
      exact e3 b hb' q
theorem RSt.add {ρ ρ' : rf_S} {N : Nat} (Q : RSt ρ N) {k : Nat} {a b c : Int32} {m : Nat} (hk : k < 10) (k2 : k ≠ 2) (A : AddQ ρ ρ' N (nI k) a b c m) (Q' : RSt0 ρ' (N + 1)) : RSt ρ' (N + 1) := by
  have n2 : nI k ≠ nI 2 := fun q => k2 ((n_eq (by omega) (by omega)).mp q)
  refine ⟨Q', ?_⟩
  obtain ⟨S, e1, e2, e3⟩ := Q.sec
  refine ⟨S, by rw [A.f 13 (by decide)]; exact e1, by omega, ?_⟩
  intro t ht q
  by_cases c : t = N
  · subst c; rw [A.p1] at q; exact absurd q n2
  · rw [A.p 1 t (by omega) c] at q
    rw [A.p 2 t (by omega) c]
    exact e3 t (by omega) q
theorem TermR.k0' {σ σ' : cl_S} {ρ ρ' : rf_S} {ts ts' : List Nat} {tm tm' : Nat → Nat} {N N' : Nat} {n0 : Nat} (T : TermR n0 σ ρ ts tm N) (hN : N ≤ N') (ht : ∀ t, t < N → tm' t = tm t) (F : QFr ρ ρ') : 3 < N' ∧ tm' 0 = 34 ∧ tm' 2 = 36 ∧ tm' 3 = 37 ∧ ρ'.1 0 19 = nI 0 ∧ ρ'.1 0 20 = nI 2 ∧ ρ'.1 0 21 = nI 3 := by
  obtain ⟨h, a, b, c, d, e, f⟩ := T.k0
  refine ⟨by omega, by rw [ht 0 (by omega)]; exact a, by rw [ht 2 (by omega)]; exact b, by rw [ht 3 (by omega)]; exact c, ?_, ?_, ?_⟩
  · rw [F.f 19 (by decide) (by decide) (by decide) (by decide) (by decide) (by decide)]; exact d
  · rw [F.f 20 (by decide) (by decide) (by decide) (by decide) (by decide) (by decide)]; exact e
  · rw [F.f 21 (by decide) (by decide) (by decide) (by decide) (by decide) (by decide)]; exact f
/-- a term is found on both sides; or the class alone has it; or neither has -/
theorem t_mk {σ : cl_S} {ρ : rf_S} {ts : List Nat} {tm : Nat → Nat} {N k : Nat} {n : Int32} {x y z : Nat} {a b c : Int32} {n0 : Nat} (T : TermR n0 σ ρ ts tm N) (hk : k < 10) (k1 : k ≠ 1) (k2 : k ≠ 2) (h : argR tm N k n x y z a b c) :
    (∃ t, t < N ∧ fc_X10_find 31 (nI k) n (some x) (some y) (some z) σ = some (some (tm t), σ) ∧ fq_peek (nI k) a b c ρ = some (nI t, ρ)) ∨
    (∃ v, v < 0 ∧ fq_peek (nI k) a b c ρ = some (v, ρ) ∧
      ((∃ e ∈ ts, e ≠ 33 ∧ (∀ t, t < N → tm t ≠ e) ∧ fc_X10_find 31 (nI k) n (some x) (some y) (some z) σ = some (some e, σ) ∧
         (N < 112000 → ∃ ρ', fq_add (nI k) a b c (hQ (nI k) a b c) ρ = some (nI N, ρ') ∧ QFr ρ ρ' ∧ TermR n0 σ ρ' ts (va_up tm N e) (N + 1))) ∨
       (fc_X10_find 31 (nI k) n (some x) (some y) (some z) σ = some (some 33, σ) ∧
         (N < 112000 → 1 ≤ σ.2.2.2.2.2.1 → 16 ≤ σ.2.2.2.2.2.2 → ∃ σ' ρ', fc_X10_add 31 (nI k) n (some x) (some y) (some z) σ = some (some σ.2.2.2.2.1, σ') ∧ fq_add (nI k) a b c (hQ (nI k) a b c) ρ = some (nI N, ρ') ∧ QFr ρ ρ' ∧ TFr σ σ' ts (σ.2.2.2.2.1 :: ts) 0 0 ∧ TermR n0 σ' ρ' (σ.2.2.2.2.1 :: ts) (va_up tm N σ.2.2.2.2.1) (N + 1))))) := by
  obtain ⟨C, Q, L, K, J1, J2, J3⟩ := T
  obtain ⟨sh, hn0⟩ := argR.shp L h k1 k2
  obtain ⟨x', y', z', ex, ey, ez, hx, hy, hz⟩ := shp_pt sh
  cases ex; cases ey; cases ez
  obtain ⟨mq, hmq, emq⟩ := hQ_lt (nI k) a b c
  have uo : ∀ e t, t < N → va_up tm N e t = tm t := fun e t ht => up_n (by omega)
  rcases t_find C.toCSt0 Q.toRSt0 L hk k1 k2 h with ⟨t, ht, hq, e1, e2⟩ | ⟨v, hv, ev, hnq, ⟨e, he, hni, hky, e1⟩ | ⟨hnc, e1⟩⟩
  · exact Or.inl ⟨t, ht, e1, e2⟩
  · refine Or.inr ⟨v, hv, ev, Or.inl ⟨e, he, fun q => by have := C.mem e he; omega, hni, e1, fun hN => ?_⟩⟩
    obtain ⟨ρ', ea, A⟩ := q_add Q.n.1 hN hk a b c hmq
    rw [emq]
    refine ⟨ρ', ea, A.fr, ?_⟩
    have Q' := q_add_st Q.toRSt0 hN hk (fun E _ _ => argR.rsh h k1 k2 E) hmq (Or.inl ⟨k1, emq⟩) (fun _ => hnq) A
    have t0 : σ.1 e 9 = 0 := L.tex e he hni
    exact ⟨C, Q.add hk k2 A Q', TL.ext L Q.toRSt0 (TFr.refl σ ts) (fun _ _ => rfl) hk k1 (Or.inl k2) (fun _ => h) he hni (fun d hd => Or.inr hd) hky t0 A, TermR.k0' ⟨C, Q, L, K, J1, J2, J3⟩ (ts' := ts) (σ' := σ) (by omega) (uo e) A.fr, J1, J2.add hN A, J3.add hk k1 A⟩
  · refine Or.inr ⟨v, hv, ev, Or.inr ⟨e1, fun hN h1 h16 => ?_⟩⟩
    obtain ⟨mb, hmb, emb⟩ := hB_lt (nI k) n (σ.1 x 2) (σ.1 y 2) (σ.1 z 2)
    obtain ⟨σ', ec, A'⟩ := c_add_eq C.toCSt0 (nI k) n hx hy hz h1 h16 hmb emb
    obtain ⟨ρ', ea, A⟩ := q_add Q.n.1 hN hk a b c hmq
    rw [emq]
    have F := A'.fr C.toCSt0 hx hy hz h1 h16
    have C' := c_add_st C.toCSt0 hk sh hn0 hmb emb (fun _ => hnc) A'
    have Q' := q_add_st Q.toRSt0 hN hk (fun E _ _ => argR.rsh h k1 k2 E) hmq (Or.inl ⟨k1, emq⟩) (fun _ => hnq) A
    refine ⟨σ', ρ', ec, ea, A.fr, F, ?_⟩
    refine ⟨C.add hk k1 k2 A' F C', Q.add hk k2 A Q', ?_, TermR.k0' ⟨C, Q, L, K, J1, J2, J3⟩ (ts' := ts) (σ' := σ) (by omega) (uo _) A.fr, Or.inl A'.I8, J2.add hN A, J3.add hk k1 A⟩
    refine TL.ext L Q.toRSt0 F ?_ hk k1 (Or.inl k2) (fun _ => h) List.mem_cons_self ?_ ?_ ⟨A'.A0, A'.A1, A'.A3, A'.A4, A'.A5⟩ A'.A9 A
    · intro b hb
      have := C.mem b hb
      rw [A'.I b (by omega) (by omega)]
    · intro t ht q
      have := C.mem _ (L.inm t ht)
      omega
    · intro d hd
      exact List.mem_cons.mp hd
theorem q_term_f {k a b c : Int32} {ρ : rf_S} {t : Nat} (ht : t < 2147483648) (e : fq_peek k a b c ρ = some (nI t, ρ)) : fq_term k a b c ρ = some (nI t, ρ) := by
  unfold fq_term bq_term_0
  rw [e, bd2_eq, if_neg (n_nneg ht)]
theorem q_term_a {k a b c : Int32} {ρ ρ' : rf_S} {v r : Int32} (hv : v < 0) (e : fq_peek k a b c ρ = some (v, ρ)) (e' : fq_add k a b c (hQ k a b c) ρ = some (r, ρ')) : fq_term k a b c ρ = some (r, ρ') := by
  unfold fq_term bq_term_0
  rw [e, bd2_eq, if_pos hv, q_hash, bd2_eq, e', bd2_eq]
/-- the outcome of making a term on both sides -/
def MkR (n0 : Nat) (σ : cl_S) (ρ : rf_S) (ts : List Nat) (tm : Nat → Nat) (N : Nat) (fc : Option (Option Nat × cl_S)) (fq : Option (Int32 × rf_S)) : Prop := ∃ σ' ρ' ts' tm' N' t, fc = some (some (tm' t), σ') ∧ fq = some (nI t, ρ') ∧ t < N' ∧ N ≤ N' ∧ N' ≤ N + 1 ∧ ts'.length ≤ ts.length + 1 ∧ (∀ u, u < N → tm' u = tm u) ∧ TFr σ σ' ts ts' 0 0 ∧ QFr ρ ρ' ∧ TermR n0 σ' ρ' ts' tm' N'
theorem t_made {σ : cl_S} {ρ : rf_S} {ts : List Nat} {tm : Nat → Nat} {N k : Nat} {x y z : Nat} {a b c : Int32} {n0 : Nat} (T : TermR n0 σ ρ ts tm N) (hk : k < 10) (k3 : 2 < k) (h : argR tm N k 0 x y z a b c) (hN : N < 112000) (h1 : 1 ≤ σ.2.2.2.2.2.1) (h16 : 16 ≤ σ.2.2.2.2.2.2) : MkR n0 σ ρ ts tm N (fc_X10_made 31 (nI k) (some x) (some y) (some z) σ) (fq_term (nI k) a b c ρ) := by
  have e33 := T.C.tms.2.2.1
  have ne : ∀ {u : Nat}, u ∈ ts → ¬ (some u = some 33) := fun hu q => by have := T.C.mem _ hu; have := Option.some.inj q; omega
  unfold MkR fc_X10_made bc_X10_made_0
  rcases t_mk T hk (by omega) (by omega) h with ⟨t, ht, e1, e2⟩ | ⟨v, hv, ev, ⟨e, he, h33, hni, e1, add⟩ | ⟨e1, add⟩⟩
  · refine ⟨σ, ρ, ts, tm, N, t, ?_, q_term_f (by omega) e2, ht, by omega, by omega, by omega, fun _ _ => rfl, TFr.refl _ _, QFr.refl _, T⟩
    rw [e1, bd2_eq, e33, vl_eq, if_neg (ne (T.L.inm t ht))]
  · obtain ⟨ρ', ea, F, T'⟩ := add hN
    refine ⟨σ, ρ', ts, _, N + 1, N, ?_, q_term_a hv ev ea, by omega, by omega, by omega, by omega, fun u hu => up_n (by omega), TFr.refl _ _, F, T'⟩
    rw [e1, bd2_eq, e33, vl_eq, if_neg (ne he), up_s]
  · obtain ⟨σ', ρ', ec, ea, F, F', T'⟩ := add hN h1 h16
    refine ⟨σ', ρ', _, _, N + 1, N, ?_, q_term_a hv ev ea, by omega, by omega, by omega, by simp, fun u hu => up_n (by omega), F', F, T'⟩
    rw [e1, bd2_eq, e33, vl_eq, if_pos rfl, ec, bd2_eq, up_s]
theorem t_number {σ : cl_S} {ρ : rf_S} {ts : List Nat} {tm : Nat → Nat} {N : Nat} (w : Int32) {n0 : Nat} (T : TermR n0 σ ρ ts tm N) (hN : N < 112000) (h1 : 1 ≤ σ.2.2.2.2.2.1) (h16 : 16 ≤ σ.2.2.2.2.2.2) : MkR n0 σ ρ ts tm N (fc_X10_numberTerm 31 w σ) (fq_term (nI 0) w 0 0 ρ) := by
  have e33 := T.C.tms.2.2.1
  have ne : ∀ {u : Nat}, u ∈ ts → ¬ (some u = some 33) := fun hu q => by have := T.C.mem _ hu; have := Option.some.inj q; omega
  have h : argR tm N 0 w 33 33 33 w 0 0 := by unfold argR; rw [if_pos rfl]; exact ⟨rfl, rfl, rfl, rfl, rfl, rfl⟩
  unfold MkR fc_X10_numberTerm bc_X10_numberTerm_0
  simp only [e33, vl_eq]
  rcases t_mk T (by omega) (by omega) (by omega) h with ⟨t, ht, e1, e2⟩ | ⟨v, hv, ev, ⟨e, he, h33, hni, e1, add⟩ | ⟨e1, add⟩⟩
  · refine ⟨σ, ρ, ts, tm, N, t, ?_, q_term_f (by have := T.Q.n.2; omega) e2, ht, by omega, by omega, by omega, fun _ _ => rfl, TFr.refl _ _, QFr.refl _, T⟩
    rw [li, e1, bd2_eq, e33, if_neg (ne (T.L.inm t ht))]
  · obtain ⟨ρ', ea, F, T'⟩ := add hN
    refine ⟨σ, ρ', ts, _, N + 1, N, ?_, q_term_a hv ev ea, by omega, by omega, by omega, by omega, fun u hu => up_n (by omega), TFr.refl _ _, F, T'⟩
    rw [li, e1, bd2_eq, e33, if_neg (ne he), up_s]
  · obtain ⟨σ', ρ', ec, ea, F, F', T'⟩ := add hN h1 h16
    refine ⟨σ', ρ', _, _, N + 1, N, ?_, q_term_a hv ev ea, by omega, by omega, by omega, by simp, fun u hu => up_n (by omega), F', F, T'⟩
    rw [li, e1, bd2_eq, e33, if_pos rfl, ec, bd2_eq, up_s]
end Z2_V2
