section Z2_M6
variable {K : Bd} {W W' : Wd} {b : Bool} {k s p : Nat} {σ σ' : cl_S} {ρ ρ' : rf_S}
theorem CO.wr {x : Option (Int32 × cl_S)} {y : Option (Int32 × rf_S)} (h : CO k x y) : CO k (bd2 x (fun r σ => some (r, σ))) (bd2 y (fun r ρ => some (r, ρ))) := by
  obtain ⟨r, a, b, rfl, rfl, q⟩ := h
  exact ⟨r, a, b, rfl, rfl, q⟩
theorem CO.wl {x : Option (Int32 × cl_S)} {y : Option (Int32 × rf_S)} (h : CO k x y) : CO k (bd2 x (fun r σ => some (r, σ))) y := by
  obtain ⟨r, a, b, rfl, rfl, q⟩ := h
  exact ⟨r, a, b, rfl, rfl, q⟩
/-- a new SECRET of the OUTSIDE -/
theorem CO.secret (h : RC k σ ρ) (hk : k < 64) : CO k (bd2 (fc_X8_isFull 38 σ) (fun r_25 σ_24 => (if r_25 = 0 then bd2 (fc_X10_newSecret 31 σ_24) (fun r_33 σ_32 => bd2 (fc_X8_comeIn 38 r_33 σ_32) (fun r_39 σ_38 => some (r_39, σ_38))) else some ((-4:Int32), σ_24)))) (if (ρ.1 0 110) = (600:Int32) then some ((-4:Int32), ρ) else vl (rf_w ρ 0 13 ((ρ.1 0 13) + (1:Int32))) (fun ρ_17 => bd2 (fq_term (2:Int32) ((ρ_17.1 0 13) - (1:Int32)) (0:Int32) (0:Int32) ρ_17) (fun r_19 ρ_18 => bd2 (fq_shows r_19 ρ_18) (fun r_21 ρ_20 => some (r_21, ρ_20))))) := by
  obtain ⟨W, R⟩ := id h
  have R1 := R.next
  have T := R1.T
  have hN0 := T.Q.n.2
  have v := KB_v (k := k) (n := onF ρ) (by omega) (onF_le ρ)
  have bn := R1.bd.n
  have bl := R1.bd.l
  have bc := R1.bd.c
  have bs := R1.bd.s
  unfold KV at v
  obtain ⟨hh, B⟩ := R1.oB.ou
  have hl := B.hl
  have e110 : ρ.1 0 110 = nI hh := B.cq
  have full : fc_X8_isFull 38 σ = some (if hh = 600 then 1 else 0, σ) := by
    unfold fc_X8_isFull bc_X8_isFull_0
    rw [B.cc, B.lm]
    by_cases cf : hh = 600
    · rw [if_neg (fun q => by have := (n_lt (by omega) (by omega)).mp q; omega), if_pos cf]
    · rw [if_pos ((n_lt (by omega) (by omega)).mpr (by omega)), if_neg cf]
  rw [full, bd2n, e110]
  by_cases cf : hh = 600
  · subst cf
    rw [if_pos rfl, if_neg (by decide), if_pos (show nI 600 = (600:Int32) from rfl)]
    exact CO.same h hk _
  rw [if_neg cf, if_pos rfl, if_neg (show ¬ nI hh = (600:Int32) from fun q => cf ((n_eq (a := hh) (b := 600) (by omega) (by omega)).mp q)), vln]
  obtain ⟨σ', ρ', e1, ⟨ρ1, e2, e3⟩, F, Q, T'⟩ := t_secret T (by omega) (by omega) (by omega) (by omega)
  obtain ⟨S, es, hS, hsec⟩ := T.Q.sec
  -- the same term where the secrets were counted before
  have key : fq_term (2:Int32) (nI S) (0:Int32) (0:Int32) (rf_w ρ 0 13 (nI (S + 1))) = some (nI W.N, ρ') := by
    obtain ⟨mq, hmq, emq⟩ := hQ_lt (nI 2) (nI S) 0 0
    have hnq : ∀ t, t < W.N → ¬ kyQ ρ t (nI 2) (nI S) 0 0 := by
      rintro t ht ⟨q1, q2, -⟩
      obtain ⟨i, hi, ei⟩ := hsec t ht q1
      have := (n_eq (by omega) (by omega)).mp (ei.symm.trans q2)
      omega
    have pk : ∀ τ : rf_S, RSt0 τ W.N → (∀ t, t < W.N → ¬ kyQ τ t (nI 2) (nI S) 0 0) → ∃ τ', fq_term (2:Int32) (nI S) (0:Int32) (0:Int32) τ = some (nI W.N, τ') ∧ AddQ τ τ' W.N (nI 2) (nI S) 0 0 mq := by
      intro τ Q0 hn
      obtain ⟨τ', eq, A⟩ := q_add Q0.n.1 (show W.N < 112000 by omega) (show 2 < 10 by omega) (nI S) 0 0 hmq
      rcases q_peek Q0 (nI 2) (nI S) 0 0 (fun q => by have := (n_eq (by omega) (by omega)).mp q; omega) with ⟨u, hu, hq, -⟩ | ⟨-, w, hw, ew⟩
      · exact absurd hq (hn u hu)
      · rw [← emq] at eq
        exact ⟨τ', q_term_a (k := (2:Int32)) (b := (0:Int32)) (c := (0:Int32)) hw ew eq, A⟩
    obtain ⟨τ1, a1, A1⟩ := pk ρ T.Q.toRSt0 hnq
    obtain ⟨n1, n2, n3, n4⟩ := T.Q.toRSt0
    obtain ⟨τ2, a2, A2⟩ := pk (rf_w ρ 0 13 (nI (S + 1))) ⟨n1, n2, n3, n4⟩ hnq
    rw [es, a1] at e2
    have q1 := Option.some.inj e2
    rw [Prod.mk.injEq] at q1
    have q2 := q1.2
    subst q2
    rw [a2, e3, A1.f 13 (by decide), es, show nI S + (1:Int32) = nI (S + 1) from n_add S 1]
    congr 2
    refine Prod.ext (funext fun c => funext fun j => ?_) (by rw [A2.l]; show ρ.2 = τ1.2; rw [A1.l])
    by_cases c0 : c = 0
    · subst c0
      by_cases j12 : j = 12
      · subst j12; rw [A2.n, q_wk (by decide), A1.n]
      · rw [A2.f j j12]
        by_cases j13 : j = 13
        · subst j13; rw [q_ws, q_ws]
        · rw [q_wk j13, q_wk j13, A1.f j j12]
    · rw [q_w c0]
      by_cases c6 : c = 1 ∨ c = 2 ∨ c = 3 ∨ c = 4 ∨ c = 5 ∨ c = 6
      · by_cases jN : j = W.N
        · subst jN
          rcases c6 with rfl | rfl | rfl | rfl | rfl | rfl
          · rw [A2.p1, A1.p1]
          · rw [A2.p2, A1.p2]
          · rw [A2.p3, A1.p3]
          · rw [A2.p4, A1.p4]
          · rw [A2.p5, A1.p5, q_w (by decide)]
          · rw [A2.p6, A1.p6]
        · rw [A2.p c j c6 jN, A1.p c j c6 jN, q_w c0]
      · by_cases c11 : c = 11
        · subst c11
          by_cases jm : j = mq
          · subst jm; rw [A2.hm, A1.hm]
          · rw [A2.h j jm, A1.h j jm, q_w (by decide)]
        · rw [A2.o c (by omega) (by omega) (by omega) (by omega) (by omega) (by omega) (by omega) c11, A1.o c (by omega) (by omega) (by omega) (by omega) (by omega) (by omega) (by omega) c11, q_w c0]
  rw [es, show nI S + (1:Int32) = nI (S + 1) from n_add S 1, q_ws, show nI (S + 1) - (1:Int32) = nI S from n_sub (a := S + 1) (b := 1) (by omega), key, bd2n, e1, bd2n]
  have u1 : ((KB k (onF ρ)).up 1).kn = (KB k (onF ρ)).kn + 1 := rfl
  have u2 : ((KB k (onF ρ)).up 1).kl = (KB k (onF ρ)).kl + 1 := rfl
  have u3 : ((KB k (onF ρ)).up 1).kc = (KB k (onF ρ)).kc := rfl
  have u4 : ((KB k (onF ρ)).up 1).ks = (KB k (onF ρ)).ks := rfl
  have tmN : (W.add (σ.2.2.2.2.1 :: W.ts) σ.2.2.2.2.1).tm W.N = σ.2.2.2.2.1 := up_s
  have wN : (W.add (σ.2.2.2.2.1 :: W.ts) σ.2.2.2.2.1).N = W.N + 1 := rfl
  have wt : (W.add (σ.2.2.2.2.1 :: W.ts) σ.2.2.2.2.1).ts = σ.2.2.2.2.1 :: W.ts := rfl
  have R' : Rel ((KB k (onF ρ)).up 1) (W.add (σ.2.2.2.2.1 :: W.ts) σ.2.2.2.2.1) false (k + 1) σ' ρ' := R1.tms F Q (Wd.le_add (fun _ q => List.mem_cons_of_mem _ q)) T' (by omega) (by rw [wt, List.length_cons]; omega) (Nat.le_refl _) (Nat.le_refl _)
  obtain ⟨r, σ2, ρ2, g1, g2, R2⟩ := R'.shows (t := W.N) (by rw [wN]; omega)
  rw [tmN] at g1
  rw [g1, g2, bd2n, bd2n]
  exact ⟨r, σ2, ρ2, rfl, rfl, RC.of R2 hk (onF_le ρ) (by omega) (by omega) (by omega) (by omega)⟩
/-- a TERM of parts -/
theorem CO.makeOf (h : RC k σ ρ) (hk : k < 64) {kk : Nat} (hkk : 3 ≤ kk ∧ kk < 10) (x y z : Int32) : CO k (fc_X11_makeOf 0 (nI kk) x (if kk = 4 ∨ kk = 6 then x else y) (if kk = 4 ∨ kk = 6 then x else if kk = 8 then z else y) σ) (bq_make_89 (nI kk) x y z (if kk = 4 ∨ kk = 6 then 1 else 0) ρ) := by
  obtain ⟨W, R⟩ := id h
  have T := R.T
  have e33 := T.C.tms.2.2.1
  have z1 : ¬ (1:Int32) = 0 := by decide
  have k8 : nI kk = (8:Int32) ↔ kk = 8 := n_eq (a := kk) (b := 8) (by omega) (by omega)
  have pc : fc_X10_parts (nI kk) σ = some (nI (if kk = 4 ∨ kk = 6 then 1 else if kk = 8 then 3 else 2), σ) := by
    have : kk = 3 ∨ kk = 4 ∨ kk = 5 ∨ kk = 6 ∨ kk = 7 ∨ kk = 8 ∨ kk = 9 := by omega
    unfold fc_X10_parts bc_X10_parts_0
    rcases this with rfl | rfl | rfl | rfl | rfl | rfl | rfl <;> simp (decide := true) only [if_true, if_false, reduceIte] <;> rfl
  unfold fc_X11_makeOf bc_X11_makeOf_0 bc_X11_makeOf_62 bc_X11_makeOf_91 bq_make_89 bq_make_112 bq_make_129 bq_make_150
  have mk : ∀ {x' y' z' : Nat} {a1 b1 c1 : Int32}, argR W.tm W.N kk 0 x' y' z' a1 b1 c1 → CO k (bd2 (fc_X8_comeInMade 38 (nI kk) 0 (some x') (some y') (some z') σ) (fun r_55 σ_54 => some (r_55, σ_54))) (bd2 (fq_makes (nI kk) a1 b1 c1 ρ) (fun r ρ => some (r, ρ))) := fun ha => (CO.make h hk R (by omega) (by omega) (by omega) ha).wr
  rcases R.ohd x with ⟨j, t, hj, ht, e1, e2, e3, e4, e5, e6, e7⟩ | ⟨e4, e5, e6⟩
  rotate_left
  · rw [e4, e5, bd2n, bd2n, if_pos rfl, if_pos rfl]; exact CO.same h hk _
  rw [e4, e5, bd2n, bd2n, if_neg z1, if_neg z1]
  by_cases one : kk = 4 ∨ kk = 6
  · have n8 : ¬ nI kk = (8:Int32) := fun q => by have := k8.mp q; omega
    simp only [if_pos one, if_neg z1, if_neg n8] at pc ⊢
    rw [e4, bd2n, if_neg z1, e4, bd2n, if_neg z1, pc, bd2n, if_pos (show nI 1 < (2:Int32) by decide), vln, e33, pc, bd2n, if_pos (show nI 1 < (3:Int32) by decide), vln, e33, e6, bd2n, e7, bd2n]
    refine mk ?_
    unfold argR
    rw [if_neg (by omega), if_pos one, if_neg (by omega)]
    exact ⟨rfl, ⟨t, ht, rfl, rfl⟩, ⟨rfl, rfl⟩, rfl, rfl⟩
  simp only [if_neg one] at pc ⊢
  rcases R.ohd y with ⟨j', t', hj', ht', f1, f2, f3, f4, f5, f6, f7⟩ | ⟨f4, f5, f6⟩
  rotate_left
  · rw [f4, f5, bd2n, bd2n, if_pos rfl, if_pos rfl]; exact CO.same h hk _
  rw [f4, f5, bd2n, bd2n, if_neg z1, if_neg z1]
  by_cases c8 : kk = 8
  · have e8 : nI kk = (8:Int32) := k8.mpr c8
    simp only [if_pos c8, if_pos e8] at pc ⊢
    rcases R.ohd z with ⟨j2, t2, hj2, ht2, g1, g2, g3, g4, g5, g6, g7⟩ | ⟨g4, g5, g6⟩
    rotate_left
    · rw [g4, g5, bd2n, bd2n, if_pos rfl, if_pos rfl]; exact CO.same h hk _
    rw [g4, g5, bd2n, bd2n, if_neg z1, if_neg z1, pc, bd2n, if_neg (show ¬ nI 3 < (2:Int32) by decide), f6, bd2n, pc, bd2n, if_neg (show ¬ nI 3 < (3:Int32) by decide), g6, bd2n, e6, bd2n, e7, bd2n, f7, bd2n, g7, bd2n]
    refine mk ?_
    unfold argR
    rw [if_neg (by omega), if_neg one, if_pos c8]
    exact ⟨rfl, ⟨t, ht, rfl, rfl⟩, ⟨t', ht', rfl, rfl⟩, t2, ht2, rfl, rfl⟩
  · have e8 : ¬ nI kk = (8:Int32) := fun q => c8 (k8.mp q)
    simp only [if_neg c8, if_neg e8] at pc ⊢
    rw [f4, bd2n, if_neg z1, pc, bd2n, if_neg (show ¬ nI 2 < (2:Int32) by decide), f6, bd2n, pc, bd2n, if_pos (show nI 2 < (3:Int32) by decide), vln, e33, e6, bd2n, e7, bd2n, f7, bd2n]
    refine mk ?_
    unfold argR
    rw [if_neg (by omega), if_neg one, if_neg c8]
    exact ⟨rfl, ⟨t, ht, rfl, rfl⟩, ⟨t', ht', rfl, rfl⟩, rfl, rfl⟩
theorem call_make (h : RC k σ ρ) (hk : k < 64) (kd x y z : Int32) : CO k (fc_X11_make 0 kd x y z σ) (fq_make kd x y z ρ) := by
  obtain ⟨W, R⟩ := id h
  have e33 := R.T.C.tms.2.2.1
  unfold fc_X11_make bc_X11_make_0 bc_X11_make_126 bc_X11_make_117 fq_make bq_make_0 bq_make_84
  by_cases c0 : kd = 0
  · subst c0
    rw [if_pos rfl, if_pos rfl, vln, vln, vln, e33]
    refine CO.wr (CO.make h hk R (kk := 0) (by omega) (by omega) (by omega) ?_)
    unfold argR
    rw [if_pos rfl]
    exact ⟨rfl, rfl, rfl, rfl, rfl, rfl⟩
  rw [if_neg c0, if_neg c0]
  by_cases c2 : kd = 2
  · subst c2
    rw [if_pos rfl, if_neg (show ¬ (2:Int32) < 2 by decide), if_pos (show (2:Int32) ≤ 9 by decide), if_pos rfl]
    exact CO.secret h hk
  rw [if_neg c2]
  have mo : ∀ kk, 3 ≤ kk ∧ kk < 10 → kd = nI kk → CO k (bd2 (fc_X11_makeOf 0 kd x (if kk = 4 ∨ kk = 6 then x else y) (if kk = 4 ∨ kk = 6 then x else if kk = 8 then z else y) σ) (fun r σ => some (r, σ))) (if kd < 2 then some (-2, ρ) else if kd ≤ 9 then (if kd = 2 then (if (ρ.1 0 110) = (600:Int32) then some ((-4:Int32), ρ) else vl (rf_w ρ 0 13 ((ρ.1 0 13) + (1:Int32))) (fun ρ_17 => bd2 (fq_term (2:Int32) ((ρ_17.1 0 13) - (1:Int32)) (0:Int32) (0:Int32) ρ_17) (fun r_19 ρ_18 => bd2 (fq_shows r_19 ρ_18) (fun r_21 ρ_20 => some (r_21, ρ_20))))) else (if kd = (4:Int32) then bq_make_89 kd x y z (1:Int32) ρ else (if kd = (6:Int32) then bq_make_89 kd x y z (1:Int32) ρ else bq_make_89 kd x y z (0:Int32) ρ))) else some (-2, ρ)) := by
    rintro kk hkk rfl
    have A := (CO.makeOf h hk hkk x y z).wl
    have i1 : ¬ nI kk < (2:Int32) := fun q => by have := (n_lt (a := kk) (b := 2) (by omega) (by omega)).mp q; omega
    have i2 : nI kk ≤ (9:Int32) := (n_le (a := kk) (b := 9) (by omega) (by omega)).mpr (by omega)
    rw [if_neg i1, if_pos i2, if_neg c2]
    by_cases q4 : kk = 4
    · subst q4
      rw [if_pos (show nI 4 = (4:Int32) from rfl)]
      exact A
    · rw [if_neg (show ¬ nI kk = (4:Int32) from fun q => q4 ((n_eq (a := kk) (b := 4) (by omega) (by omega)).mp q))]
      by_cases q6 : kk = 6
      · subst q6
        rw [if_pos (show nI 6 = (6:Int32) from rfl)]
        exact A
      · rw [if_neg (show ¬ nI kk = (6:Int32) from fun q => q6 ((n_eq (a := kk) (b := 6) (by omega) (by omega)).mp q))]
        have h46 : ¬ (kk = 4 ∨ kk = 6) := by omega
        simp only [if_neg h46] at A ⊢
        exact A
  by_cases c3 : kd = 3
  · rw [if_pos c3]; exact mo 3 (by omega) c3
  rw [if_neg c3]
  by_cases c4 : kd = 4
  · rw [if_pos c4]; exact mo 4 (by omega) c4
  rw [if_neg c4]
  by_cases c5 : kd = 5
  · rw [if_pos c5]; exact mo 5 (by omega) c5
  rw [if_neg c5]
  by_cases c6 : kd = 6
  · rw [if_pos c6]; exact mo 6 (by omega) c6
  rw [if_neg c6]
  by_cases c7 : kd = 7
  · rw [if_pos c7]; exact mo 7 (by omega) c7
  rw [if_neg c7]
  by_cases c8 : kd = 8
  · rw [if_pos c8]; exact mo 8 (by omega) c8
  rw [if_neg c8]
  by_cases c9 : kd = 9
  · rw [if_pos c9]; exact mo 9 (by omega) c9
  rw [if_neg c9]
  by_cases l2 : kd < 2
  · rw [if_pos l2]; exact CO.same h hk _
  · rw [if_neg l2, if_neg]
    · exact CO.same h hk _
    · intro q
      rcases n_cases kd with hy | ⟨u, hu, rfl⟩
      · exact l2 (n_neg hy (show 2 < 2147483648 by omega)).1
      have h9 : u ≤ 9 := (n_le (a := u) (b := 9) hu (by omega)).mp q
      have h2 : ¬ u < 2 := fun w => l2 ((n_lt (a := u) (b := 2) hu (by omega)).mpr w)
      have : u = 2 ∨ u = 3 ∨ u = 4 ∨ u = 5 ∨ u = 6 ∨ u = 7 ∨ u = 8 ∨ u = 9 := by omega
      rcases this with rfl | rfl | rfl | rfl | rfl | rfl | rfl | rfl
      · exact c2 rfl
      · exact c3 rfl
      · exact c4 rfl
      · exact c5 rfl
      · exact c6 rfl
      · exact c7 rfl
      · exact c8 rfl
      · exact c9 rfl
end Z2_M6
