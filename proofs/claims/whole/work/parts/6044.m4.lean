section Z2_M4
variable {K : Bd} {W W' : Wd} {b : Bool} {k s p : Nat} {σ σ' : cl_S} {ρ ρ' : rf_S}
/-- the OUTSIDE's table and the inputs change alone -/
theorem Rel.ob (h : Rel K W false k σ ρ) (cI : ∀ a j, ¬ (a = 38 ∨ a = 40 ∨ (78 < a ∧ a < 82) ∨ (a = 47 ∧ j = 15)) → σ'.1 a j = σ.1 a j) (cL : σ'.2.1 = σ.2.1) (cR : ∀ a, a ≠ 39 → a ≠ 82 → σ'.2.2.1 a = σ.2.2.1 a) (cT : σ'.2.2.2 = σ.2.2.2) (q : ∀ c, c ≠ 0 → c ≠ 76 → (c < 44 ∨ 47 < c) → ρ'.1 c = ρ.1 c) (l : ρ'.2 = ρ.2) (f : ∀ j, j ≠ 78 → j ≠ 110 → ρ'.1 0 j = ρ.1 0 j) (O : OthB W k σ' ρ') : Rel K W false k σ' ρ' := by
  have cA : ∀ a, a ≠ 38 → a ≠ 40 → (a < 79 ∨ 81 < a) → a ≠ 47 → σ'.1 a = σ.1 a := fun a h1 h2 h3 h4 => funext fun j => cI a j (by omega)
  have sm : SmT σ σ' := ⟨fun a ha => ⟨cA a (by omega) (by omega) (by omega) (by omega), cR a (by omega) (by omega)⟩, cT⟩
  have lo : ∀ a, pt W.ts a → (30 < a ∧ a < 38) ∨ 324 < a := by
    intro a ha
    rcases ha with rfl | ha
    · omega
    · have := h.T.C.mem a ha; omega
  have G : TGo W W σ σ' := ⟨Wd.le.refl W, fun a ha j _ => by rw [(sm.r a (lo a ha)).1], fun a ha j _ _ => by rw [(sm.r a (lo a ha)).2], h.T.L.inm, fun b _ => by rw [sm.t], by rw [sm.t]; exact Nat.le_refl _⟩
  have hcf := h.cf.cf
  have np8 := h.cf.np.1
  have M : ∀ s, s < 2 → MRel W s σ ρ → MRel W s σ' ρ' := by
    intro s hs m
    have s01 : s = 0 ∨ s = 1 := by omega
    refine m.fr (Wd.le.refl W) hs (fun p hp => (m.pr p hp).fr G (fun i hi => cA _ (by omega) (by omega) (by omega) (by omega)) (fun i hi => cR _ (by omega) (by omega)) (fun c j w => ?_)) (fun j hj => cI _ j (by omega)) (fun e => by rw [cA 179 (by omega) (by omega) (by omega) (by omega)]) (by rw [cR _ (by omega) (by omega)]) (fun a h1 h2 => ⟨cA a (by omega) (by omega) (by omega) (by omega), cR a (by omega) (by omega)⟩) (cA _ (by omega) (by omega) (by omega) (by omega)) (cR _ (by omega) (by omega)) (fun c h1 h2 => by rw [q c (by omega) (by omega) (by omega)]) (fun _ => f 54 (by decide) (by decide)) (fun j _ _ => by rw [q 71 (by omega) (by omega) (by omega)]) (fun c j hc _ _ => by rw [q c (by omega) (by omega) (by omega)]) (fun c j hc _ _ => by rw [q c (by omega) (by omega) (by omega)])
    have := w.out
    rw [q c (by omega) (by omega) (by omega)]
  refine ⟨h.T.sm sm (fun c h1 h2 => q c (by omega) (by omega) (by omega)) (fun j hj => f j (by omega) (by omega)), h.st.fr (cR 19 (by omega) (by omega)) (fun s' hs' => ⟨cR _ (by omega) (by omega), cR _ (by omega) (by omega), by rw [cR _ (by omega) (by omega)]⟩) (fun a _ => by rw [cT]) (fun s' p' hs' hp' => ⟨by rw [cA _ (by omega) (by omega) (by omega) (by omega)], fun j hj => by rw [cA _ (by omega) (by omega) (by omega) (by omega)]⟩) (by rw [cA 179 (by omega) (by omega) (by omega) (by omega)]; exact h.st.re), h.cf.fr (Wd.le.refl W) (fun i hi => cA _ (by omega) (by omega) (by omega) (by omega)) (fun c h1 h2 => q c (by omega) (by omega) (by omega)) (fun j hj => f j (by omega) (by omega)), M 0 (by omega) h.m0, fun e => M 1 (by omega) (h.m1 e), h.oA.fr (fun a ha => cA a (by omega) (by omega) (by omega) (by omega)) (fun c h1 h2 => q c (by omega) (by omega) (by omega)) (fun j hj => f j (by omega) (by omega)), O, ?_, h.n0, h.nm.fr (by rw [cL]) (by rw [l]) (q 14 (by omega) (by omega) (by omega)) (q 15 (by omega) (by omega) (by omega)), fun e => (by cases e)⟩
  have B := h.bd
  have e : ∀ s', phi s' ρ' = phi s' ρ := fun s' => phi_eq (fun g => by rw [q 61 (by omega) (by omega) (by omega)]) (fun g => by rw [q 69 (by omega) (by omega) (by omega)])
  exact ⟨by rw [e, e]; exact B.n, by rw [e, e]; exact B.l, by rw [cT]; exact B.c, by rw [cT]; exact B.s⟩
/-- a step among the terms -/
theorem Rel.tms {K' : Bd} (h : Rel K W b k σ ρ) (F : TFr σ σ' W.ts W'.ts 0 0) (Q : QFr ρ ρ') (le : W.le W') (T' : TermR W'.n0 σ' ρ' W'.ts W'.tm W'.N) (h1 : W'.N + K.kn ≤ W.N + K'.kn) (h2 : W'.ts.length + K.kl ≤ W.ts.length + K'.kl) (h3 : K'.kc ≤ K.kc) (h4 : K'.ks ≤ K.ks) : Rel K' W' b k σ' ρ' := by
  have fr : ∀ {X : Nat → Prop} {Y : Nat → Nat → Prop}, Fr X Y scr W W' σ σ' ρ ρ' := Fr.of F Q le h.T.L.inm h.T.C.top
  have fr0 : Fr (fun _ => False) (fun _ _ => False) scr W W' σ σ' ρ ρ' := fr
  have I : ∀ a, (a < 31 ∨ 37 < a) → a < 325 → σ'.1 a = σ.1 a := F.I
  have R : ∀ a, (a < 31 ∨ 37 < a) → a < 325 → σ'.2.2.1 a = σ.2.2.1 a := F.R
  have np8 := h.cf.np.1
  have hcf := h.cf.cf
  have ff : ∀ j, j ≠ 10 → j ≠ 12 → j ≠ 13 → j ≠ 14 → j ≠ 15 → j ≠ 16 → ρ'.1 0 j = ρ.1 0 j := Q.f
  have M : ∀ s, s < 2 → MRel W s σ ρ → MRel W' s σ' ρ' := by
    intro s hs m
    refine m.fr le hs (fun p hp => (m.pr p hp).fr fr0.G (fun i hi => I _ (by omega) (by omega)) (fun i hi => R _ (by omega) (by omega)) (fun c j w => ?_)) (fun j hj => by rw [I _ (by omega) (by omega)]) (fun e => by rw [I _ (by omega) (by omega)]) (by rw [R _ (by omega) (by omega)]) (fun a h1 h2 => ⟨I a (by omega) (by omega), R a (by omega) (by omega)⟩) (I _ (by omega) (by omega)) (R _ (by omega) (by omega)) (fun c h1 h2 => by rw [Q.o c (by omega)]) (fun _ => ff 54 (by decide) (by decide) (by decide) (by decide) (by decide) (by decide)) (fun j _ _ => by rw [Q.o 71 (by omega)]) (fun c j hc _ _ => by rw [Q.o c (by omega)]) (fun c j hc _ _ => by rw [Q.o c (by omega)])
    have := w.out
    rw [Q.o c (by omega)]
  refine ⟨T', h.st.fr (R 19 (by omega) (by omega)) (fun s' hs' => ⟨R _ (by omega) (by omega), R _ (by omega) (by omega), by rw [R _ (by omega) (by omega)]⟩) (fun a ha => F.T a (by have := h.T.C.top; omega)) (fun s' p' hs' hp' => ⟨by rw [I _ (by omega) (by omega)], fun j hj => by rw [I _ (by omega) (by omega)]⟩) (by rw [I 179 (by omega) (by omega)]; exact h.st.re), h.cf.fr le (fun i hi => I _ (by omega) (by omega)) (fun c h1 h2 => Q.o c (by omega)) (fun j hj => ff j (by omega) (by omega) (by omega) (by omega) (by omega) (by omega)), M 0 (by omega) h.m0, fun e => M 1 (by omega) (h.m1 e), h.oA.fr (fun a ha => I a (by omega) (by omega)) (fun c h1 h2 => Q.o c (by omega)) (fun j hj => ff j (by omega) (by omega) (by omega) (by omega) (by omega) (by omega)), h.oB.fr fr0.G (I 0 (by omega) (by omega)) (R 0 (by omega) (by omega)) (fun a ha => I a (by omega) (by omega)) (fun j hj => by rw [I 47 (by omega) (by omega)]) (fun a ha => R a (by omega) (by omega)) (fun c hc => Q.o c (by omega)) (fun j hj => ff j (by omega) (by omega) (by omega) (by omega) (by omega) (by omega)) (by rw [Q.o 48 (by omega)]; exact Nat.le_refl _), ?_, by rw [le.n0]; exact h.n0, h.nm.fr (F.L 7 (by omega)) (by rw [Q.l]) (Q.o 14 (by omega)) (Q.o 15 (by omega)), fun e => (h.fz e).fr le.ln (fun c j h1 h2 _ => by rw [Q.o c (by omega)]) (ff 110 (by decide) (by decide) (by decide) (by decide) (by decide) (by decide)) (ff 78 (by decide) (by decide) (by decide) (by decide) (by decide) (by decide))⟩
  have B := h.bd
  have rc := F.rc
  have rs := F.rs
  have e : ∀ s', phi s' ρ' = phi s' ρ := fun s' => phi_eq (fun g => by rw [Q.o 61 (by omega)]) (fun g => by rw [Q.o 69 (by omega)])
  exact ⟨by rw [e, e]; have := B.n; omega, by rw [e, e]; have := B.l; omega, by have := B.c; omega, by have := B.s; omega⟩
theorem q_shows {ρ : rf_S} {h : Nat} (hh : ρ.1 0 110 = nI h) (hl : h ≤ 600) (v : Int32) :
    (∃ j, j < h ∧ ρ.1 76 j = v ∧ fq_shows v ρ = some (nI (j + 1), ρ)) ∨ ((∀ j, j < h → ρ.1 76 j ≠ v) ∧ ((h = 600 ∧ fq_shows v ρ = some (-4, ρ)) ∨ (h < 600 ∧ fq_shows v ρ = bd1 (fq_wentOut v (rf_w (rf_w ρ 76 h v) 0 110 (nI (h + 1)))) (fun ρ_4 => some ((ρ_4.1 0 110), ρ_4))))) := by
  have lpp : ∀ m i, h - i = m → i ≤ h → (∀ j, j < i → ρ.1 76 j ≠ v) → (∃ j, j < h ∧ ρ.1 76 j = v ∧ lp (fun z : (Int32 × rf_S) => lq_shows_2 v z.1 z.2) (nI i, ρ) = some (.inl (nI (j + 1), ρ))) ∨ ((∀ j, j < h → ρ.1 76 j ≠ v) ∧ lp (fun z : (Int32 × rf_S) => lq_shows_2 v z.1 z.2) (nI i, ρ) = some (.inr (nI h, ρ))) := by
    intro m
    induction m with
    | zero =>
      intro i hm hi hn
      have : i = h := by omega
      subst this
      have eb : lq_shows_2 v (nI i) ρ = some (.inr (.inr (nI i, ρ))) := by
        unfold lq_shows_2
        rw [hh, if_pos ((n_le (by omega) (by omega)).mpr (Nat.le_refl _))]
      exact Or.inr ⟨hn, lp_end eb⟩
    | succ m ih =>
      intro i hm hi hn
      by_cases c : ρ.1 76 i = v
      · have eb : lq_shows_2 v (nI i) ρ = some (.inr (.inl (nI (i + 1), ρ))) := by
          unfold lq_shows_2
          rw [hh, if_neg (fun q => by have := (n_le (by omega) (by omega)).mp q; omega), n_ix (show i < 600 by omega) (by omega), n_cl (show i < 2147483648 by omega), if_pos c, show nI i + (1:Int32) = nI (i + 1) from n_add i 1]
        exact Or.inl ⟨i, by omega, c, lp_end eb⟩
      · have eb : lq_shows_2 v (nI i) ρ = some (.inl (nI (i + 1), ρ)) := by
          unfold lq_shows_2
          rw [hh, if_neg (fun q => by have := (n_le (by omega) (by omega)).mp q; omega), n_ix (show i < 600 by omega) (by omega), n_cl (show i < 2147483648 by omega), if_neg c, vln, show nI i + (1:Int32) = nI (i + 1) from n_add i 1]
        rw [lp_next eb]
        refine ih (i + 1) (by omega) (by omega) (fun j hj => ?_)
        by_cases e : j = i
        · subst e; exact c
        · exact hn j (by omega)
  unfold fq_shows bq_shows_0 bq_shows_2
  rcases lpp h 0 (by omega) (by omega) (fun j hj => by omega) with ⟨j, hj, ej, e⟩ | ⟨hn, e⟩
  · have e' : lp (fun z : (Int32 × rf_S) => lq_shows_2 v z.1 z.2) ((0:Int32), ρ) = _ := e
    rw [e']
    exact Or.inl ⟨j, hj, ej, rfl⟩
  · have e' : lp (fun z : (Int32 × rf_S) => lq_shows_2 v z.1 z.2) ((0:Int32), ρ) = _ := e
    rw [e']
    refine Or.inr ⟨hn, ?_⟩
    show (h = 600 ∧ eq_shows_2 v (nI h) ρ = _) ∨ (h < 600 ∧ eq_shows_2 v (nI h) ρ = _)
    unfold eq_shows_2
    rw [hh]
    by_cases c : h = 600
    · left; subst c; rw [if_pos (show nI 600 = (600:Int32) from rfl)]; exact ⟨rfl, rfl⟩
    · right
      rw [if_neg (show ¬ nI h = (600:Int32) from fun q => c ((n_eq (a := h) (b := 600) (by omega) (by omega)).mp q)), n_ix (show h < 600 by omega) (by omega), n_cl (show h < 2147483648 by omega), vln, q_w (by decide), hh, show nI h + (1:Int32) = nI (h + 1) from n_add h 1, vln]
      exact ⟨by omega, rfl⟩
theorem Rel.far (h : Rel K W b k σ ρ) : ∀ t, t < W.N → W.tm t ≠ 38 ∧ W.tm t ≠ 38 + 2 := by
  intro t ht
  have := h.T.C.mem _ (h.T.L.inm t ht)
  omega
/-- a TERM is shown to the OUTSIDE -/
theorem Rel.shows (h : Rel K W false k σ ρ) {t : Nat} (ht : t < W.N) : ∃ r σ' ρ', fc_X8_comeIn 38 (some (W.tm t)) σ = some (r, σ') ∧ fq_shows (nI t) ρ = some (r, ρ') ∧ Rel K W false k σ' ρ' := by
  obtain ⟨hh, B⟩ := h.oB.ou
  have hl := B.hl
  have hN := h.T.Q.n.2
  have hq := q_shows (show ρ.1 0 110 = nI hh from B.cq) hl (nI t)
  rcases c_comeIn B h.far h.T.L.inj (by omega) ht with ⟨j, hj, ej, ec⟩ | ⟨hno, ⟨h100, ec⟩ | ⟨hlt, pp, ec, hB⟩⟩
  · rcases hq with ⟨j', hj', ej', eq⟩ | ⟨hno', -⟩
    · have : j' = j := by
        apply Classical.byContradiction
        intro q
        by_cases c : j' < j
        · exact B.nd j' j c hj (ej'.trans ej.symm)
        · exact B.nd j j' (by omega) hj' (ej.trans ej'.symm)
      subst this
      exact ⟨_, _, _, ec, eq, h⟩
    · exact absurd ej (hno' j hj)
  · rcases hq with ⟨j', hj', ej', eq⟩ | ⟨-, ⟨-, eq⟩ | ⟨q, -⟩⟩
    · exact absurd ej' (hno j' hj')
    · exact ⟨_, _, _, ec, eq, h⟩
    · omega
  · rcases hq with ⟨j', hj', ej', eq⟩ | ⟨-, ⟨q, -⟩ | ⟨-, eq⟩⟩
    · exact absurd ej' (hno j' hj')
    · omega
    · rw [if_neg (by rw [h.oB.of]; decide)] at ec
      have cI : ∀ a, a ≠ 38 → a ≠ 40 → (tbI σ 38 (W.tm t) hh pp).1 a = σ.1 a := by
        intro a h1 h2; unfold tbI; rw [r_w (by omega), r_rI, r_w h1]
      have cR : ∀ a, a ≠ 39 → (tbI σ 38 (W.tm t) hh pp).2.2.1 a = σ.2.2.1 a := by
        intro a h1; unfold tbI; rw [r_wL, r_r (by omega), r_wL]
      have c2 : (tbI σ 38 (W.tm t) hh pp).1 38 2 = σ.1 38 2 := by
        unfold tbI; rw [r_w (by omega), r_rI, r_wk (by decide)]
      have cc5 : (tbI σ 38 (W.tm t) hh pp).1 38 5 = nI (hh + 1) := by
        unfold tbI; rw [r_w (by omega), r_rI, r_ws]
      have q76 : ∀ i, (rf_w (rf_w ρ 76 hh (nI t)) 0 110 (nI (hh + 1))).1 76 i = if i = hh then nI t else ρ.1 76 i := by
        intro i; rw [q_w (by decide), g_q]; simp only [true_and]
      have qo : ∀ c, c ≠ 0 → c ≠ 76 → (rf_w (rf_w ρ 76 hh (nI t)) 0 110 (nI (hh + 1))).1 c = ρ.1 c := fun c h1 h2 => by rw [q_w h1, q_w h2]
      have fo : ∀ j, j ≠ 110 → (rf_w (rf_w ρ 76 hh (nI t)) 0 110 (nI (hh + 1))).1 0 j = ρ.1 0 j := fun j h1 => by rw [q_wk h1, q_w (by decide)]
      have O := h.oB
      have h1 : Rel K W false k (tbI σ 38 (W.tm t) hh pp) (rf_w (rf_w ρ 76 hh (nI t)) 0 110 (nI (hh + 1))) := by
        refine h.ob (fun a j w => by rw [cI a (by omega) (by omega)]) rfl (fun a w1 w2 => cR a w1) rfl (fun c w1 w2 _ => qo c w1 w2) rfl (fun j _ w => fo j w) ?_
        refine ⟨⟨hh + 1, ?_⟩, by rw [c2]; exact O.of, fun d hd => by rw [cI 45 (by decide) (by decide), cR 46 (by decide), qo 40 (by decide) (by decide), qo 41 (by decide) (by decide)]; exact O.d0 d hd, ?_, by rw [cI 47 (by decide) (by decide), fo 51 (by decide)]; exact O.on, by rw [cI 0 (by decide) (by decide), fo 52 (by decide), fo 51 (by decide), fo 18 (by decide)]; exact O.bt, by rw [cI 47 (by decide) (by decide), fo 53 (by decide)]; exact O.wr, by rw [cR 0 (by decide)]; exact O.sp⟩
        · rw [show (rf_w (rf_w ρ 76 hh (nI t)) 0 110 (nI (hh + 1))).1 0 110 = nI (hh + 1) from q_ws]
          exact hB _ (fun j hj => by rw [q76, if_neg (by omega)]) (by rw [q76, if_pos rfl])
        · rw [cI 47 (by decide) (by decide), fo 78 (by decide), cI 79 (by decide) (by decide), cI 80 (by decide) (by decide), cI 81 (by decide) (by decide), cR 82 (by decide), qo 44 (by decide) (by decide), qo 45 (by decide) (by decide), qo 46 (by decide) (by decide), qo 47 (by decide) (by decide), qo 48 (by decide) (by decide)]
          exact O.ip
      obtain ⟨σ2, ρ2, g1, g2, F, Q, T', -⟩ := t_tell h1.T ht (by rw [nbd_s (h1.n0 rfl)]; have := h1.n0 rfl; omega)
      have h2 := h1.tms F Q (Wd.le.refl W) T' (Nat.le_refl _) (Nat.le_refl _) (Nat.le_refl _) (Nat.le_refl _)
      have r1 : σ2.1 38 5 = nI (hh + 1) := by rw [F.I 38 (by omega) (by omega)]; exact cc5
      have r2 : ρ2.1 0 110 = nI (hh + 1) := by rw [Q.f 110 (by decide) (by decide) (by decide) (by decide) (by decide) (by decide)]; exact q_ws
      rw [g1, bd1n, r1] at ec
      rw [g2, bd1n, r2] at eq
      exact ⟨_, _, _, ec, eq, h2⟩
/-- .. as a call -/
theorem CO.shows (h : RC k σ ρ) (hk : k < 64) (t : Nat) {r : Option Nat} {v : Int32} (hr : ∃ W, Rel (KB k (onF ρ)) W false k σ ρ ∧ TV W r v) : CO k (bd2 (fc_X8_comeIn 38 r σ) (fun r σ => some (r, σ))) (bd2 (fq_shows v ρ) (fun r ρ => some (r, ρ))) := by
  obtain ⟨W, R, t, ht, rfl, rfl⟩ := hr
  obtain ⟨r, σ', ρ', e1, e2, R'⟩ := R.next.shows ht
  rw [e1, e2]
  exact ⟨_, _, _, rfl, rfl, RC.of0 R' hk (onF_le ρ)⟩
theorem call_measure (h : RC k σ ρ) (hk : k < 64) (x : Int32) : CO k (fc_X11_measure 0 x σ) (fq_measure x ρ) := by
  obtain ⟨W, R⟩ := id h
  unfold fc_X11_measure bc_X11_measure_0 fq_measure bq_measure_0
  rcases R.isP x with ⟨p, hp, p8, rfl, e1, e2, e3⟩ | ⟨e1, e2⟩
  · rw [e1, bd2n, if_neg (by decide), if_neg e2, if_pos e3, n_ix p8 (by omega), vln, n_cl (show p < 2147483648 by omega), show 47 + 12 + cl_md 47 = 59 + 135 * 0 from rfl, R.st.pp 0 p (by omega) p8, nnn, vln, n_ix p8 (by omega)]
    exact CO.shows h hk 0 ⟨W, R, (R.m0.pr p hp).ms.ms⟩
  · rw [e1, bd2n, if_pos rfl]
    rcases e2 with e2 | ⟨e2, e3⟩
    · rw [if_pos e2]; exact CO.same h hk _
    · rw [if_neg e2, if_neg e3]; exact CO.same h hk _
theorem call_block (h : RC k σ ρ) (hk : k < 64) (x y : Int32) : CO k (fc_X11_block 0 x y σ) (fq_block x y ρ) := by
  obtain ⟨W, R⟩ := id h
  have e33 := R.T.C.tms.2.2.1
  have hN := R.T.Q.n.2
  unfold fc_X11_block bc_X11_block_0 bc_X11_block_47 fq_block bq_block_0
  refine CO.ite Iff.rfl (fun _ _ => CO.same h hk _) (fun c0 _ => ?_)
  rcases n_cases x with hx | ⟨i, hi, rfl⟩
  · exact absurd hx c0
  refine CO.ite (by rw [show (64:Int32) = nI 64 from rfl, show (63:Int32) = nI 63 from rfl, n_lt hi (by omega), n_le hi (by omega)]; omega) (fun c1 _ => ?_) (fun _ _ => CO.same h hk _)
  have hi6 : i < 64 := (n_lt (a := i) (b := 64) hi (by omega)).mp c1
  refine CO.ite Iff.rfl (fun _ _ => CO.same h hk _) (fun _ _ => CO.ite Iff.rfl (fun _ _ => ?_) (fun _ _ => CO.same h hk _))
  have i64 : ∀ {α : Type} (z : Option α), ix (nI i) 64 z = z := fun z => n_ix hi6 (by omega)
  have i128 : ∀ {α : Type} (z : Option α), ix (nI i) 128 z = z := fun z => n_ix (by omega) (by omega)
  simp only [i64, i128]
  obtain ⟨d1, d2, d3⟩ := R.m0.dk i hi6
  rw [show 64 * 0 + i = i by omega] at d1 d2 d3
  rw [n_cl hi, vln, vln, vln, e33, show 41 + 1 = 42 + 139 * 0 from rfl, show 41 + 2 = 43 + 139 * 0 from rfl, d1]
  rcases d2 with ⟨f1, f2⟩ | ⟨t, ht, f2, f1⟩
  · rw [f1, f2, if_pos rfl, if_neg (show ¬ (0:Int32) ≤ -1 by decide), d3 f2]
    by_cases c : y = 0
    · rw [if_pos c]; exact CO.same h hk _
    · rw [if_neg c]; exact CO.same h hk _
  · have ne : ¬ (some (W.tm t) = some 33) := fun q => by have := R.T.C.mem _ (R.T.L.inm t ht); have := Option.some.inj q; omega
    rw [f1, f2, if_neg ne, if_pos (show (0:Int32) ≤ nI t by rw [i32_0, n_le (by omega) (by omega)]; omega)]
    refine CO.ite Iff.rfl (fun _ _ => CO.same h hk _) (fun _ _ => ?_)
    exact CO.shows h hk 0 ⟨W, R, t, ht, rfl, rfl⟩
theorem call_output (h : RC k σ ρ) (hk : k < 64) (x y z : Int32) : CO k (fc_X11_output 0 x y z σ) (fq_output x y z ρ) := by
  obtain ⟨W, R⟩ := id h
  have e33 := R.T.C.tms.2.2.1
  unfold fc_X11_output bc_X11_output_0 fq_output bq_output_0
  rcases R.isP x with ⟨p, hp, p8, rfl, e1, e2, e3⟩ | ⟨e1, e2⟩
  rotate_left
  · rw [e1, bd2n, if_pos rfl]
    rcases e2 with e2 | ⟨e2, e3⟩
    · rw [if_pos e2]; exact CO.same h hk _
    · rw [if_neg e2, if_pos (Int32.not_lt.mp e3)]; exact CO.same h hk _
  rw [e1, bd2n, if_neg (by decide), if_neg e2, if_neg (Int32.not_le.mpr e3)]
  refine CO.ite Iff.rfl (fun _ _ => CO.same h hk _) (fun c0 _ => ?_)
  rcases n_cases y with hy | ⟨j, hj, rfl⟩
  · exact absurd hy c0
  obtain ⟨m, ⟨hm, o1, o2⟩, o3⟩ := (R.m0.pr p hp).ou
  rw [show 8 * 0 + p = p by omega] at o2 o3
  have i8 : ∀ {α : Type} (z : Option α), ix (nI p) 8 z = z := fun z => n_ix p8 (by omega)
  have i16 : ∀ {α : Type} (z : Option α), ix (nI p) 16 z = z := fun z => n_ix (by omega) (by omega)
  simp only [i8, i16, vln, n_cl (show p < 2147483648 by omega), show 47 + 12 + cl_md 47 = 59 + 135 * 0 from rfl, R.st.pp 0 p (by omega) p8, nnn]
  rw [o1, o2]
  refine CO.ite Iff.rfl (fun c1 _ => ?_) (fun _ _ => CO.same h hk _)
  have hjm : j < m := (n_lt hj (by omega)).mp c1
  refine CO.ite Iff.rfl (fun _ _ => CO.same h hk _) (fun _ _ => CO.ite Iff.rfl (fun _ _ => ?_) (fun _ _ => CO.same h hk _))
  rw [show (200:Int32) * nI p + nI j = nI (200 * p + j) from by rw [show (200:Int32) = nI 200 from rfl, n_mul, n_add], e33, show 83 + 135 * 0 + 12 * p + 5 = 88 + 135 * 0 + 12 * p by omega, show 83 + 135 * 0 + 12 * p + 4 = 87 + 135 * 0 + 12 * p by omega]
  have i200 : ∀ {α : Type} (z : Option α), ix (nI j) 200 z = z := fun z => n_ix (by omega) (by omega)
  have i3200 : ∀ {α : Type} (z : Option α), ix (nI (200 * p + j)) 3200 z = z := fun z => n_ix (by omega) (by omega)
  simp only [i200, i3200, n_cl hj, n_cl (show 200 * p + j < 2147483648 by omega)]
  rcases o3 j hjm with ⟨f1, f2, f3⟩ | ⟨f1, f2, t, ht, f4, f5⟩
  · rw [f1, f2, f3, if_pos rfl, if_pos rfl, if_pos rfl, if_pos rfl]
    exact CO.ite Iff.rfl (fun _ _ => CO.same h hk _) (fun _ _ => CO.same h hk _)
  · have ne : ¬ (some (W.tm t) = some 33) := fun q => by have := R.T.C.mem _ (R.T.L.inm t ht); have := Option.some.inj q; omega
    rw [f1, f4, f5, if_neg ne, if_neg ne, if_neg (show ¬ (1:Int32) = 0 by decide), if_neg (show ¬ (1:Int32) = 0 by decide)]
    refine CO.ite Iff.rfl (fun _ _ => CO.same h hk _) (fun _ _ => ?_)
    exact CO.shows h hk 0 ⟨W, R, t, ht, rfl, rfl⟩
theorem call_kind (h : RC k σ ρ) (hk : k < 64) (x : Int32) : CO k (fc_X11_kind 0 x σ) (fq_kind x ρ) := by
  obtain ⟨W, R⟩ := id h
  have hN := R.T.Q.n.2
  unfold fc_X11_kind bc_X11_kind_0 fq_kind bq_kind_0
  rcases R.ohd x with ⟨j, t, hj, ht, e1, e2, e3, e4, e5, e6, e7⟩ | ⟨e4, e5, e6⟩
  · rw [e4, e5, bd2n, bd2n, if_neg (by decide), if_neg (by decide), e6, e7, bd2n, bd2n, nnn, n_ix (show t < 112000 by omega) (by omega), n_cl (by omega), R.T.L.kd t ht]
    exact CO.same h hk _
  · rw [e4, e5, bd2n, bd2n, if_pos rfl, if_pos rfl]
    exact CO.same h hk _
theorem call_number (h : RC k σ ρ) (hk : k < 64) (x : Int32) : CO k (fc_X11_number 0 x σ) (fq_number x ρ) := by
  obtain ⟨W, R⟩ := id h
  have hN := R.T.Q.n.2
  unfold fc_X11_number bc_X11_number_0 fq_number bq_number_0
  rcases R.ohd x with ⟨j, t, hj, ht, e1, e2, e3, e4, e5, e6, e7⟩ | ⟨e4, e5, e6⟩
  · rw [e5, bd2n, if_neg (by decide), e6, e7, bd2n, bd2n, nnn, n_ix (show t < 112000 by omega) (by omega), n_cl (by omega), R.T.L.kd t ht]
    refine CO.ite Iff.rfl (fun c _ => ?_) (fun _ _ => CO.same h hk _)
    rw [e6, e7, bd2n, bd2n, nnn, n_ix (show t < 112000 by omega) (by omega), n_cl (by omega), R.T.L.nu t ht c]
    exact CO.same h hk _
  · rw [e5, bd2n, if_pos rfl, e6, bd2n, nnn, R.T.C.non.1, if_neg (by decide)]
    exact CO.same h hk _
end Z2_M4
