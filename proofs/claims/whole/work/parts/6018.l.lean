section Z2_L
variable {K : Bd} {W W' : Wd} {b : Bool} {k s p : Nat} {σ σ' : cl_S} {ρ ρ' : rf_S}
/-- the outcome of an ask -/
def AkO (K : Bd) (W : Wd) (b : Bool) (k s p : Nat) (ρ : rf_S) : Int32 × cl_S → Int32 × rf_S → Prop := fun u v => u.1 = v.1 ∧ ∃ W', W.le W' ∧ Ak K W' b k s p u.2 v.2 ∧ Kp s p ρ v.2
theorem Kp.refl : Kp s p ρ ρ := ⟨rfl, rfl, rfl⟩
theorem Kp.trans {ρ'' : rf_S} (h : Kp s p ρ ρ') (k : Kp s p ρ' ρ'') : Kp s p ρ ρ'' := ⟨k.1.trans h.1, k.2.1.trans h.2.1, k.2.2.trans h.2.2⟩
theorem AkO.same (h : Ak K W b k s p σ ρ) (r : Int32) : AkO K W b k s p ρ (r, σ) (r, ρ) := ⟨rfl, W, Wd.le.refl W, h, Kp.refl⟩
theorem QFr.kp (h : QFr ρ ρ') : Kp s p ρ ρ' := ⟨h.f 121 (by decide) (by decide) (by decide) (by decide) (by decide) (by decide), by rw [h.o 54 (by omega)], by rw [h.o 48 (by omega)]⟩
/-- a step among the terms -/
theorem Ak.terms {K' : Bd} (h : Ak K W b k s p σ ρ) (F : TFr σ σ' W.ts W'.ts 0 0) (Q : QFr ρ ρ') (le : W.le W') (T' : TermR W'.n0 σ' ρ' W'.ts W'.tm W'.N) (h1 : W'.N + K.kn ≤ W.N + K'.kn) (h2 : W'.ts.length + K.kl ≤ W.ts.length + K'.kl) (h3 : K'.kc ≤ K.kc) (h4 : K'.ks ≤ K.ks) : Ak K' W' b k s p σ' ρ' := by
  have fr : Fr (prt s p) (segA W b s p) scr W W' σ σ' ρ ρ' := Fr.of F Q le h.R.T.L.inm h.R.T.C.top
  have P : PRel W' s p σ' ρ' := by
    have s2 := h.s2
    have p8 := h.p8
    refine h.P.fr fr.G (fun i hi => F.I _ (by omega) (by omega)) (fun i hi => F.R _ (by omega) (by omega)) (fun c j hq => ?_)
    have := hq.out
    rw [Q.o c (by omega)]
  have e : ∀ s', phi s' ρ' = phi s' ρ := fun s' => phi_eq (fun g => by rw [Q.o 61 (by omega)]) (fun g => by rw [Q.o 69 (by omega)])
  have B := h.R.bd
  have rc := F.rc
  have rs := F.rs
  have B' : Bud K' W' b σ' ρ' := by
    refine ⟨?_, ?_, ?_, ?_⟩
    · rw [e, e]; have := B.n; omega
    · rw [e, e]; have := B.l; omega
    · have := B.c; omega
    · have := B.s; omega
  refine h.part fr P T' B' (fun j hj => Q.f j (by omega) (by omega) (by omega) (by omega) (by omega) (by omega))
theorem tm_far (h : Ak K W b k s p σ ρ) : ∀ t, t < W.N → W.tm t ≠ 92 + 135 * s + 12 * p ∧ W.tm t ≠ 92 + 135 * s + 12 * p + 2 := by
  intro t ht
  have s2 := h.s2
  have p8 := h.p8
  have := h.R.T.C.mem _ (h.R.T.L.inm t ht)
  omega
theorem phG_h {ρ : rf_S} {g h : Nat} (e : ρ.1 61 g = nI h) (hh : h ≤ 100) : phG ρ g = 2 * (100 - h) + 5 * (40 - (ρ.1 69 g).toNatClampNeg) := by
  unfold phG
  rw [e, n_cl (by omega)]
/-- a TERM comes into the partition's table -/
theorem Ak.come (h : Ak K W b k s p σ ρ) {t : Nat} (ht : t < W.N) :
    ((∃ r, (0 ≤ r ∧ r ≠ 0 ∨ r = -4) ∧ (r = -4 → ρ.1 61 (8 * s + p) = nI 100) ∧ fc_X8_comeIn (92 + 135 * s + 12 * p) (some (W.tm t)) σ = some (r, σ) ∧ fq_comes (nI t) ρ = some (r, ρ) ∧ (r ≠ -4 → ∃ j n, j < n ∧ n ≤ 100 ∧ ρ.1 61 (8 * s + p) = nI n ∧ ρ.1 60 (100 * (8 * s + p) + j) = nI t)) ∨
     ∃ n σ' ρ', n < 100 ∧ ρ.1 61 (8 * s + p) = nI n ∧ fc_X8_comeIn (92 + 135 * s + 12 * p) (some (W.tm t)) σ = some (nI (n + 1), σ') ∧ fq_comes (nI t) ρ = some (nI (n + 1), ρ') ∧ Kp s p ρ ρ' ∧ (∀ a, ¬ (92 + 135 * s + 12 * p ≤ a ∧ a ≤ 94 + 135 * s + 12 * p) → σ'.1 a = σ.1 a ∧ σ'.2.2.1 a = σ.2.2.1 a) ∧ σ'.2.2.2 = σ.2.2.2 ∧ (∀ c, c ≠ 60 → c ≠ 61 → ρ'.1 c = ρ.1 c) ∧
      ∀ K' : Bd, K.kn ≤ K'.kn + 2 → K.kl ≤ K'.kl + 2 → K'.kc ≤ K.kc → K'.ks ≤ K.ks → Ak K' W b k s p σ' ρ') := by
  have s2 := h.s2
  have p8 := h.p8
  have s01 : s = 0 ∨ s = 1 := by omega
  have hN := h.R.T.Q.n.2
  have hP := h.P
  obtain ⟨⟨hh, B, kk, mm, hk, hm, e1, e2, e3, e4, e5, e6, e7, e8, e9⟩, tf⟩ := hP.tb
  have hl := B.hl
  have hq := q_comes h.at' (show 8 * s + p < 16 by omega) B.cq hl (nI t)
  rcases c_comeIn B (tm_far h) h.R.T.L.inj (by omega) ht with ⟨j, hj, ej, ec⟩ | ⟨hno, ⟨h100, ec⟩ | ⟨hlt, pp, ec, hB⟩⟩
  · left
    rcases hq with ⟨j', hj', ej', eq⟩ | ⟨hno', -⟩
    · have : j' = j := by
        apply Classical.byContradiction
        intro q
        have ej0 : ρ.1 60 (100 * (8 * s + p) + j) = nI t := ej
        by_cases c : j' < j
        · exact B.nd j' j c hj (ej'.trans ej0.symm)
        · exact B.nd j j' (by omega) hj' (ej0.trans ej'.symm)
      subst this
      refine ⟨nI (j' + 1), Or.inl ⟨?_, ?_⟩, ?_, ec, eq, fun _ => ⟨j', hh, hj', hl, B.cq, ej'⟩⟩
      · rw [i32_0, n_le (by omega) (by omega)]; omega
      · rw [i32_0]; intro q; have := (n_eq (by omega) (by omega)).mp q; omega
      · intro q
        exfalso
        have q2 : (nI (j' + 1)).toInt = (-4:Int32).toInt := by rw [q]
        rw [n_toInt (by omega), show (-4:Int32).toInt = -4 by decide] at q2
        omega
    · exact absurd ej (hno' j hj)
  · left
    rcases hq with ⟨j', hj', ej', eq⟩ | ⟨-, ⟨-, eq⟩ | ⟨q, -⟩⟩
    · exact absurd ej' (hno j' hj')
    · exact ⟨-4, Or.inr rfl, fun _ => by rw [B.cq, h100], ec, eq, fun q => absurd rfl q⟩
    · omega
  · right
    rcases hq with ⟨j', hj', ej', eq⟩ | ⟨-, ⟨q, -⟩ | ⟨-, eq⟩⟩
    · exact absurd ej' (hno j' hj')
    · omega
    · rw [if_pos tf] at ec
      have r60 : ∀ i, (rf_w (rf_w ρ 60 (100 * (8 * s + p) + hh) (nI t)) 61 (8 * s + p) (nI (hh + 1))).1 60 i = if i = 100 * (8 * s + p) + hh then nI t else ρ.1 60 i := by
        intro i; simp only [g_q, true_and, false_and, if_false, Nat.reduceEqDiff]
      have r61 : ∀ i, (rf_w (rf_w ρ 60 (100 * (8 * s + p) + hh) (nI t)) 61 (8 * s + p) (nI (hh + 1))).1 61 i = if i = 8 * s + p then nI (hh + 1) else ρ.1 61 i := by
        intro i; simp only [g_q, true_and, false_and, if_false, Nat.reduceEqDiff]
      have ro : ∀ c, c ≠ 60 → c ≠ 61 → (rf_w (rf_w ρ 60 (100 * (8 * s + p) + hh) (nI t)) 61 (8 * s + p) (nI (hh + 1))).1 c = ρ.1 c := by
        intro c h1 h2; rw [q_w h2, q_w h1]
      have cI : ∀ a, a ≠ 92 + 135 * s + 12 * p → a ≠ 94 + 135 * s + 12 * p → (tbI σ (92 + 135 * s + 12 * p) (W.tm t) hh pp).1 a = σ.1 a := by
        intro a h1 h2; unfold tbI; rw [r_w (by omega), r_rI, r_w h1]
      have cR : ∀ a, a ≠ 93 + 135 * s + 12 * p → (tbI σ (92 + 135 * s + 12 * p) (W.tm t) hh pp).2.2.1 a = σ.2.2.1 a := by
        intro a h1; unfold tbI; rw [r_wL, r_r (by omega), r_wL]
      have L : Lc W b s p σ (tbI σ (92 + 135 * s + 12 * p) (W.tm t) hh pp) ρ (rf_w (rf_w ρ 60 (100 * (8 * s + p) + hh) (nI t)) 61 (8 * s + p) (nI (hh + 1))) := by
        refine ⟨fun a q => cI a (fun e => q (by unfold prt; omega)) (fun e => q (by unfold prt; omega)), rfl, fun a q => cR a (fun e => q (by unfold prt; omega)), rfl, fun c j hc q => ?_, rfl, fun j => by rw [ro 0 (by omega) (by omega)]⟩
        by_cases c1 : c = 60
        · subst c1
          rw [r60, if_neg]
          rintro rfl
          exact q ⟨.tb hh (by omega), by decide, by decide, fun e => absurd e (by decide)⟩
        · by_cases c2 : c = 61
          · subst c2
            rw [r61, if_neg]
            rintro rfl
            exact q ⟨.ct 61 (by decide), by decide, by decide, fun e => absurd e (by decide)⟩
          · rw [ro c c1 c2]
      have f4 : ∀ j, j < hh → (tbI σ (92 + 135 * s + 12 * p) (W.tm t) hh pp).2.2.1 (93 + 135 * s + 12 * p) (j + 1) = σ.2.2.1 (93 + 135 * s + 12 * p) (j + 1) := by
        intro j hj
        unfold tbI
        rw [r_wL, show 93 + 135 * s + 12 * p = 92 + 135 * s + 12 * p + 1 by omega, r_rk (by omega), r_wL]
      have TB : PTab W s p (tbI σ (92 + 135 * s + 12 * p) (W.tm t) hh pp) (rf_w (rf_w ρ 60 (100 * (8 * s + p) + hh) (nI t)) 61 (8 * s + p) (nI (hh + 1))) := by
        refine ⟨⟨hh + 1, ?_, kk, mm, hk, hm, by rw [ro 70 (by omega) (by omega)]; exact e1, by rw [cI _ (by omega) (by omega)]; exact e2, by rw [ro 43 (by omega) (by omega)]; exact e3, e4, by rw [cI _ (by omega) (by omega)]; exact e5, by rw [cR _ (by omega), ro 42 (by omega) (by omega)]; exact e6, by rw [cR _ (by omega)]; exact e7, by rw [cR _ (by omega)]; exact e8, ?_⟩, ?_⟩
        · have := hB (fun j => (rf_w (rf_w ρ 60 (100 * (8 * s + p) + hh) (nI t)) 61 (8 * s + p) (nI (hh + 1))).1 60 (100 * (8 * s + p) + j)) (fun j hj => by rw [r60, if_neg (by omega)]) (by rw [r60, if_pos rfl])
          rw [r61, if_pos rfl]
          exact this
        · intro i hi
          obtain ⟨j, hj, ej⟩ := e9 i hi
          exact ⟨j, by omega, by rw [f4 j hj, cR _ (by omega)]; exact ej⟩
        · unfold tbI; rw [r_w (by omega), r_rI, r_wk (by decide)]; exact tf
      have P' : PRel W s p (tbI σ (92 + 135 * s + 12 * p) (W.tm t) hh pp) (rf_w (rf_w ρ 60 (100 * (8 * s + p) + hh) (nI t)) 61 (8 * s + p) (nI (hh + 1))) := by
        have G : TGo W W σ (tbI σ (92 + 135 * s + 12 * p) (W.tm t) hh pp) := (L.fr s2 p8 h.R.T).G
        refine ⟨hP.co.fr rfl rfl (by rw [cI _ (by omega) (by omega)]) (cI _ (by omega) (by omega)) (cI _ (by omega) (by omega)) (cI _ (by omega) (by omega)) (fun c h1 h2 => by rw [ro c (by omega) (by omega)]) (fun r _ => by rw [ro 53 (by omega) (by omega)]) (fun i _ => by rw [ro 52 (by omega) (by omega)]), TB, hP.ou.fr G.le (by rw [cI _ (by omega) (by omega)]) (cI _ (by omega) (by omega)) (cR _ (by omega)) (by rw [ro 64 (by omega) (by omega)]) (fun c j hc _ => by rw [ro c (by omega) (by omega)]), hP.ww.fr (by rw [cI _ (by omega) (by omega)]) (cI _ (by omega) (by omega)) (by rw [ro 66 (by omega) (by omega)]) (fun j _ => by rw [ro 65 (by omega) (by omega)]), hP.wt.fr G.le (by rw [cI _ (by omega) (by omega)]) (cR _ (by omega)) (by rw [ro 68 (by omega) (by omega)]) (fun j _ => by rw [ro 67 (by omega) (by omega)]), hP.se.fr (by rw [cI _ (by omega) (by omega)]) (by rw [ro 69 (by omega) (by omega)]), hP.ms.fr G (fun j _ _ => by rw [cR _ (by omega)]) (by rw [ro 38 (by omega) (by omega)]) (by rw [ro 39 (by omega) (by omega)])⟩
      refine ⟨hh, _, _, hlt, B.cq, ec, eq, ⟨by rw [ro 0 (by omega) (by omega)], by rw [ro 54 (by omega) (by omega)], by rw [ro 48 (by omega) (by omega)]⟩, fun a ha => ⟨cI a (by omega) (by omega), cR a (by omega)⟩, rfl, ro, fun K' k1 k2 k3 k4 => ?_⟩
      refine h.part (L.fr s2 p8 h.R.T) P' (L.tm s2 p8 h.R.T) ?_ (fun j _ => L.f j)
      have dec : phA b (rf_w (rf_w ρ 60 (100 * (8 * s + p) + hh) (nI t)) 61 (8 * s + p) (nI (hh + 1))) + 2 ≤ phA b ρ := by
        refine phA_dec (s := s) (p := p) (by rcases h.hs with q | q; exact Or.inl q.1; exact Or.inr q) p8 (fun g hg => ⟨by rw [r61, if_neg hg], by rw [ro 69 (by omega) (by omega)]⟩) ?_
        rw [phG_h (h := hh + 1) (by rw [r61, if_pos rfl]) (by omega), phG_h B.cq hl, ro 69 (by omega) (by omega)]
        omega
      have B' := h.R.bd
      have b1 := B'.n
      have b2 := B'.l
      have b3 := B'.c
      have b4 := B'.s
      unfold phA at dec
      refine ⟨?_, ?_, ?_, ?_⟩
      · omega
      · omega
      · show _ ≤ σ.2.2.2.2.2.1 + _; omega
      · show _ ≤ σ.2.2.2.2.2.2 + _; omega
end Z2_L
