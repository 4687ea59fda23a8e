section Z2_Y2
variable {n0 : Nat} {σ : cl_S} {ρ : rf_S} {ts : List Nat} {tm : Nat → Nat} {N : Nat}
theorem lt33 (C : CSt σ ts) {a : Nat} (h : a ∈ ts) : a ≠ 33 := fun q => by have := (C.mem a h).1; omega
/-- a term on both sides -/
theorem img (T : TermR n0 σ ρ ts tm N) {t : Nat} (ht : t < N) : ∃ k, k < 10 ∧ ρ.1 1 t = nI k ∧ σ.1 (tm t) 0 = nI k ∧ ((k < 3 ∧ σ.2.2.1 (tm t) 3 = some 33 ∧ σ.2.2.1 (tm t) 4 = some 33 ∧ σ.2.2.1 (tm t) 5 = some 33) ∨ (3 ≤ k ∧ (∃ a, a < N ∧ ρ.1 2 t = nI a ∧ σ.2.2.1 (tm t) 3 = some (tm a)) ∧ (((k = 4 ∨ k = 6) ∧ σ.2.2.1 (tm t) 4 = some 33) ∨ (¬ (k = 4 ∨ k = 6) ∧ ∃ b, b < N ∧ ρ.1 3 t = nI b ∧ σ.2.2.1 (tm t) 4 = some (tm b))) ∧ ((k ≠ 8 ∧ σ.2.2.1 (tm t) 5 = some 33) ∨ (k = 8 ∧ ∃ c, c < N ∧ ρ.1 4 t = nI c ∧ σ.2.2.1 (tm t) 5 = some (tm c))))) := by
  obtain ⟨E, e1, e2, e3⟩ := T.Q.e
  obtain ⟨k, hk, ek, sh⟩ := e3 t ht
  have ec : σ.1 (tm t) 0 = nI k := by rw [T.L.kd t ht, ek]
  obtain ⟨k', hk', ek', shc, -⟩ := T.C.kd (tm t) (T.L.inm t ht)
  have kk : k' = k := (n_eq (by omega) (by omega)).mp (ek'.symm.trans ec)
  subst kk
  refine ⟨k', hk, ek, ec, ?_⟩
  unfold shp at shc
  by_cases c : k' < 3
  · rw [if_pos c] at shc
    exact Or.inl ⟨c, shc⟩
  rw [if_neg c] at shc
  refine Or.inr ⟨by omega, ?_⟩
  unfold rsh at sh
  rw [if_neg (by omega), if_neg (by omega), if_neg (by omega)] at sh
  obtain ⟨⟨a, ea, ha⟩, sb, sc⟩ := sh
  refine ⟨⟨a, by omega, ea, T.L.pa t k' a ht (by omega) hk ek ea (by omega)⟩, ?_, ?_⟩
  · by_cases c4 : k' = 4 ∨ k' = 6
    · rw [if_pos c4] at shc
      exact Or.inl ⟨c4, shc.2.1⟩
    · rw [if_neg c4] at sb
      obtain ⟨b, eb, hb⟩ := sb
      exact Or.inr ⟨c4, b, by omega, eb, T.L.pb t k' b ht (by omega) hk (by omega) (by omega) ek eb (by omega)⟩
  · by_cases c8 : k' = 8
    · rw [if_pos c8] at sc
      obtain ⟨c', ec', hc'⟩ := sc
      subst c8
      exact Or.inr ⟨rfl, c', by omega, ec', T.L.pc t c' ht ek ec' (by omega)⟩
    · refine Or.inl ⟨c8, ?_⟩
      by_cases c4 : k' = 4 ∨ k' = 6
      · rw [if_pos c4] at shc; exact shc.2.2
      · rw [if_neg c4, if_neg c8] at shc; exact shc.2.2
theorem k_eq {k c : Nat} (hk : k < 10) (hc : c < 10) : nI k = nI c ↔ k = c := n_eq (by omega) (by omega)
theorem t_eq (hN : N ≤ 112000) {a b : Nat} (ha : a < N) (hb : b < N) : nI a = nI b ↔ a = b := n_eq (by omega) (by omega)
/-- what the reference knows the class knows -/
theorem kn_q (T : TermR n0 σ ρ ts tm N) : ∀ r t, Kn (grQ ρ N) r t → Kn (grC σ ts) r (tm t) := by
  have hN := T.Q.n.2
  intro r
  induction r with
  | zero =>
    rintro t ⟨ht, -, hb⟩
    have ht : t < N := ht
    refine ⟨T.L.inm t ht, T.L.inm t ht, ?_⟩
    rw [(T.L.told t ht).1, T.L.kd t ht]; exact hb
  | succ r ih =>
    rintro t (h | ⟨ht, h⟩)
    · exact Or.inl (ih t h)
    have ht : t < N := ht
    refine Or.inr ⟨T.L.inm t ht, ?_⟩
    rcases h with ⟨y, ky, hy, -, ho⟩ | ⟨y, k, ky, kk, hy, hk, -, h8, h2, h4⟩ | ⟨⟨-, hc⟩, hP⟩
    · refine Or.inl ⟨tm y, ih y ky, T.L.inm y hy, ?_⟩
      obtain ⟨k, hk, ek, ec, w⟩ := img T hy
      rw [ek] at ho
      rw [ec]
      rcases w with ⟨w, -⟩ | ⟨w, ⟨a, ha, ea, ra⟩, wb, wc⟩
      · exfalso
        rcases ho with ⟨q, -⟩ | ⟨q | q, -⟩
        · have := (k_eq (c := 3) hk (by omega)).mp q; omega
        · have := (k_eq (c := 7) hk (by omega)).mp q; omega
        · have := (k_eq (c := 8) hk (by omega)).mp q; omega
      have nb : (k = 3 ∨ k = 7 ∨ k = 8) → ρ.1 3 y = nI t → σ.2.2.1 (tm y) 4 = some (tm t) := by
        intro c q
        rcases wb with ⟨c4, -⟩ | ⟨-, b, hb, eb, rb⟩
        · omega
        · rw [rb, (t_eq hN hb ht).mp (eb.symm.trans q)]
      rcases ho with ⟨q, q2 | q2⟩ | ⟨q, q2⟩
      · exact Or.inl ⟨q, Or.inl (by rw [ra, (t_eq hN ha ht).mp (ea.symm.trans q2)])⟩
      · exact Or.inl ⟨q, Or.inr (nb (Or.inl ((k_eq (c := 3) hk (by omega)).mp q)) q2)⟩
      · refine Or.inr ⟨q, nb ?_ q2⟩
        rcases q with q | q
        · exact Or.inr (Or.inl ((k_eq (c := 7) hk (by omega)).mp q))
        · exact Or.inr (Or.inr ((k_eq (c := 8) hk (by omega)).mp q))
    · refine Or.inr (Or.inl ⟨tm y, tm k, ih y ky, ih k kk, T.L.inm y hy, ?_⟩)
      obtain ⟨kd, hkd, ek, ec, w⟩ := img T hy
      rw [ek] at h8
      have k8 : kd = 8 := (k_eq (c := 8) hkd (by omega)).mp h8
      subst k8
      rcases w with ⟨w, -⟩ | ⟨w, ⟨a, ha, ea, ra⟩, wb, wc⟩
      · omega
      rcases wc with ⟨w8, -⟩ | ⟨-, c, hc, ec', rc⟩
      · exact absurd rfl w8
      exact ⟨ec, by rw [ra, (t_eq hN ha hk).mp (ea.symm.trans h2)], by rw [rc, (t_eq hN hc ht).mp (ec'.symm.trans h4)]⟩
    · refine Or.inr (Or.inr ?_)
      obtain ⟨kd, hkd, ek, ec, w⟩ := img T ht
      rw [ek] at hc
      rcases w with ⟨w, -⟩ | ⟨w, ⟨a, ha, ea, ra⟩, wb, wc⟩
      · exfalso
        refine hc ?_
        have : kd = 0 ∨ kd = 1 ∨ kd = 2 := by omega
        rcases this with rfl | rfl | rfl
        · exact Or.inl rfl
        · exact Or.inr (Or.inl rfl)
        · exact Or.inr (Or.inr rfl)
      have hcc : ¬ (ρ.1 1 t = 0 ∨ ρ.1 1 t = 1 ∨ ρ.1 1 t = 2) := by rw [ek]; exact hc
      refine ⟨⟨T.L.inm t ht, ?_⟩, ?_⟩
      · rw [ra]; intro q; exact lt33 T.C (T.L.inm a ha) (Option.some.inj q)
      rintro z ⟨-, z33, hz⟩
      rcases hz with hz | hz | hz
      · rw [ra] at hz; cases hz
        exact ih a (hP a ⟨ht, ha, hcc, Or.inl ea⟩)
      · rcases wb with ⟨-, w4⟩ | ⟨n4, b, hb, eb, rb⟩
        · rw [w4] at hz; cases hz; exact absurd rfl z33
        · rw [rb] at hz; cases hz
          exact ih b (hP b ⟨ht, hb, hcc, Or.inr (Or.inl ⟨by rw [ek]; exact fun q => n4 (q.imp (k_eq (c := 4) hkd (by omega)).mp (k_eq (c := 6) hkd (by omega)).mp), eb⟩)⟩)
      · rcases wc with ⟨-, w5⟩ | ⟨k8, c, hc', ec', rc⟩
        · rw [w5] at hz; cases hz; exact absurd rfl z33
        · rw [rc] at hz; cases hz
          exact ih c (hP c ⟨ht, hc', hcc, Or.inr (Or.inr ⟨by rw [ek, k8]; rfl, ec'⟩)⟩)
/-- the parts of an image are images -/
theorem img_part (T : TermR n0 σ ρ ts tm N) {u y : Nat} (hu : u < N) (hy : y ∈ ts) (h : σ.2.2.1 (tm u) 3 = some y ∨ σ.2.2.1 (tm u) 4 = some y ∨ σ.2.2.1 (tm u) 5 = some y) : ∃ a, a < N ∧ tm a = y := by
  have y33 := lt33 T.C hy
  have no : ∀ {z : Option Nat}, z = some 33 → z = some y → False := fun e1 e2 => y33 (Option.some.inj (e2.symm.trans e1))
  obtain ⟨k, hk, ek, ec, w⟩ := img T hu
  rcases w with ⟨w, w3, w4, w5⟩ | ⟨w, ⟨a, ha, ea, ra⟩, wb, wc⟩
  · rcases h with h | h | h
    · exact (no w3 h).elim
    · exact (no w4 h).elim
    · exact (no w5 h).elim
  rcases h with h | h | h
  · exact ⟨a, ha, Option.some.inj (ra.symm.trans h)⟩
  · rcases wb with ⟨-, w4⟩ | ⟨-, b, hb, eb, rb⟩
    · exact (no w4 h).elim
    · exact ⟨b, hb, Option.some.inj (rb.symm.trans h)⟩
  · rcases wc with ⟨-, w5⟩ | ⟨-, c, hc, ec', rc⟩
    · exact (no w5 h).elim
    · exact ⟨c, hc, Option.some.inj (rc.symm.trans h)⟩
theorem o1_part {y x : Nat} (h : (grC σ ts).o1 y x) : y ∈ ts ∧ (σ.2.2.1 y 3 = some x ∨ σ.2.2.1 y 4 = some x ∨ σ.2.2.1 y 5 = some x) := by
  obtain ⟨hy, ⟨-, h | h⟩ | ⟨-, h⟩⟩ := h
  · exact ⟨hy, Or.inl h⟩
  · exact ⟨hy, Or.inr (Or.inl h)⟩
  · exact ⟨hy, Or.inr (Or.inl h)⟩
/-- what only the class has is known by its parts -/
theorem kn_x (T : TermR n0 σ ρ ts tm N) : ∀ r y, Kn (grC σ ts) r y → (∀ t, t < N → tm t ≠ y) → ∀ z, (grC σ ts).P y z → Kn (grC σ ts) r z := by
  intro r
  induction r with
  | zero =>
    rintro y ⟨-, hy, hb⟩ hx z ⟨-, z33, hz⟩
    exfalso
    obtain ⟨k, hk, ek, sh, -⟩ := T.C.kd y hy
    rw [ek] at hb
    have k2 : k < 3 := by
      rcases hb with q | q | q
      · exact absurd (T.L.tex y hy hx) q
      · have := (k_eq (c := 0) hk (by omega)).mp q; omega
      · have := (k_eq (c := 1) hk (by omega)).mp q; omega
    unfold shp at sh
    rw [if_pos k2] at sh
    obtain ⟨s3, s4, s5⟩ := sh
    rcases hz with q | q | q
    · rw [s3] at q; cases q; exact z33 rfl
    · rw [s4] at q; cases q; exact z33 rfl
    · rw [s5] at q; cases q; exact z33 rfl
  | succ r ih =>
    rintro y (h | ⟨hV, h⟩) hx z hz
    · exact Or.inl (ih y h hx z hz)
    have hV : y ∈ ts := hV
    have via : ∀ y', Kn (grC σ ts) r y' → y' ∈ ts → (σ.2.2.1 y' 3 = some y ∨ σ.2.2.1 y' 4 = some y ∨ σ.2.2.1 y' 5 = some y) → Kn (grC σ ts) r z := by
      intro y' k' m' p'
      have ex : ∀ t, t < N → tm t ≠ y' := by
        intro u hu q
        subst q
        obtain ⟨a, ha, e⟩ := img_part T hu hV p'
        exact hx a ha e
      exact ih y (ih y' k' ex y ⟨m', lt33 T.C hV, p'⟩) hx z hz
    rcases h with ⟨y', k', ho⟩ | ⟨y', k, k', kk, hm, h8, h3, h5⟩ | ⟨-, hP⟩
    · obtain ⟨m', p'⟩ := o1_part ho
      exact Or.inl (via y' k' m' p')
    · exact Or.inl (via y' k' hm (Or.inr (Or.inr h5)))
    · exact Or.inl (hP z hz)
/-- what the class knows the reference knows -/
theorem kn_c (T : TermR n0 σ ρ ts tm N) : ∀ r t, t < N → Kn (grC σ ts) r (tm t) → Kn (grQ ρ N) r t := by
  have hN := T.Q.n.2
  intro r
  induction r with
  | zero =>
    rintro t ht ⟨-, -, hb⟩
    rw [(T.L.told t ht).1, T.L.kd t ht] at hb
    exact ⟨ht, ht, hb⟩
  | succ r ih =>
    rintro t ht (h | ⟨hV, h⟩)
    · exact Or.inl (ih t ht h)
    have hV : tm t ∈ ts := hV
    have via : ∀ y, Kn (grC σ ts) r y → y ∈ ts → (σ.2.2.1 y 3 = some (tm t) ∨ σ.2.2.1 y 4 = some (tm t) ∨ σ.2.2.1 y 5 = some (tm t)) → (∀ u, u < N → tm u ≠ y) → Kn (grQ ρ N) (r + 1) t := by
      intro y ky my py ex
      exact Or.inl (ih t ht (kn_x T r y ky ex (tm t) ⟨my, lt33 T.C hV, py⟩))
    rcases h with ⟨y, ky, ho⟩ | ⟨y, k, ky, kk, hm, h8, h3, h5⟩ | ⟨⟨-, hc⟩, hP⟩
    · obtain ⟨my, py⟩ := o1_part ho
      by_cases ex : ∀ u, u < N → tm u ≠ y
      · exact via y ky my py ex
      obtain ⟨u, hu, rfl⟩ : ∃ u, u < N ∧ tm u = y := by
        apply Classical.byContradiction
        intro q
        exact ex fun u hu e => q ⟨u, hu, e⟩
      refine Or.inr ⟨ht, Or.inl ⟨u, ih u hu ky, hu, ht, ?_⟩⟩
      obtain ⟨-, ho⟩ := ho
      obtain ⟨k, hk, ek, ec, w⟩ := img T hu
      rw [ec] at ho
      rw [ek]
      rcases w with ⟨w, -⟩ | ⟨w, ⟨a, ha, ea, ra⟩, wb, wc⟩
      · exfalso
        rcases ho with ⟨q, -⟩ | ⟨q | q, -⟩
        · have := (k_eq (c := 3) hk (by omega)).mp q; omega
        · have := (k_eq (c := 7) hk (by omega)).mp q; omega
        · have := (k_eq (c := 8) hk (by omega)).mp q; omega
      have nb : σ.2.2.1 (tm u) 4 = some (tm t) → ρ.1 3 u = nI t := by
        intro q
        rcases wb with ⟨-, w4⟩ | ⟨-, b, hb, eb, rb⟩
        · rw [w4] at q; exact absurd (Option.some.inj q).symm (lt33 T.C hV)
        · rw [rb] at q; rw [eb, T.L.inj b t hb ht (Option.some.inj q)]
      rcases ho with ⟨q, q2 | q2⟩ | ⟨q, q2⟩
      · rw [ra] at q2
        exact Or.inl ⟨q, Or.inl (by rw [ea, T.L.inj a t ha ht (Option.some.inj q2)])⟩
      · exact Or.inl ⟨q, Or.inr (nb q2)⟩
      · exact Or.inr ⟨q, nb q2⟩
    · by_cases ex : ∀ u, u < N → tm u ≠ y
      · exact via y ky hm (Or.inr (Or.inr h5)) ex
      obtain ⟨u, hu, rfl⟩ : ∃ u, u < N ∧ tm u = y := by
        apply Classical.byContradiction
        intro q
        exact ex fun u hu e => q ⟨u, hu, e⟩
      obtain ⟨kd, hk, ek, ec, w⟩ := img T hu
      rw [ec] at h8
      have k8 : kd = 8 := (k_eq (c := 8) hk (by omega)).mp h8
      subst k8
      rcases w with ⟨w, -⟩ | ⟨w, ⟨a, ha, ea, ra⟩, wb, wc⟩
      · omega
      rcases wc with ⟨w8, -⟩ | ⟨-, c, hc, ec', rc⟩
      · exact absurd rfl w8
      rw [ra] at h3
      cases h3
      rw [rc] at h5
      have ct := T.L.inj c t hc ht (Option.some.inj h5)
      subst ct
      exact Or.inr ⟨ht, Or.inr (Or.inl ⟨u, a, ih u hu ky, ih a ha kk, hu, ha, ht, ek, ea, ec'⟩)⟩
    · obtain ⟨kd, hkd, ek, ec, w⟩ := img T ht
      rcases w with ⟨w, w3, -⟩ | ⟨w, ⟨a, ha, ea, ra⟩, wb, wc⟩
      · exact absurd w3 hc
      have hcc : ¬ (ρ.1 1 t = 0 ∨ ρ.1 1 t = 1 ∨ ρ.1 1 t = 2) := by
        rw [ek]
        rintro (q | q | q)
        · have := (k_eq (c := 0) hkd (by omega)).mp q; omega
        · have := (k_eq (c := 1) hkd (by omega)).mp q; omega
        · have := (k_eq (c := 2) hkd (by omega)).mp q; omega
      refine Or.inr ⟨ht, Or.inr (Or.inr ⟨⟨ht, hcc⟩, ?_⟩)⟩
      rintro z ⟨-, hz, -, q⟩
      have pz : σ.2.2.1 (tm t) 3 = some (tm z) ∨ σ.2.2.1 (tm t) 4 = some (tm z) ∨ σ.2.2.1 (tm t) 5 = some (tm z) := by
        rcases q with q | ⟨n4, q⟩ | ⟨n8, q⟩
        · exact Or.inl (by rw [ra, (t_eq hN ha hz).mp (ea.symm.trans q)])
        · rcases wb with ⟨c4, -⟩ | ⟨-, b, hb, eb, rb⟩
          · exfalso
            rw [ek] at n4
            rcases c4 with rfl | rfl
            · exact n4 (Or.inl rfl)
            · exact n4 (Or.inr rfl)
          · exact Or.inr (Or.inl (by rw [rb, (t_eq hN hb hz).mp (eb.symm.trans q)]))
        · rcases wc with ⟨c8, -⟩ | ⟨-, c, hc', ec', rc⟩
          · rw [ek] at n8
            exact absurd ((k_eq (c := 8) hkd (by omega)).mp n8) c8
          · exact Or.inr (Or.inr (by rw [rc, (t_eq hN hc' hz).mp (ec'.symm.trans q)]))
      exact ih z hz (hP (tm z) ⟨hV, lt33 T.C (T.L.inm z hz), pz⟩)
theorem kn_iff (T : TermR n0 σ ρ ts tm N) {t : Nat} (ht : t < N) (r : Nat) : Kn (grC σ ts) r (tm t) ↔ Kn (grQ ρ N) r t := ⟨kn_c T r t ht, kn_q T r t⟩
/-- the two rounds of a term agree -/
theorem rd_both (T : TermR n0 σ ρ ts tm N) {t : Nat} (ht : t < N) {v w : Int32} (hv : rdR (grC σ ts) (-1) v (tm t)) (hw : rdR (grQ ρ N) 1000000000 w t) : (v = -1 ∧ w = 1000000000) ∨ ∃ r, r < 1000000000 ∧ v = nI r ∧ w = nI r := by
  rcases hv with ⟨rfl, hv⟩ | ⟨r, hr, rfl, k1, k2⟩
  · rcases hw with ⟨rfl, -⟩ | ⟨s, -, -, q, -⟩
    · exact Or.inl ⟨rfl, rfl⟩
    · exact absurd ((kn_iff T ht s).mpr q) (hv s)
  · rcases hw with ⟨-, hw⟩ | ⟨s, hs, rfl, q1, q2⟩
    · exact absurd ((kn_iff T ht r).mp k1) (hw r)
    · have : r = s := by
        rcases Nat.lt_trichotomy r s with c | c | c
        · exact absurd ((kn_iff T ht r).mp k1) (q2 r c)
        · exact c
        · exact absurd ((kn_iff T ht s).mpr q1) (k2 s c)
      subst this
      exact Or.inr ⟨r, hr, rfl, rfl⟩
end Z2_Y2
