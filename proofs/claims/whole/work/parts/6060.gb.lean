section Z2_GB
variable {K : Bd} {W W' : Wd} {b : Bool} {k s p : Nat} {σ σ' : cl_S} {ρ ρ' : rf_S}
/-- the config that is not in use changes alone -/
theorem Rel.rd (h : Rel K W b k σ ρ) (K1 : Kf (362 - W.cf) (cl_wr σ (362 - W.cf) 12 (some 29)) σ' ρ ρ') : Rel K W b k σ' ρ' := by
  have hcf := h.cf.cf
  have cI : ∀ a, (a < 362 - W.cf ∨ 362 - W.cf + 9 < a) → σ'.1 a = σ.1 a := fun a ha => K1.I a ha
  have c2 : σ'.2 = (cl_wr σ (362 - W.cf) 12 (some 29)).2 := K1.c2
  have cL : σ'.2.1 = σ.2.1 := by rw [c2]; rfl
  have cT : σ'.2.2.2 = σ.2.2.2 := by rw [c2]; rfl
  have cR : ∀ a, a ≠ 362 - W.cf → σ'.2.2.1 a = σ.2.2.1 a := fun a ha => by rw [c2]; exact r_r ha
  have hq : ∀ c, c ≠ 0 → c < 77 → ρ'.1 c = ρ.1 c := fun c h1 h2 => K1.q c h1 (by omega)
  have hf : ∀ j, use j → ρ'.1 0 j = ρ.1 0 j := fun j hj => by unfold use at hj; exact K1.i j (by omega) (by omega)
  have hl : ρ'.2 = ρ.2 := K1.l
  have sm : SmT σ σ' := ⟨fun a ha => ⟨cI a (by omega), cR a (by omega)⟩, cT⟩
  have lo : ∀ a, pt W.ts a → (30 < a ∧ a < 38) ∨ 324 < a := by
    intro a ha
    rcases ha with rfl | ha
    · omega
    · have := h.T.C.mem a ha; omega
  have G : TGo W W σ σ' := ⟨Wd.le.refl W, fun a ha j _ => by rw [(sm.r a (lo a ha)).1], fun a ha j _ _ => by rw [(sm.r a (lo a ha)).2], h.T.L.inm, fun b _ => by rw [sm.t], by rw [sm.t]; exact Nat.le_refl _⟩
  have np8 := h.cf.np.1
  have M : ∀ s, s < 2 → MRel W s σ ρ → MRel W s σ' ρ' := by
    intro s hs m
    have s01 : s = 0 ∨ s = 1 := by omega
    refine m.fr (Wd.le.refl W) hs (fun p hp => (m.pr p hp).fr G (fun i hi => cI _ (by omega)) (fun i hi => cR _ (by omega)) (fun c j w => ?_)) (fun j hj => by rw [cI _ (by omega)]) (fun e => by rw [cI 179 (by omega)]) (by rw [cR _ (by omega)]) (fun a h1 h2 => ⟨cI a (by omega), cR a (by omega)⟩) (cI _ (by omega)) (cR _ (by omega)) (fun c h1 h2 => by rw [hq c (by omega) (by omega)]) (fun _ => hf 54 (by unfold use; omega)) (fun j _ _ => by rw [hq 71 (by omega) (by omega)]) (fun c j hc _ _ => by rw [hq c (by omega) (by omega)]) (fun c j hc _ _ => by rw [hq c (by omega) (by omega)])
    have := w.out
    rw [hq c (by omega) (by omega)]
  refine ⟨h.T.sm sm (fun c h1 h2 => hq c (by omega) (by omega)) (fun j hj => hf j (by unfold use; omega)), h.st.fr (cR 19 (by omega)) (fun s' hs' => ⟨cR _ (by omega), cR _ (by omega), by rw [cR _ (by omega)]⟩) (fun a _ => by rw [cT]) (fun s' p' hs' hp' => ⟨by rw [cI _ (by omega)], fun j hj => by rw [cI _ (by omega)]⟩) (by rw [cI 179 (by omega)]; exact h.st.re), h.cf.fr (Wd.le.refl W) (fun i hi => cI _ (by omega)) (fun c h1 h2 => hq c (by omega) (by omega)) (fun j hj => hf j (by unfold use; omega)), M 0 (by omega) h.m0, fun e => M 1 (by omega) (h.m1 e), h.oA.fr (fun a ha => cI a (by omega)) (fun c h1 h2 => hq c (by omega) (by omega)) (fun j hj => hf j (by unfold use; omega)), ?_, ?_, h.n0, h.nm.fr (by rw [cL]) (by rw [hl]) (hq 14 (by omega) (by omega)) (hq 15 (by omega) (by omega)), fun e => (h.fz e).fr rfl (fun c j h1 h2 _ => by rw [hq c (by omega) (by omega)]) (hf 110 (by unfold use; omega)) (hf 78 (by unfold use; omega))⟩
  · obtain ⟨⟨hh, B⟩, a2, a3, a4, a5, ⟨m, m1, m2, m3, E, m4, m5⟩, a7, a8⟩ := h.oB
    refine ⟨⟨hh, B.fr G (cI 38 (by omega)) (cR _ (by omega)) (cI 40 (by omega)) (fun j _ => by rw [hq 76 (by omega) (by omega)]) (hf 110 (by unfold use; omega))⟩, by rw [cI 38 (by omega)]; exact a2, by rw [cI 45 (by omega), cR 46 (by omega), hq 40 (by omega) (by omega), hq 41 (by omega) (by omega)]; exact a3, ?_, by rw [cI 47 (by omega), hf 51 (by unfold use; omega)]; exact a5, ⟨m, by rw [cI 0 (by omega)]; exact m1, by rw [hf 52 (by unfold use; omega)]; exact m2, by rw [hf 51 (by unfold use; omega)]; exact m3, E, by rw [hf 18 (by unfold use; omega)]; exact m4, m5⟩, by rw [cI 47 (by omega), hf 53 (by unfold use; omega)]; exact a7, by rw [cR 0 (by omega)]; exact a8⟩
    rw [cI 47 (by omega), hf 78 (by unfold use; omega), cI 79 (by omega), cI 80 (by omega), cI 81 (by omega), cR 82 (by omega), hq 44 (by omega) (by omega), hq 45 (by omega) (by omega), hq 46 (by omega) (by omega), hq 47 (by omega) (by omega), hq 48 (by omega) (by omega)]
    exact a4
  · have B := h.bd
    have e : ∀ s', phi s' ρ' = phi s' ρ := fun s' => phi_eq (fun g => by rw [hq 61 (by omega) (by omega)]) (fun g => by rw [hq 69 (by omega) (by omega)])
    exact ⟨by rw [e, e]; exact B.n, by rw [e, e]; exact B.l, by rw [cT]; exact B.c, by rw [cT]; exact B.s⟩
/-- the images: too large or none -/
theorem bt_imgs {sp n : Nat} {sz len : Nat → Nat} (hn : n ≤ 8) (cp : σ.2.2.1 0 13 = some sp) (c0 : σ.1 sp 0 = nI n) (q6 : ρ.1 79 196 = nI n) (hv : ∀ q, q < n → σ.1 (sp + 2) q = nI (sz q) ∧ ρ.1 79 (3 * q + 1) = nI (sz q) ∧ sz q ≤ 2048) (hl : ∀ q, q < 8 → len q ≤ 2048 ∧ σ.1 30 q = nI (len q) ∧ ρ.1 27 q = nI (len q)) : ∀ m p, n - p = m → p ≤ n →
    (lp (fun z : (Int32 × cl_S) => lc_X11_boot_66 0 z.1 z.2) (nI p, σ) = some (.inr (nI n, σ)) ∧ lp (fun z : (Int32 × rf_S) => lq_boot_47 z.1 z.2) (nI p, ρ) = some (.inr (nI n, ρ)) ∧ ∀ q, p ≤ q → q < n → 0 < len q ∧ len q ≤ sz q) ∨
    (∃ v, lp (fun z : (Int32 × cl_S) => lc_X11_boot_66 0 z.1 z.2) (nI p, σ) = some (.inl (v, σ)) ∧ lp (fun z : (Int32 × rf_S) => lq_boot_47 z.1 z.2) (nI p, ρ) = some (.inl (v, ρ))) := by
  have x96 : ∀ {α : Type} (z : Option α), ix (196:Int32) 200 z = z := fun z => n_ix (a := 196) (by omega) (by omega)
  intro m
  induction m with
  | zero =>
    intro p hm hp
    have : p = n := by omega
    subst this
    left
    have e1 : lc_X11_boot_66 0 (nI p) σ = some (.inr (.inr (nI p, σ))) := by
      unfold lc_X11_boot_66
      rw [vln, cp, nnn, c0, if_pos ((n_le (by omega) (by omega)).mpr (Nat.le_refl _))]
    have e2 : lq_boot_47 (nI p) ρ = some (.inr (.inr (nI p, ρ))) := by
      unfold lq_boot_47
      rw [x96, show ρ.1 79 (196:Int32).toNatClampNeg = nI p from q6, if_pos ((n_le (by omega) (by omega)).mpr (Nat.le_refl _))]
    exact ⟨lp_end (s := (nI p, σ)) e1, lp_end (s := (nI p, ρ)) e2, fun q h1 h2 => absurd h2 (by omega)⟩
  | succ m ih =>
    intro p hm hp
    obtain ⟨l0, l1, l2⟩ := hl p (by omega)
    obtain ⟨v1, v2, v3⟩ := hv p (by omega)
    have t3 : (3:Int32) * nI p = nI (3 * p) := n_mul 3 p
    have t4 : nI (3 * p) + (1:Int32) = nI (3 * p + 1) := n_add _ 1
    have t1 : nI p + (1:Int32) = nI (p + 1) := n_add p 1
    have cp' : (nI p).toNatClampNeg = p := n_cl (by omega)
    have i10 : ∀ {α : Type} (z : Option α), ix (nI p) 10 z = z := fun z => n_ix (by omega) (by omega)
    have i8 : ∀ {α : Type} (z : Option α), ix (nI p) 8 z = z := fun z => n_ix (by omega) (by omega)
    have i4 : ∀ {α : Type} (z : Option α), ix (nI (3 * p + 1)) 200 z = z := fun z => n_ix (by omega) (by omega)
    have hc : lc_X11_boot_66 0 (nI p) σ = if nI (len p) = 0 then some (.inr (.inl ((-20:Int32) - nI p, σ))) else if nI (len p) ≤ nI (sz p) then some (.inl (nI (p + 1), σ)) else some (.inr (.inl ((-20:Int32) - nI p, σ))) := by
      unfold lc_X11_boot_66
      rw [vln, cp, nnn, c0, if_neg (fun w => by have := (n_le (by omega) (by omega)).mp w; omega), i10, i10, vln, nnn, i8, cp', l1, v1, vln, t1]
    have hq : lq_boot_47 (nI p) ρ = if nI (len p) = 0 then some (.inr (.inl ((-20:Int32) - nI p, ρ))) else if nI (len p) ≤ nI (sz p) then some (.inl (nI (p + 1), ρ)) else some (.inr (.inl ((-20:Int32) - nI p, ρ))) := by
      unfold lq_boot_47
      rw [x96, show ρ.1 79 (196:Int32).toNatClampNeg = nI n from q6, if_neg (fun w => by have := (n_le (by omega) (by omega)).mp w; omega), i10, i10, t3, t4, i4, cp', n_cl (show 3 * p + 1 < 2147483648 by omega), l2, v2, vln, t1]
    by_cases w0 : nI (len p) = 0
    · rw [if_pos w0] at hc hq
      exact Or.inr ⟨_, lp_end (s := (nI p, σ)) hc, lp_end (s := (nI p, ρ)) hq⟩
    by_cases w1 : nI (len p) ≤ nI (sz p)
    · rw [if_neg w0, if_pos w1] at hc hq
      have h0 : 0 < len p := by
        rcases Nat.eq_zero_or_pos (len p) with z | z
        · rw [z] at w0; exact absurd rfl w0
        · exact z
      have h1 : len p ≤ sz p := (n_le (by omega) (by omega)).mp w1
      rcases ih (p + 1) (by omega) (by omega) with ⟨g1, g2, g3⟩ | ⟨v, g1, g2⟩
      · refine Or.inl ⟨by rw [lp_next (s := (nI p, σ)) hc]; exact g1, by rw [lp_next (s := (nI p, ρ)) hq]; exact g2, fun q a1 a2 => ?_⟩
        by_cases c : q = p
        · subst c; exact ⟨h0, h1⟩
        · exact g3 q (by omega) a2
      · exact Or.inr ⟨v, by rw [lp_next (s := (nI p, σ)) hc]; exact g1, by rw [lp_next (s := (nI p, ρ)) hq]; exact g2⟩
    · rw [if_neg w0, if_neg w1] at hc hq
      exact Or.inr ⟨_, lp_end (s := (nI p, σ)) hc, lp_end (s := (nI p, ρ)) hq⟩
end Z2_GB
