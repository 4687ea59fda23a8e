section Z2_Y8
variable {ρ ρ' ρ0 : rf_S} {L E l : List Nat} {v v' : Nat → Option Nat} {N r : Nat}
theorem kd_lit {k c : Nat} {x : Int32} (e : x = nI k) (hk : k < 10) (hc : c < 10) : x = nI c ↔ k = c := by rw [e]; exact k_eq hk hc
/-- opening -/
theorem QG.opn {y : Nat} (X : QX ρ0 N r v L) (J : QG ρ0 ρ N r v L E) (hy : y < N) (ky : Kn (grQ ρ0 N) r y) : ∃ ρ' E', fq_open (nI y) (nI r) ρ = some ρ' ∧ QG ρ0 ρ' N r v L (E ++ E') ∧ (∀ x, x < N → (grQ ρ0 N).o1 y x → x ∈ L ++ (E ++ E')) ∧ (∀ k x, hq v r k → x < N → (grQ ρ0 N).o2 y k x → x ∈ L ++ (E ++ E')) := by
  have hN := X.Q.n.2
  have hr := X.hr
  have ixy : ∀ {α : Type} (w : Option α), ix (nI y) 112000 w = w := fun w => n_ix (by omega) (by omega)
  have ncl : (nI y).toNatClampNeg = y := n_cl (by omega)
  obtain ⟨k, hk, ek, pk⟩ := q_img X.Q hy
  have kl : ∀ c, c < 10 → (nI k = nI c ↔ k = c) := fun c hc => k_eq hk hc
  have o1k : ∀ x, (grQ ρ0 N).o1 y x → (k = 3 ∧ (ρ0.1 2 y = nI x ∨ ρ0.1 3 y = nI x)) ∨ ((k = 7 ∨ k = 8) ∧ ρ0.1 3 y = nI x) := by
    rintro x ⟨-, -, h⟩
    rw [ek] at h
    rcases h with ⟨q, h⟩ | ⟨q, h⟩
    · exact Or.inl ⟨(kl 3 (by omega)).mp q, h⟩
    · exact Or.inr ⟨q.imp (kl 7 (by omega)).mp (kl 8 (by omega)).mp, h⟩
  have o2k : ∀ a x, (grQ ρ0 N).o2 y a x → k = 8 ∧ ρ0.1 2 y = nI a ∧ ρ0.1 4 y = nI x := by
    rintro a x ⟨-, -, -, h, h2, h4⟩
    rw [ek] at h
    exact ⟨(kl 8 (by omega)).mp h, h2, h4⟩
  unfold fq_open bq_open_0
  rw [ixy, ncl, vl_eq, J.I (by decide) (by decide) (by decide), ek]
  -- the end: opening with a key
  have t55 : ∀ {ρ1 : rf_S} {E1 : List Nat}, QG ρ0 ρ1 N r v L E1 → ∃ ρ' E', bq_open_55 (nI y) (nI r) (nI k) ρ1 = some ρ' ∧ QG ρ0 ρ' N r v L (E1 ++ E') ∧ (∀ a x, hq v r a → x < N → (grQ ρ0 N).o2 y a x → x ∈ L ++ (E1 ++ E')) := by
    intro ρ1 E1 J1
    unfold bq_open_55
    by_cases c8 : k = 8
    · obtain ⟨⟨a, ha, ea⟩, -, pc⟩ := pk (by omega)
      obtain ⟨c, hc, ec⟩ := pc c8
      rw [if_pos (show nI k = (8:Int32) from (kl 8 (by omega)).mpr c8), ixy, ncl, J1.I (c := 2) (by decide) (by decide) (by decide), ea, n_ix (show a < 112000 by omega) (by omega), n_cl (show a < 2147483648 by omega)]
      obtain ⟨m, hm, em, im⟩ := J1.val X ha
      rw [em]
      by_cases cm : r < m
      · rw [if_pos ((n_lt (by omega) (by omega)).mpr cm)]
        refine ⟨ρ1, [], rfl, by rw [List.append_nil]; exact J1, fun a' x h hx ho => ?_⟩
        obtain ⟨-, h2, -⟩ := o2k a' x ho
        rw [ea] at h2
        have ha' : a' < N := ho.2.1
        have := (t_eq hN ha ha').mp h2
        subst this
        have := im.mpr h
        omega
      · rw [if_neg (fun q => cm ((n_lt (by omega) (by omega)).mp q)), ixy, J1.I (c := 4) (by decide) (by decide) (by decide), ec]
        obtain ⟨ρ2, E2, e2, J2, m2⟩ := J1.had X hc (Or.inr ⟨hc, Or.inr (Or.inl ⟨y, a, ky, X.had (im.mp (by omega)), hy, ha, hc, by rw [ek, c8]; rfl, ea, ec⟩)⟩)
        rw [e2, bd1_eq]
        refine ⟨ρ2, E2, rfl, J2, fun a' x h hx ho => ?_⟩
        obtain ⟨-, -, h4⟩ := o2k a' x ho
        rw [ec] at h4
        have := (t_eq hN hc hx).mp h4
        subst this
        exact m2
    · rw [if_neg (show ¬ nI k = (8:Int32) from fun q => c8 ((kl 8 (by omega)).mp q))]
      exact ⟨ρ1, [], rfl, by rw [List.append_nil]; exact J1, fun a' x h hx ho => absurd (o2k a' x ho).1 c8⟩
  -- the second part
  have t25 : ∀ {ρ1 : rf_S} {E1 : List Nat}, QG ρ0 ρ1 N r v L E1 → ∃ ρ' E', bq_open_25 (nI y) (nI r) (nI k) ρ1 = some ρ' ∧ QG ρ0 ρ' N r v L (E1 ++ E') ∧ (∀ x, x < N → (k = 3 ∨ k = 7 ∨ k = 8) → ρ0.1 3 y = nI x → x ∈ L ++ (E1 ++ E')) ∧ (∀ a x, hq v r a → x < N → (grQ ρ0 N).o2 y a x → x ∈ L ++ (E1 ++ E')) := by
    intro ρ1 E1 J1
    unfold bq_open_25
    by_cases ck : k = 3 ∨ k = 7 ∨ k = 8
    · have go : ∀ {w}, bq_open_42 (nI y) (nI r) (nI k) ρ1 = w → (if nI k = (3:Int32) then bq_open_42 (nI y) (nI r) (nI k) ρ1 else (if nI k = (7:Int32) then bq_open_42 (nI y) (nI r) (nI k) ρ1 else (if nI k = (8:Int32) then bq_open_42 (nI y) (nI r) (nI k) ρ1 else bq_open_55 (nI y) (nI r) (nI k) ρ1))) = w := by
        intro w hw
        rw [hw]
        by_cases q3 : nI k = (3:Int32)
        · rw [if_pos q3]
        · rw [if_neg q3]
          by_cases q7 : nI k = (7:Int32)
          · rw [if_pos q7]
          · rw [if_neg q7, if_pos]
            rcases ck with c | c | c
            · exact absurd ((kl 3 (by omega)).mpr c) q3
            · exact absurd ((kl 7 (by omega)).mpr c) q7
            · exact (kl 8 (by omega)).mpr c
      have k3' : 3 ≤ k := by omega
      have k46 : ¬ (k = 4 ∨ k = 6) := by omega
      obtain ⟨-, pb, -⟩ := pk k3'
      obtain ⟨b, hb, eb⟩ := pb k46
      obtain ⟨ρ2, E2, e2, J2, m2⟩ := J1.had X hb (Or.inr ⟨hb, Or.inl ⟨y, ky, hy, hb, by
        rw [ek]
        rcases ck with c | c
        · exact Or.inl ⟨(kl 3 (by omega)).mpr c, Or.inr eb⟩
        · exact Or.inr ⟨c.imp (kl 7 (by omega)).mpr (kl 8 (by omega)).mpr, eb⟩⟩⟩)
      obtain ⟨ρ3, E3, e3, J3, m3⟩ := t55 J2
      refine ⟨ρ3, E2 ++ E3, go ?_, by rw [← List.append_assoc]; exact J3, fun x hx _ q => ?_, by rw [← List.append_assoc E1]; exact m3⟩
      · unfold bq_open_42
        rw [ixy, ncl, J1.I (c := 3) (by decide) (by decide) (by decide), eb, e2, bd1_eq, e3]
      · rw [eb] at q
        have := (t_eq hN hb hx).mp q
        subst this
        rw [← List.append_assoc E1, ← List.append_assoc]
        exact List.mem_append.mpr (Or.inl m2)
    · rw [if_neg (show ¬ nI k = (3:Int32) from fun q => ck (Or.inl ((kl 3 (by omega)).mp q))), if_neg (show ¬ nI k = (7:Int32) from fun q => ck (Or.inr (Or.inl ((kl 7 (by omega)).mp q)))), if_neg (show ¬ nI k = (8:Int32) from fun q => ck (Or.inr (Or.inr ((kl 8 (by omega)).mp q))))]
      obtain ⟨ρ3, E3, e3, J3, m3⟩ := t55 J1
      exact ⟨ρ3, E3, e3, J3, fun x hx q => absurd q ck, m3⟩
  by_cases c3 : k = 3
  · rw [if_pos (show nI k = (3:Int32) from (kl 3 (by omega)).mpr c3), ixy, J.I (c := 2) (by decide) (by decide) (by decide)]
    obtain ⟨⟨a, ha, ea⟩, -, -⟩ := pk (by omega)
    rw [ea]
    obtain ⟨ρ1, E1, e1, J1, m1⟩ := J.had X ha (Or.inr ⟨ha, Or.inl ⟨y, ky, hy, ha, Or.inl ⟨by rw [ek, c3]; rfl, Or.inl ea⟩⟩⟩)
    rw [e1, bd1_eq]
    obtain ⟨ρ2, E2, e2, J2, a2, b2⟩ := t25 J1
    refine ⟨ρ2, E1 ++ E2, e2, by rw [← List.append_assoc]; exact J2, fun x hx ho => ?_, by rw [← List.append_assoc E]; exact b2⟩
    rcases o1k x ho with ⟨-, q | q⟩ | ⟨q, -⟩
    · rw [ea] at q
      have := (t_eq hN ha hx).mp q
      subst this
      rw [← List.append_assoc E, ← List.append_assoc]
      exact List.mem_append.mpr (Or.inl m1)
    · rw [← List.append_assoc E]; exact a2 x hx (Or.inl c3) q
    · omega
  · rw [if_neg (show ¬ nI k = (3:Int32) from fun q => c3 ((kl 3 (by omega)).mp q))]
    obtain ⟨ρ2, E2, e2, J2, a2, b2⟩ := t25 J
    refine ⟨ρ2, E2, e2, J2, fun x hx ho => ?_, b2⟩
    rcases o1k x ho with ⟨q, -⟩ | ⟨q, h⟩
    · exact absurd q c3
    · exact a2 x hx (Or.inr q) h
/-- a use -/
def sl (ρ0 : rf_S) (s y : Nat) : Prop := ∃ k, ρ0.1 1 (s / 3) = nI k ∧ 3 ≤ k ∧ k < 10 ∧ ((s % 3 = 0 ∧ ρ0.1 2 (s / 3) = nI y) ∨ (s % 3 = 1 ∧ ¬ (k = 4 ∨ k = 6) ∧ ρ0.1 3 (s / 3) = nI y) ∨ (s % 3 = 2 ∧ k = 8 ∧ ρ0.1 4 (s / 3) = nI y))
/-- when all parts are there -/
theorem QG.parts {u k : Nat} (X : QX ρ0 N r v L) (J : QG ρ0 ρ N r v L E) (hu : u < N) (hk : k < 10) (ek : ρ0.1 1 u = nI k) (k3 : 3 ≤ k) : ∃ M, M ≤ 1000000000 ∧ fq_partsOf (nI u) ρ = some (nI M, ρ) ∧ (M ≤ r ↔ ∀ z, (grQ ρ0 N).P u z → hq v r z) := by
  have hN := X.Q.n.2
  have ixu : ∀ {α : Type} (w : Option α), ix (nI u) 112000 w = w := fun w => n_ix (by omega) (by omega)
  have ncl : (nI u).toNatClampNeg = u := n_cl (by omega)
  have kl : ∀ c, c < 10 → (nI k = nI c ↔ k = c) := fun c hc => k_eq hk hc
  obtain ⟨k', hk', ek', pk⟩ := q_img X.Q hu
  have := (k_eq hk' hk).mp (ek'.symm.trans ek)
  subst this
  obtain ⟨⟨a, ha, ea⟩, pb, pc⟩ := pk k3
  obtain ⟨ma, hma, ema, ia⟩ := J.val X ha
  have hcc : ¬ (ρ0.1 1 u = 0 ∨ ρ0.1 1 u = 1 ∨ ρ0.1 1 u = 2) := by
    rw [ek]
    rintro (q | q | q)
    · have := (kl 0 (by omega)).mp q; omega
    · have := (kl 1 (by omega)).mp q; omega
    · have := (kl 2 (by omega)).mp q; omega
  unfold fq_partsOf bq_partsOf_0
  rw [ixu, vl_eq, ncl, J.I (c := 1) (by decide) (by decide) (by decide), ek, if_pos (show (3:Int32) ≤ nI k' from (n_le (a := 3) (b := k') (by omega) (by omega)).mpr k3)]
  have t27 : bq_partsOf_27 (nI u) ρ = some (nI ma, ρ) := by
    unfold bq_partsOf_27
    rw [ixu, ncl, J.I (c := 2) (by decide) (by decide) (by decide), ea, n_ix (show a < 112000 by omega) (by omega), n_cl (show a < 2147483648 by omega), ema]
  by_cases c4 : k' = 4 ∨ k' = 6
  · refine ⟨ma, hma, ?_, ?_⟩
    · rcases c4 with rfl | rfl
      · rw [if_pos (show nI 4 = (4:Int32) from rfl), t27]
      · rw [if_neg (show ¬ nI 6 = (4:Int32) by decide), if_pos (show nI 6 = (6:Int32) from rfl), t27]
    · rw [ia]
      refine ⟨?_, ?_⟩
      · rintro h z ⟨-, hz, -, q | ⟨q, -⟩ | ⟨q, -⟩⟩
        · rw [ea] at q; have := (t_eq hN ha hz).mp q; subst this; exact h
        · rw [ek] at q
          exact absurd (c4.imp (kl 4 (by omega)).mpr (kl 6 (by omega)).mpr) q
        · rw [ek] at q; have := (kl 8 (by omega)).mp q; omega
      · intro h; exact h a ⟨hu, ha, hcc, Or.inl ea⟩
  obtain ⟨b, hb, eb⟩ := pb c4
  obtain ⟨mb, hmb, emb, ib⟩ := J.val X hb
  have lat : fq_later (nI a) (nI b) ρ = some (nI (max ma mb), ρ) := by
    unfold fq_later bq_later_0
    rw [n_ix (show a < 112000 by omega) (by omega), vl_eq, n_ix (show b < 112000 by omega) (by omega), vl_eq, n_cl (show a < 2147483648 by omega), n_cl (show b < 2147483648 by omega), ema, emb]
    by_cases c : ma ≤ mb
    · rw [if_pos ((n_le (by omega) (by omega)).mpr c), Nat.max_eq_right c]
    · rw [if_neg (fun q => c ((n_le (by omega) (by omega)).mp q)), Nat.max_eq_left (by omega)]
  have n4 : ¬ nI k' = (4:Int32) := fun q => c4 (Or.inl ((kl 4 (by omega)).mp q))
  have n6 : ¬ nI k' = (6:Int32) := fun q => c4 (Or.inr ((kl 6 (by omega)).mp q))
  rw [if_neg n4, if_neg n6, ixu, ixu, J.I (c := 2) (by decide) (by decide) (by decide), J.I (c := 3) (by decide) (by decide) (by decide), ea, eb, lat, bd2_eq]
  by_cases c8 : k' = 8
  · obtain ⟨c, hc, ec⟩ := pc c8
    obtain ⟨mc, hmc, emc, ic⟩ := J.val X hc
    rw [if_pos (show nI k' = (8:Int32) from (kl 8 (by omega)).mpr c8), ixu, J.I (c := 4) (by decide) (by decide) (by decide), ec, n_ix (show c < 112000 by omega) (by omega), n_cl (show c < 2147483648 by omega), emc, ixu, n_ix (show c < 112000 by omega) (by omega)]
    refine ⟨max (max ma mb) mc, by omega, ?_, ?_⟩
    · by_cases q : mc ≤ max ma mb
      · rw [if_pos ((n_le (by omega) (by omega)).mpr q), Nat.max_eq_left q]
      · rw [if_neg (fun w => q ((n_le (by omega) (by omega)).mp w)), Nat.max_eq_right (by omega)]
    · refine ⟨?_, ?_⟩
      · rintro h z ⟨-, hz, -, q | ⟨-, q⟩ | ⟨-, q⟩⟩
        · rw [ea] at q; have := (t_eq hN ha hz).mp q; subst this; exact ia.mp (by omega)
        · rw [eb] at q; have := (t_eq hN hb hz).mp q; subst this; exact ib.mp (by omega)
        · rw [ec] at q; have := (t_eq hN hc hz).mp q; subst this; exact ic.mp (by omega)
      · intro h
        have h1 := ia.mpr (h a ⟨hu, ha, hcc, Or.inl ea⟩)
        have h2 := ib.mpr (h b ⟨hu, hb, hcc, Or.inr (Or.inl ⟨by rw [ek]; exact fun q => q.elim n4 n6, eb⟩)⟩)
        have h3 := ic.mpr (h c ⟨hu, hc, hcc, Or.inr (Or.inr ⟨by rw [ek]; exact (kl 8 (by omega)).mpr c8, ec⟩)⟩)
        omega
  · rw [if_neg (show ¬ nI k' = (8:Int32) from fun q => c8 ((kl 8 (by omega)).mp q))]
    refine ⟨max ma mb, by omega, rfl, ?_⟩
    refine ⟨?_, ?_⟩
    · rintro h z ⟨-, hz, -, q | ⟨-, q⟩ | ⟨q, -⟩⟩
      · rw [ea] at q; have := (t_eq hN ha hz).mp q; subst this; exact ia.mp (by omega)
      · rw [eb] at q; have := (t_eq hN hb hz).mp q; subst this; exact ib.mp (by omega)
      · rw [ek] at q; exact absurd ((kl 8 (by omega)).mp q) c8
    · intro h
      have h1 := ia.mpr (h a ⟨hu, ha, hcc, Or.inl ea⟩)
      have h2 := ib.mpr (h b ⟨hu, hb, hcc, Or.inr (Or.inl ⟨by rw [ek]; exact fun q => q.elim n4 n6, eb⟩)⟩)
      omega
theorem n_rem3 {s : Nat} (h : s < 2147483648) : nI s - nI s / (3:Int32) * (3:Int32) = nI (s % 3) := by
  rw [show nI s / (3:Int32) = nI (s / 3) from n_div (b := 3) h (by omega), show nI (s / 3) * (3:Int32) = nI (s / 3 * 3) from n_mul _ 3, n_sub (by omega)]
  congr 1; omega
end Z2_Y8
