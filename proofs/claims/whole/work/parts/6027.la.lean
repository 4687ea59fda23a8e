section Z2_LA
variable {K : Bd} {W W' : Wd} {b : Bool} {k s p : Nat} {σ σ' : cl_S} {ρ ρ' : rf_S}
/-- the last of the SECRETS that were asked for comes in -/
theorem sec_fin {W1 : Wd} {τ : cl_S} {τq : rf_S} {hh kk mm t : Nat} (h : Ak K W b k s p σ ρ) (F : Fr (prt s p) (segA W b s p) scr W W1 σ τ ρ τq) (T1 : TermR W1.n0 τ τq W1.ts W1.tm W1.N) (co : PCore W1 s p τ τq) (ou : POut W1 s p τ τq) (ww : PWw s p τ τq) (wt : PWt W1 s p τ τq) (se : PSe s p τ τq) (ms : PMs W1 s p τ τq)
    (B : TabR τ W1.tm W1.N (92 + 135 * s + 12 * p) 100 256 (fun j => τq.1 60 (100 * (8 * s + p) + j)) (τq.1 61 (8 * s + p)) hh) (tf : τ.1 (92 + 135 * s + 12 * p) 2 = 0) (hf : ∀ j, j = 79 ∨ j = 108 ∨ j = 118 ∨ j = 119 ∨ j = 120 → τq.1 0 j = ρ.1 0 j) (kp : Kp s p ρ τq)
    (hk : kk < 100) (hm : mm ≤ 100) (e1 : τq.1 70 (8 * s + p) = nI (kk + 1)) (e2 : τ.1 (83 + 135 * s + 12 * p) 13 = nI (kk + 1)) (e3 : τq.1 43 p = nI mm) (e4 : s = 0 → kk + 1 = mm) (e5 : τ.1 (83 + 135 * s + 12 * p) 12 = nI (max (kk + 1) mm)) (e6 : ∀ i, i < mm → TV W1 (τ.2.2.1 (91 + 135 * s + 12 * p) i) (τq.1 42 (100 * p + i))) (e7 : ∀ i, i < max (kk + 1) mm → ∃ a, a ∈ W1.ts ∧ τ.2.2.1 (91 + 135 * s + 12 * p) i = some a) (e8 : ∀ i j, i < j → j < max (kk + 1) mm → τ.2.2.1 (91 + 135 * s + 12 * p) i ≠ τ.2.2.1 (91 + 135 * s + 12 * p) j) (e9 : ∀ i, i < kk → ∃ j, j < hh ∧ τ.2.2.1 (93 + 135 * s + 12 * p) (j + 1) = τ.2.2.1 (91 + 135 * s + 12 * p) i)
    (et : τ.2.2.1 (91 + 135 * s + 12 * p) kk = some (W1.tm t)) (ht : t < W1.N) (hlt : hh < 100) (r61 : τq.1 61 = ρ.1 61) (r69 : τq.1 69 = ρ.1 69) (rc : σ.2.2.2.2.2.1 + W.ts.length ≤ τ.2.2.2.2.2.1 + W1.ts.length) (rs : σ.2.2.2.2.2.2 + 16 * W.ts.length ≤ τ.2.2.2.2.2.2 + 16 * W1.ts.length)
    (gr : (W1.N = W.N ∧ W1.ts.length = W.ts.length) ∨ (W1.N = W.N + 1 ∧ W1.ts.length ≤ W.ts.length + 1 ∧ ∀ j, j < hh → τq.1 60 (100 * (8 * s + p) + j) ≠ nI t)) :
    Sim (fc_X8_comeIn (92 + 135 * s + 12 * p) (some (W1.tm t)) τ) (fq_comes (nI t) τq) (AkO K W b k s p ρ) := by
  have s2 := h.s2
  have p8 := h.p8
  have hN := T1.Q.n.2
  have at1 : τq.1 0 119 = nI (8 * s + p) := by rw [hf 119 (by omega)]; exact h.at'
  have far : ∀ t, t < W1.N → W1.tm t ≠ 92 + 135 * s + 12 * p ∧ W1.tm t ≠ 92 + 135 * s + 12 * p + 2 := by
    intro t ht
    have := T1.C.mem _ (T1.L.inm t ht)
    omega
  have Bd0 := h.R.bd
  have bn := Bd0.n
  have bl := Bd0.l
  have bc := Bd0.c
  have bs := Bd0.s
  have hq := q_comes at1 (show 8 * s + p < 16 by omega) B.cq B.hl (nI t)
  have hP : p < W1.np := by rw [F.G.le.np]; exact h.hp
  rcases c_comeIn B far T1.L.inj (by omega) ht with ⟨j, hj, ej, ec⟩ | ⟨hno, ⟨h100, ec⟩ | ⟨hlt', pp, ec, hB⟩⟩
  · -- it was there
    have ej' : τq.1 60 (100 * (8 * s + p) + j) = nI t := ej
    rcases gr with gr | ⟨-, -, gr⟩
    rotate_left
    · exact absurd ej' (gr j hj)
    rcases hq with ⟨j', hj', ej2, eq⟩ | ⟨hno', -⟩
    rotate_left
    · exact absurd ej' (hno' j hj)
    have : j' = j := by
      apply Classical.byContradiction
      intro q
      by_cases c : j' < j
      · exact B.nd j' j c hj (ej2.trans ej'.symm)
      · exact B.nd j j' (by omega) hj' (ej'.trans ej2.symm)
    subst this
    refine ⟨_, _, ec, eq, rfl, W1, F.G.le, ?_, kp⟩
    refine h.part F ⟨co, ⟨⟨hh, B, kk + 1, mm, by omega, hm, e1, e2, e3, e4, e5, e6, e7, e8, ?_⟩, tf⟩, ou, ww, wt, se, ms⟩ T1 ?_ hf
    · intro i hi
      by_cases c : i = kk
      · subst c
        obtain ⟨u, hu, eu, er⟩ := B.en j' hj'
        have : u = t := (n_eq (by omega) (by omega)).mp (eu.symm.trans ej')
        subst this
        exact ⟨j', hj', by rw [et]; rw [show 93 + 135 * s + 12 * p = 92 + 135 * s + 12 * p + 1 by omega]; exact er⟩
      · exact e9 i (by omega)
    · have p0 : ∀ s', phi s' τq = phi s' ρ := fun s' => phi_eq (fun g => by rw [r61]) (fun g => by rw [r69])
      refine ⟨by rw [p0, p0]; omega, by rw [p0, p0]; omega, by show _ ≤ τ.2.2.2.2.2.1 + _; omega, by show _ ≤ τ.2.2.2.2.2.2 + _; omega⟩
  · omega
  · rcases hq with ⟨j', hj', ej2, eq⟩ | ⟨-, ⟨q, -⟩ | ⟨-, eq⟩⟩
    · exact absurd ej2 (hno j' hj')
    · omega
    rw [if_pos tf] at ec
    have r60 : ∀ i, (rf_w (rf_w τq 60 (100 * (8 * s + p) + hh) (nI t)) 61 (8 * s + p) (nI (hh + 1))).1 60 i = if i = 100 * (8 * s + p) + hh then nI t else τq.1 60 i := by
      intro i; simp only [g_q, true_and, false_and, if_false, Nat.reduceEqDiff]
    have r61' : ∀ i, (rf_w (rf_w τq 60 (100 * (8 * s + p) + hh) (nI t)) 61 (8 * s + p) (nI (hh + 1))).1 61 i = if i = 8 * s + p then nI (hh + 1) else τq.1 61 i := by
      intro i; simp only [g_q, true_and, false_and, if_false, Nat.reduceEqDiff]
    have ro : ∀ c, c ≠ 60 → c ≠ 61 → (rf_w (rf_w τq 60 (100 * (8 * s + p) + hh) (nI t)) 61 (8 * s + p) (nI (hh + 1))).1 c = τq.1 c := by
      intro c h1 h2; rw [q_w h2, q_w h1]
    have cI : ∀ a, a ≠ 92 + 135 * s + 12 * p → a ≠ 94 + 135 * s + 12 * p → (tbI τ (92 + 135 * s + 12 * p) (W1.tm t) hh pp).1 a = τ.1 a := by
      intro a h1 h2; unfold tbI; rw [r_w (by omega), r_rI, r_w h1]
    have cR : ∀ a, a ≠ 93 + 135 * s + 12 * p → (tbI τ (92 + 135 * s + 12 * p) (W1.tm t) hh pp).2.2.1 a = τ.2.2.1 a := by
      intro a h1; unfold tbI; rw [r_wL, r_r (by omega), r_wL]
    have L : Lc W1 b s p τ (tbI τ (92 + 135 * s + 12 * p) (W1.tm t) hh pp) τq (rf_w (rf_w τq 60 (100 * (8 * s + p) + hh) (nI t)) 61 (8 * s + p) (nI (hh + 1))) := by
      refine ⟨fun a q => cI a (fun e => q (by unfold prt; omega)) (fun e => q (by unfold prt; omega)), rfl, fun a q => cR a (fun e => q (by unfold prt; omega)), rfl, fun c j hc q => ?_, rfl, fun j => by rw [ro 0 (by omega) (by omega)]⟩
      by_cases c1 : c = 60
      · subst c1
        rw [r60, if_neg]
        rintro rfl
        exact q ⟨.tb hh (by omega), by decide, by decide, fun e => absurd e (by decide)⟩
      · by_cases c2 : c = 61
        · subst c2
          rw [r61', if_neg]
          rintro rfl
          exact q ⟨.ct 61 (by decide), by decide, by decide, fun e => absurd e (by decide)⟩
        · rw [ro c c1 c2]
    have f4 : ∀ j, j < hh → (tbI τ (92 + 135 * s + 12 * p) (W1.tm t) hh pp).2.2.1 (93 + 135 * s + 12 * p) (j + 1) = τ.2.2.1 (93 + 135 * s + 12 * p) (j + 1) := by
      intro j hj
      unfold tbI
      rw [r_wL, show 93 + 135 * s + 12 * p = 92 + 135 * s + 12 * p + 1 by omega, r_rk (by omega), r_wL]
    have f5 : (tbI τ (92 + 135 * s + 12 * p) (W1.tm t) hh pp).2.2.1 (93 + 135 * s + 12 * p) (hh + 1) = some (W1.tm t) := by
      unfold tbI
      rw [r_wL, show 93 + 135 * s + 12 * p = 92 + 135 * s + 12 * p + 1 by omega, r_rs]
    have F2 := L.fr s2 p8 T1
    have G2 := F2.G
    have sg : ∀ c j, segA W1 b s p c j → segA W b s p c j := by
      intro c j q
      unfold segA seg at q ⊢
      rw [F.G.le.sz, F.G.le.bs] at q
      exact q
    have F' : Fr (prt s p) (segA W b s p) scr W W1 σ _ ρ _ := F.trans (F2.wk (fun _ q => q) sg (fun _ q => q))
    refine ⟨_, _, ec, eq, rfl, W1, F.G.le, ?_, kp.trans ⟨by rw [ro 0 (by omega) (by omega)], by rw [ro 54 (by omega) (by omega)], by rw [ro 48 (by omega) (by omega)]⟩⟩
    show Ak K W1 b k s p (tbI τ (92 + 135 * s + 12 * p) (W1.tm t) hh pp) (rf_w (rf_w τq 60 (100 * (8 * s + p) + hh) (nI t)) 61 (8 * s + p) (nI (hh + 1)))
    refine h.part F' ⟨co.fr rfl rfl (by rw [cI _ (by omega) (by omega)]) (cI _ (by omega) (by omega)) (cI _ (by omega) (by omega)) (cI _ (by omega) (by omega)) (fun c h1 h2 => by rw [ro c (by omega) (by omega)]) (fun r _ => by rw [ro 53 (by omega) (by omega)]) (fun i _ => by rw [ro 52 (by omega) (by omega)]), ⟨⟨hh + 1, ?_, kk + 1, mm, by omega, hm, by rw [ro 70 (by omega) (by omega)]; exact e1, by rw [cI _ (by omega) (by omega)]; exact e2, by rw [ro 43 (by omega) (by omega)]; exact e3, e4, by rw [cI _ (by omega) (by omega)]; exact e5, by rw [cR _ (by omega), ro 42 (by omega) (by omega)]; exact e6, by rw [cR _ (by omega)]; exact e7, by rw [cR _ (by omega)]; exact e8, ?_⟩, ?_⟩, ou.fr G2.le (by rw [cI _ (by omega) (by omega)]) (cI _ (by omega) (by omega)) (cR _ (by omega)) (by rw [ro 64 (by omega) (by omega)]) (fun c j hc _ => by rw [ro c (by omega) (by omega)]), ww.fr (by rw [cI _ (by omega) (by omega)]) (cI _ (by omega) (by omega)) (by rw [ro 66 (by omega) (by omega)]) (fun j _ => by rw [ro 65 (by omega) (by omega)]), wt.fr G2.le (by rw [cI _ (by omega) (by omega)]) (cR _ (by omega)) (by rw [ro 68 (by omega) (by omega)]) (fun j _ => by rw [ro 67 (by omega) (by omega)]), se.fr (by rw [cI _ (by omega) (by omega)]) (by rw [ro 69 (by omega) (by omega)]), ms.fr G2 (fun j _ _ => by rw [cR _ (by omega)]) (by rw [ro 38 (by omega) (by omega)]) (by rw [ro 39 (by omega) (by omega)])⟩ (L.tm s2 p8 T1) ?_ (fun j hj => by rw [ro 0 (by omega) (by omega)]; exact hf j hj)
    · have := hB (fun j => (rf_w (rf_w τq 60 (100 * (8 * s + p) + hh) (nI t)) 61 (8 * s + p) (nI (hh + 1))).1 60 (100 * (8 * s + p) + j)) (fun j hj => by rw [r60, if_neg (by omega)]) (by rw [r60, if_pos rfl])
      rw [r61', if_pos rfl]
      exact this
    · intro i hi
      by_cases c : i = kk
      · subst c
        exact ⟨hh, by omega, by rw [f5, cR _ (by omega)]; exact et.symm⟩
      · obtain ⟨j, hj, ej⟩ := e9 i (by omega)
        exact ⟨j, by omega, by rw [f4 j hj, cR _ (by omega)]; exact ej⟩
    · unfold tbI; rw [r_w (by omega), r_rI, r_wk (by decide)]; exact tf
    · have dec : phA b (rf_w (rf_w τq 60 (100 * (8 * s + p) + hh) (nI t)) 61 (8 * s + p) (nI (hh + 1))) + 2 ≤ phA b ρ := by
        refine phA_dec (s := s) (p := p) (by rcases h.hs with q | q; exact Or.inl q.1; exact Or.inr q) p8 (fun g hg => ⟨by rw [r61', if_neg hg, r61], by rw [ro 69 (by omega) (by omega), r69]⟩) ?_
        have c0 : ρ.1 61 (8 * s + p) = nI hh := by rw [← r61]; exact B.cq
        rw [phG_h (h := hh + 1) (by rw [r61', if_pos rfl]) (by omega), phG_h c0 B.hl, ro 69 (by omega) (by omega), r69]
        omega
      unfold phA at dec
      refine ⟨?_, ?_, ?_, ?_⟩
      · rcases gr with gr | gr <;> omega
      · rcases gr with gr | gr <;> omega
      · show _ ≤ τ.2.2.2.2.2.1 + _; omega
      · show _ ≤ τ.2.2.2.2.2.2 + _; omega
/-- what was asked for is in the table: so it is no more than that -/
theorem ask_le {f g : Nat → Option Nat} {n m : Nat} (h : ∀ i, i < n → ∃ j, j < m ∧ g (j + 1) = f i) (hd : ∀ i j, i < j → j < n → f i ≠ f j) : n ≤ m := by
  refine pigeon m n (fun i => if hi : i < n then Classical.choose (h i hi) else 0) ?_ ?_
  · intro i hi
    show (if hi : i < n then Classical.choose (h i hi) else 0) < m
    rw [dif_pos hi]
    exact (Classical.choose_spec (h i hi)).1
  · intro i j hi hj q
    have q' : (if hi : i < n then Classical.choose (h i hi) else 0) = (if hi : j < n then Classical.choose (h j hi) else 0) := q
    rw [dif_pos hi, dif_pos hj] at q'
    have e1 := (Classical.choose_spec (h i hi)).2
    have e2 := (Classical.choose_spec (h j hj)).2
    rw [q'] at e1
    apply Classical.byContradiction
    intro ne
    by_cases c : i < j
    · exact hd i j c hj (e1.symm.trans e2)
    · exact hd j i (by omega) hi (e2.symm.trans e1)
end Z2_LA
