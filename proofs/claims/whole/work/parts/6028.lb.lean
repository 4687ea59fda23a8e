section Z2_LB
variable {K : Bd} {W W' : Wd} {b : Bool} {k s p : Nat} {σ σ' : cl_S} {ρ ρ' : rf_S}
theorem ask_secret (v : KV K) (h : Ak K W b k s p σ ρ) : Sim (fc_X6_askSecret (83 + 135 * s + 12 * p) σ) (fq_newSecret ρ) (AkO K W b k s p ρ) := by
  have s2 := h.s2
  have p8 := h.p8
  have hP := h.P
  obtain ⟨r1, r2, r3⟩ := h.room v
  obtain ⟨⟨hh, B, kk, mm, hk, hm, e1, e2, e3, e4, e5, e6, e7, e8, e9⟩, tf⟩ := hP.tb
  have hl := B.hl
  have a8 : 83 + 135 * s + 12 * p + 8 = 91 + 135 * s + 12 * p := by omega
  have a9 : 83 + 135 * s + 12 * p + 9 = 92 + 135 * s + 12 * p := by omega
  have kh : kk ≤ hh := ask_le e9 (fun i j h1 h2 => e8 i j h1 (by omega))
  have ext : ∀ {x : Option (Int32 × cl_S)} {y : Option (Int32 × rf_S)} {P : Int32 × cl_S → Int32 × rf_S → Prop}, Sim x y P → Sim (bd2 x (fun r σ => some (r, σ))) (bd2 y (fun r ρ => some (r, ρ))) P := fun q => Sim.bd2 q (fun _ _ _ _ q => Sim.mk q)
  have f100 : (ρ.1 61 (8 * s + p) = (100:Int32) ↔ hh = 100) := by
    rw [B.cq, show (100:Int32) = nI 100 from rfl, n_eq (by omega) (by omega)]
  unfold fc_X6_askSecret bc_X6_askSecret_0 bc_X6_askSecret_59 fc_X8_isFull bc_X8_isFull_0 fq_newSecret bq_newSecret_0 bq_newSecret_80 bq_newSecret_137
  simp only [vl_eq]
  rw [a9, B.cc, B.lm, h.at', n_ix (show 8 * s + p < 16 by omega) (by omega), n_cl (show 8 * s + p < 2147483648 by omega)]
  by_cases q : hh = 100
  · rw [if_neg (fun w => by have := (n_lt (by omega) (by omega)).mp w; omega), bd2_eq, if_neg (by decide), if_pos (f100.mpr q)]
    exact Sim.mk (AkO.same h _)
  have l1 : nI hh < nI 100 := (n_lt (by omega) (by omega)).mpr (by omega)
  have l2 : nI kk < (100:Int32) := (n_lt (a := kk) (b := 100) (by omega) (by omega)).mpr (by omega)
  have k1 : nI kk + (1:Int32) = nI (kk + 1) := n_add kk 1
  have k2 : nI (kk + 1) - (1:Int32) = nI kk := n_sub (a := kk + 1) (b := 1) (by omega)
  rw [if_pos l1, bd2_eq, if_pos rfl, e2, if_pos l2, e5, if_neg (fun w => q (f100.mp w)), n_ix (show 8 * s + p < 16 by omega) (by omega), e1, n_ix (show 8 * s + p < 16 by omega) (by omega), n_ix (show 8 * s + p < 16 by omega) (by omega), k1]
  have sd2 : (rf_w ρ 70 (8 * s + p) (nI (kk + 1))).1 0 79 = nI s := by rw [q_w (by decide)]; exact h.sd
  have me2 : (rf_w ρ 70 (8 * s + p) (nI (kk + 1))).1 0 118 = nI p := by rw [q_w (by decide)]; exact h.me
  have c43 : (rf_w ρ 70 (8 * s + p) (nI (kk + 1))).1 43 p = nI mm := by rw [q_w (by decide)]; exact e3
  have q70 : ∀ c, c ≠ 70 → (rf_w ρ 70 (8 * s + p) (nI (kk + 1))).1 c = ρ.1 c := fun c hc => q_w hc
  have q70s : (rf_w ρ 70 (8 * s + p) (nI (kk + 1))).1 70 (8 * s + p) = nI (kk + 1) := q_ws
  have q70o : ∀ j, j ≠ 8 * s + p → (rf_w ρ 70 (8 * s + p) (nI (kk + 1))).1 70 j = ρ.1 70 j := fun j hj => q_wk hj
  have q702 : (rf_w ρ 70 (8 * s + p) (nI (kk + 1))).2 = ρ.2 := rfl
  generalize (rf_w ρ 70 (8 * s + p) (nI (kk + 1))) = ρ2 at sd2 me2 c43 q70 q70s q70o q702 ⊢
  rw [sd2, me2, n_ix p8 (by omega), n_cl (show p < 2147483648 by omega), c43]
  have T2 : TermR W.n0 σ ρ2 W.ts W.tm W.N := h.R.T.sm ⟨fun _ _ => ⟨rfl, rfl⟩, rfl⟩ (fun c h1 h2 => q70 c (by omega)) (fun j _ => by rw [q70 0 (by omega)])
  by_cases lst : s = 1 ∧ kk < mm
  · -- one of those that it had
    obtain ⟨rfl, hkm⟩ := lst
    have mx : max kk mm = mm := by omega
    rw [mx] at e5 e7 e8 ⊢
    have l3 : nI kk < nI mm := (n_lt (by omega) (by omega)).mpr hkm
    have l4 : ¬ nI mm ≤ nI kk := fun w => by have := (n_le (by omega) (by omega)).mp w; omega
    have k5 : (100:Int32) * nI p + nI kk = nI (100 * p + kk) := by rw [show (100:Int32) = nI 100 from rfl, n_mul, n_add]
    obtain ⟨t, ht, et, er⟩ := e6 kk hkm
    have c13 : (cl_w σ (83 + 135 * 1 + 12 * p) 13 (nI (kk + 1))).1 (83 + 135 * 1 + 12 * p) 13 = nI (kk + 1) := r_ws
    have cr : (cl_w σ (83 + 135 * 1 + 12 * p) 13 (nI (kk + 1))).2.2.1 (91 + 135 * 1 + 12 * p) kk = some (W.tm t) := er
    rw [if_pos l3, c13, k2, n_ix (show kk < 100 by omega) (by omega), n_cl (show kk < 2147483648 by omega), a8, cr, if_pos (show nI 1 = 1 from rfl), if_neg l4, k5, n_ix (show 100 * p + kk < 800 by omega) (by omega), n_cl (show 100 * p + kk < 2147483648 by omega), q70 42 (by omega), et]
    refine ext ?_
    have cI : ∀ a, a ≠ 83 + 135 * 1 + 12 * p → (cl_w σ (83 + 135 * 1 + 12 * p) 13 (nI (kk + 1))).1 a = σ.1 a := fun a ha => r_w ha
    have cK : ∀ j, j ≠ 13 → (cl_w σ (83 + 135 * 1 + 12 * p) 13 (nI (kk + 1))).1 (83 + 135 * 1 + 12 * p) j = σ.1 (83 + 135 * 1 + 12 * p) j := fun j hj => r_wk hj
    have cR : (cl_w σ (83 + 135 * 1 + 12 * p) 13 (nI (kk + 1))).2 = σ.2 := rfl
    generalize (cl_w σ (83 + 135 * 1 + 12 * p) 13 (nI (kk + 1))) = τ at c13 cr cI cK cR ⊢
    have L : Lc W b 1 p σ τ ρ ρ2 := by
      refine ⟨fun a w => cI a (fun e => w (by unfold prt; omega)), by rw [cR], fun a _ => by rw [cR], by rw [cR], fun c j hc w => ?_, q702, fun j => by rw [q70 0 (by omega)]⟩
      by_cases c1 : c = 70
      · subst c1
        refine q70o j (fun e => w ?_)
        rw [e]
        exact ⟨.ct 70 (by decide), by decide, by decide, fun e => absurd e (by decide)⟩
      · rw [q70 c c1]
    have F := L.fr s2 p8 h.R.T
    have G := F.G
    refine sec_fin h F (L.tm s2 p8 h.R.T) (hP.co.fr rfl rfl (by rw [cK _ (by omega)]) (cI _ (by omega)) (cI _ (by omega)) (cI _ (by omega)) (fun c h1 h2 => by rw [q70 c (by omega)]) (fun r _ => by rw [q70 53 (by omega)]) (fun i _ => by rw [q70 52 (by omega)])) (hP.ou.fr G.le (by rw [cK _ (by omega)]) (cI _ (by omega)) (by rw [cR]) (by rw [q70 64 (by omega)]) (fun c j hc _ => by rw [q70 c (by omega)])) (hP.ww.fr (by rw [cK _ (by omega)]) (cI _ (by omega)) (by rw [q70 66 (by omega)]) (fun j _ => by rw [q70 65 (by omega)])) (hP.wt.fr G.le (by rw [cK _ (by omega)]) (by rw [cR]) (by rw [q70 68 (by omega)]) (fun j _ => by rw [q70 67 (by omega)])) (hP.se.fr (by rw [cK _ (by omega)]) (by rw [q70 69 (by omega)])) (hP.ms.fr G (fun j _ _ => by rw [cR]) (by rw [q70 38 (by omega)]) (by rw [q70 39 (by omega)])) (hh := hh) (kk := kk) (mm := mm) (B.fr G (cI _ (by omega)) (by rw [cR]) (cI _ (by omega)) (fun j _ => by rw [q70 60 (by omega)]) (by rw [q70 61 (by omega)])) (by rw [cI _ (by omega)]; exact tf) (fun j _ => by rw [q70 0 (by omega)]) ⟨by rw [q70 0 (by omega)], by rw [q70 54 (by omega)], by rw [q70 48 (by omega)]⟩ (by omega) hm q70s c13 c43 (fun e => absurd e (by omega)) (by rw [cK 12 (by omega), e5]; congr 1; omega) (by rw [cR, q70 42 (by omega)]; exact e6) (by rw [cR]; intro i hi; exact e7 i (by omega)) (by rw [cR]; intro i j h1 h2; exact e8 i j h1 (by omega)) (by rw [cR]; exact e9) cr ht (by omega) (q70 61 (by omega)) (q70 69 (by omega)) (by rw [cR]; exact Nat.le_refl _) (by rw [cR]; exact Nat.le_refl _) (Or.inl ⟨rfl, rfl⟩)
  · -- a new one
    have hmk : mm ≤ kk ∧ max kk mm = kk := by
      by_cases c : s = 0
      · have := e4 c; omega
      · have : ¬ kk < mm := fun w => lst ⟨by omega, w⟩
        omega
    rw [hmk.2] at e5 e7 e8 ⊢
    have hlen : W.ts.length < 2147483647 := by
      have := h.R.bd.l
      unfold KV at v
      omega
    obtain ⟨σ1, ρ3, f1, ⟨ρa, f2, f3⟩, F1, Q1, T3⟩ := t_secret T2 (by omega) (by omega) (by omega) hlen
    have l3 : ¬ nI kk < nI kk := fun w => by have := (n_lt (by omega) (by omega)).mp w; omega
    -- the class before the handle
    have hw := Wd.le_add (W := W) (ts := σ.2.2.2.2.1 :: W.ts) (e := σ.2.2.2.2.1) (fun _ q => List.mem_cons_of_mem _ q)
    have tmN : (W.add (σ.2.2.2.2.1 :: W.ts) σ.2.2.2.2.1).tm W.N = σ.2.2.2.2.1 := up_s
    have i13 : σ1.1 (83 + 135 * s + 12 * p) 13 = nI kk := by rw [F1.I _ (by omega) (by omega)]; exact e2
    have g1 : (cl_wr σ1 (91 + 135 * s + 12 * p) kk (some σ.2.2.2.2.1)).1 (83 + 135 * s + 12 * p) 13 = nI kk := i13
    have g2 : (cl_w (cl_wr σ1 (91 + 135 * s + 12 * p) kk (some σ.2.2.2.2.1)) (83 + 135 * s + 12 * p) 12 (nI (kk + 1))).1 (83 + 135 * s + 12 * p) 13 = nI kk := by rw [r_wk (by decide)]; exact g1
    have g3 : (cl_w (cl_w (cl_wr σ1 (91 + 135 * s + 12 * p) kk (some σ.2.2.2.2.1)) (83 + 135 * s + 12 * p) 12 (nI (kk + 1))) (83 + 135 * s + 12 * p) 13 (nI (kk + 1))).1 (83 + 135 * s + 12 * p) 13 = nI (kk + 1) := r_ws
    have g4 : (cl_w (cl_w (cl_wr σ1 (91 + 135 * s + 12 * p) kk (some σ.2.2.2.2.1)) (83 + 135 * s + 12 * p) 12 (nI (kk + 1))) (83 + 135 * s + 12 * p) 13 (nI (kk + 1))).2.2.1 (91 + 135 * s + 12 * p) kk = some σ.2.2.2.2.1 := r_rs
    have g5 : (cl_w (cl_w (cl_wr σ1 (91 + 135 * s + 12 * p) kk (some σ.2.2.2.2.1)) (83 + 135 * s + 12 * p) 12 (nI (kk + 1))) (83 + 135 * s + 12 * p) 13 (nI (kk + 1))).1 (83 + 135 * s + 12 * p) 12 = nI (kk + 1) := by rw [r_wk (by decide)]; exact r_ws
    rw [if_neg l3, f1, bd2_eq, n_ix (show kk < 100 by omega) (by omega), n_cl (show kk < 2147483648 by omega), a8, g1, k1, g2, k1, g3, k2, n_ix (show kk < 100 by omega) (by omega), n_cl (show kk < 2147483648 by omega), g4]
    have cI : ∀ a, a ≠ 83 + 135 * s + 12 * p → (cl_w (cl_w (cl_wr σ1 (91 + 135 * s + 12 * p) kk (some σ.2.2.2.2.1)) (83 + 135 * s + 12 * p) 12 (nI (kk + 1))) (83 + 135 * s + 12 * p) 13 (nI (kk + 1))).1 a = σ1.1 a := fun a ha => by rw [r_w ha, r_w ha, r_rI]
    have cK : ∀ j, j ≠ 12 → j ≠ 13 → (cl_w (cl_w (cl_wr σ1 (91 + 135 * s + 12 * p) kk (some σ.2.2.2.2.1)) (83 + 135 * s + 12 * p) 12 (nI (kk + 1))) (83 + 135 * s + 12 * p) 13 (nI (kk + 1))).1 (83 + 135 * s + 12 * p) j = σ1.1 (83 + 135 * s + 12 * p) j := fun j h1 h2 => by rw [r_wk h2, r_wk h1, r_rI]
    have cR : ∀ a, a ≠ 91 + 135 * s + 12 * p → (cl_w (cl_w (cl_wr σ1 (91 + 135 * s + 12 * p) kk (some σ.2.2.2.2.1)) (83 + 135 * s + 12 * p) 12 (nI (kk + 1))) (83 + 135 * s + 12 * p) 13 (nI (kk + 1))).2.2.1 a = σ1.2.2.1 a := fun a ha => r_r ha
    have cRk : ∀ j, j ≠ kk → (cl_w (cl_w (cl_wr σ1 (91 + 135 * s + 12 * p) kk (some σ.2.2.2.2.1)) (83 + 135 * s + 12 * p) 12 (nI (kk + 1))) (83 + 135 * s + 12 * p) 13 (nI (kk + 1))).2.2.1 (91 + 135 * s + 12 * p) j = σ1.2.2.1 (91 + 135 * s + 12 * p) j := fun j hj => r_rk hj
    have cT : (cl_w (cl_w (cl_wr σ1 (91 + 135 * s + 12 * p) kk (some σ.2.2.2.2.1)) (83 + 135 * s + 12 * p) 12 (nI (kk + 1))) (83 + 135 * s + 12 * p) 13 (nI (kk + 1))).2.2.2 = σ1.2.2.2 := rfl
    have cL : (cl_w (cl_w (cl_wr σ1 (91 + 135 * s + 12 * p) kk (some σ.2.2.2.2.1)) (83 + 135 * s + 12 * p) 12 (nI (kk + 1))) (83 + 135 * s + 12 * p) 13 (nI (kk + 1))).2.1 = σ1.2.1 := rfl
    generalize (cl_w (cl_w (cl_wr σ1 (91 + 135 * s + 12 * p) kk (some σ.2.2.2.2.1)) (83 + 135 * s + 12 * p) 12 (nI (kk + 1))) (83 + 135 * s + 12 * p) 13 (nI (kk + 1))) = τ at g3 g4 g5 cI cK cR cRk cT cL ⊢
    -- the reference before the handle
    have me3 : ρ3.1 0 118 = nI p := by rw [Q1.f 118 (by decide) (by decide) (by decide) (by decide) (by decide) (by decide)]; exact me2
    have sd3 : ρ3.1 0 79 = nI s := by rw [Q1.f 79 (by decide) (by decide) (by decide) (by decide) (by decide) (by decide)]; exact sd2
    have go : ∀ τq : rf_S, (∀ c, c ≠ 42 → c ≠ 43 → τq.1 c = ρ3.1 c) → τq.2 = ρ3.2 → (s = 0 → τq.1 42 = (rf_w ρ3 42 (100 * p + kk) (nI W.N)).1 42 ∧ τq.1 43 = (rf_w ρ3 43 p (nI (mm + 1))).1 43) → (s = 1 → τq.1 42 = ρ3.1 42 ∧ τq.1 43 = ρ3.1 43) → Sim (fc_X8_comeIn (92 + 135 * s + 12 * p) (some σ.2.2.2.2.1) τ) (fq_comes (nI W.N) τq) (AkO K W b k s p ρ) := by
      intro τq qo q2 q0 q1
      have ro : ∀ c, 12 < c → c ≠ 42 → c ≠ 43 → c ≠ 70 → τq.1 c = ρ.1 c := fun c h1 h2 h3 h4 => by rw [qo c h2 h3, Q1.o c h1, q70 c h4]
      have r70 : ∀ j, τq.1 70 j = if j = 8 * s + p then nI (kk + 1) else ρ.1 70 j := by
        intro j
        rw [qo 70 (by omega) (by omega), Q1.o 70 (by omega)]
        by_cases c : j = 8 * s + p
        · rw [c, if_pos rfl]; exact q70s
        · rw [if_neg c]; exact q70o j c
      have rf : ∀ j, j ≠ 10 → j ≠ 12 → j ≠ 13 → j ≠ 14 → j ≠ 15 → j ≠ 16 → τq.1 0 j = ρ.1 0 j := fun j a1 a2 a3 a4 a5 a6 => by rw [qo 0 (by omega) (by omega), Q1.f j a1 a2 a3 a4 a5 a6, q70 0 (by omega)]
      have m42 : ∀ j, (s = 0 ∧ j = 100 * p + kk) ∨ τq.1 42 j = ρ.1 42 j := by
        intro j
        by_cases c : s = 0
        · by_cases c2 : j = 100 * p + kk
          · exact Or.inl ⟨c, c2⟩
          · right; rw [(q0 c).1, q_wk c2, Q1.o 42 (by omega), q70 42 (by omega)]
        · right; rw [(q1 (by omega)).1, Q1.o 42 (by omega), q70 42 (by omega)]
      have m43 : ∀ j, (s = 0 ∧ j = p) ∨ τq.1 43 j = ρ.1 43 j := by
        intro j
        by_cases c : s = 0
        · by_cases c2 : j = p
          · exact Or.inl ⟨c, c2⟩
          · right; rw [(q0 c).2, q_wk c2, Q1.o 43 (by omega), q70 43 (by omega)]
        · right; rw [(q1 (by omega)).2, Q1.o 43 (by omega), q70 43 (by omega)]
      have cIs : ∀ a, a ≠ 83 + 135 * s + 12 * p → (a < 31 ∨ 37 < a) → a < 325 → τ.1 a = σ.1 a := fun a h1 h2 h3 => by rw [cI a h1, F1.I a h2 h3]
      have cKs : ∀ j, j ≠ 12 → j ≠ 13 → τ.1 (83 + 135 * s + 12 * p) j = σ.1 (83 + 135 * s + 12 * p) j := fun j h1 h2 => by rw [cK j h1 h2, F1.I _ (by omega) (by omega)]
      have cRs : ∀ a, a ≠ 91 + 135 * s + 12 * p → (a < 31 ∨ 37 < a) → a < 325 → τ.2.2.1 a = σ.2.2.1 a := fun a h1 h2 h3 => by rw [cR a h1, F1.R a h2 h3]
      have cRks : ∀ j, j ≠ kk → τ.2.2.1 (91 + 135 * s + 12 * p) j = σ.2.2.1 (91 + 135 * s + 12 * p) j := fun j hj => by rw [cRk j hj, F1.R _ (by omega) (by omega)]
      have hb0 : s = 0 → b = false := fun c => by rcases h.hs with q | q; exact q.2; omega
      have ptl : ∀ d, pt W.ts d → d ≠ 83 + 135 * s + 12 * p ∧ d ≠ 91 + 135 * s + 12 * p := by
        intro d hd
        rcases hd with rfl | hd
        · omega
        · have := h.R.T.C.mem d hd; omega
      have F : Fr (prt s p) (segA W b s p) scr W (W.add (σ.2.2.2.2.1 :: W.ts) σ.2.2.2.2.1) σ τ ρ τq := by
        refine ⟨⟨hw, fun d hd j hj => by rw [cI d (ptl d hd).1]; exact F1.fI d hd j hj, fun d hd j h1 h2 => by rw [cR d (ptl d hd).2]; exact F1.fR d hd j h1 h2, h.R.T.L.inm, fun a ha => by rw [cT]; exact F1.T a ha, by rw [cT]; exact F1.n⟩, fun a w h1 h2 => cIs a (fun e => w (by unfold prt; omega)) h1 h2, fun a ha => by rw [cL]; exact F1.L a ha, fun a w h1 h2 => cRs a (fun e => w (by unfold prt; omega)) h1 h2, fun a ha => by rw [cT]; exact F1.T a (by have := h.R.T.C.top; omega), fun c j hc w => ?_, by rw [q2, Q1.l, q702], fun j hj => by unfold scr at hj; exact rf j (by omega) (by omega) (by omega) (by omega) (by omega) (by omega)⟩
        by_cases c1 : c = 70
        · subst c1
          rw [r70, if_neg]
          rintro rfl
          exact w ⟨.ct 70 (by decide), by decide, by decide, fun e => absurd e (by decide)⟩
        · by_cases c2 : c = 42
          · subst c2
            rcases m42 j with ⟨z1, z2⟩ | z
            · exfalso
              rw [z2] at w
              exact w ⟨.sc kk (by omega), by decide, by decide, fun _ => ⟨z1, hb0 z1⟩⟩
            · exact z
          · by_cases c3 : c = 43
            · subst c3
              rcases m43 j with ⟨z1, z2⟩ | z
              · exfalso
                rw [z2] at w
                exact w ⟨.ms 43 (by decide), by decide, by decide, fun _ => ⟨z1, hb0 z1⟩⟩
              · exact z
            · rw [ro c hc c2 c3 c1]
      have sm : SmT σ1 τ := ⟨fun a ha => ⟨cI a (by omega), cR a (by omega)⟩, cT⟩
      have T1 : TermR W.n0 τ τq (σ.2.2.2.2.1 :: W.ts) (va_up W.tm W.N σ.2.2.2.2.1) (W.N + 1) := T3.sm sm (fun c h1 h2 => qo c (by omega) (by omega)) (fun j hj => by rw [qo 0 (by omega) (by omega)])
      have G := F.G
      have v42 : ∀ i, i < kk → τq.1 42 (100 * p + i) = ρ.1 42 (100 * p + i) := by
        intro i hi
        rcases m42 (100 * p + i) with ⟨-, z⟩ | z
        · omega
        · exact z
      have fin := sec_fin (W1 := W.add (σ.2.2.2.2.1 :: W.ts) σ.2.2.2.2.1) (t := W.N) (hh := hh) (kk := kk) (mm := if s = 0 then mm + 1 else mm) h F T1 (hP.co.fr G.le.sz G.le.bs (by rw [cKs _ (by omega) (by omega)]) (cIs _ (by omega) (by omega) (by omega)) (cIs _ (by omega) (by omega) (by omega)) (cIs _ (by omega) (by omega) (by omega)) (fun c h1 h2 => by rw [ro c (by omega) (by omega) (by omega) (by omega)]) (fun r _ => by rw [ro 53 (by omega) (by omega) (by omega) (by omega)]) (fun i _ => by rw [ro 52 (by omega) (by omega) (by omega) (by omega)])) (hP.ou.fr G.le (by rw [cKs _ (by omega) (by omega)]) (cIs _ (by omega) (by omega) (by omega)) (cRs _ (by omega) (by omega) (by omega)) (by rw [ro 64 (by omega) (by omega) (by omega) (by omega)]) (fun c j hc _ => by rw [ro c (by omega) (by omega) (by omega) (by omega)])) (hP.ww.fr (by rw [cKs _ (by omega) (by omega)]) (cIs _ (by omega) (by omega) (by omega)) (by rw [ro 66 (by omega) (by omega) (by omega) (by omega)]) (fun j _ => by rw [ro 65 (by omega) (by omega) (by omega) (by omega)])) (hP.wt.fr G.le (by rw [cKs _ (by omega) (by omega)]) (cRs _ (by omega) (by omega) (by omega)) (by rw [ro 68 (by omega) (by omega) (by omega) (by omega)]) (fun j _ => by rw [ro 67 (by omega) (by omega) (by omega) (by omega)])) (hP.se.fr (by rw [cKs _ (by omega) (by omega)]) (by rw [ro 69 (by omega) (by omega) (by omega) (by omega)])) (hP.ms.fr G (fun j _ _ => by rw [cRs _ (by omega) (by omega) (by omega)]) (by rw [ro 38 (by omega) (by omega) (by omega) (by omega)]) (by rw [ro 39 (by omega) (by omega) (by omega) (by omega)])) (B.fr G (cIs _ (by omega) (by omega) (by omega)) (cRs _ (by omega) (by omega) (by omega)) (cIs _ (by omega) (by omega) (by omega)) (fun j _ => by rw [ro 60 (by omega) (by omega) (by omega) (by omega)]) (by rw [ro 61 (by omega) (by omega) (by omega) (by omega)])) (by rw [cIs _ (by omega) (by omega) (by omega)]; exact tf) (fun j hj => rf j (by omega) (by omega) (by omega) (by omega) (by omega) (by omega)) ⟨rf 121 (by omega) (by omega) (by omega) (by omega) (by omega) (by omega), by rw [ro 54 (by omega) (by omega) (by omega) (by omega)], by rw [ro 48 (by omega) (by omega) (by omega) (by omega)]⟩ (by omega) (by by_cases c : s = 0; rw [if_pos c]; have := e4 c; omega; rw [if_neg c]; exact hm) (by rw [r70, if_pos rfl]) g3 ?_ ?_ ?_ ?_ ?_ ?_ ?_ (by rw [tmN]; exact g4) (Nat.lt_succ_self _) (by omega) (ro 61 (by omega) (by omega) (by omega) (by omega)) (ro 69 (by omega) (by omega) (by omega) (by omega)) (by rw [cT]; have := F1.rc; exact this) (by rw [cT]; have := F1.rs; exact this) (Or.inr ⟨rfl, Nat.le_refl _, ?_⟩)
      · rw [tmN] at fin; exact fin
      · by_cases c : s = 0
        · rw [if_pos c, (q0 c).2, q_ws]
        · rw [if_neg c]
          rcases m43 p with ⟨z, -⟩ | z
          · exact absurd z c
          · rw [z]; exact e3
      · intro c; rw [if_pos c, ← e4 c]
      · rw [g5]
        by_cases c : s = 0
        · rw [if_pos c]; have := e4 c; congr 1; omega
        · rw [if_neg c]; congr 1; omega
      · intro i hi
        by_cases c : i = kk
        · subst c
          have c0 : s = 0 := by
            apply Classical.byContradiction
            intro w; rw [if_neg w] at hi; omega
          refine ⟨W.N, Nat.lt_succ_self _, ?_, by rw [tmN]; exact g4⟩
          rw [(q0 c0).1, q_ws]
        · have hi' : i < mm := by
            by_cases c0 : s = 0
            · rw [if_pos c0] at hi; have := e4 c0; omega
            · rw [if_neg c0] at hi; exact hi
          rw [cRks i c, v42 i (by omega)]
          exact (e6 i hi').le hw
      · intro i hi
        by_cases c : i = kk
        · subst c; exact ⟨_, List.mem_cons_self, g4⟩
        · have hi' : i < kk := by
            by_cases c0 : s = 0
            · rw [if_pos c0] at hi; have := e4 c0; omega
            · rw [if_neg c0] at hi; omega
          obtain ⟨a, ha, ea⟩ := e7 i hi'
          exact ⟨a, List.mem_cons_of_mem _ ha, by rw [cRks i c]; exact ea⟩
      · intro i j hij hj
        have hj' : j ≤ kk := by
          by_cases c0 : s = 0
          · rw [if_pos c0] at hj; have := e4 c0; omega
          · rw [if_neg c0] at hj; omega
        rw [cRks i (by omega)]
        by_cases c : j = kk
        · subst c
          rw [g4]
          obtain ⟨a, ha, ea⟩ := e7 i hij
          rw [ea]
          intro w
          have := h.R.T.C.mem a ha
          have := Option.some.inj w
          omega
        · rw [cRks j c]; exact e8 i j hij (by omega)
      · intro i hi
        obtain ⟨j, hj, ej⟩ := e9 i hi
        exact ⟨j, hj, by rw [cRs _ (by omega) (by omega) (by omega), cRks i (by omega)]; exact ej⟩
      · intro j hj w
        rw [ro 60 (by omega) (by omega) (by omega) (by omega)] at w
        obtain ⟨t, ht, et, -⟩ := B.en j hj
        have et' : ρ.1 60 (100 * (8 * s + p) + j) = nI t := et
        rw [et'] at w
        have := (n_eq (by omega) (by omega)).mp w
        omega
    have k5 : (100:Int32) * nI p + nI kk = nI (100 * p + kk) := by rw [show (100:Int32) = nI 100 from rfl, n_mul, n_add]
    have f3' : rf_w ρa 0 13 (ρa.1 0 13 + (1:Int32)) = ρ3 := f3.symm
    rcases h.hs with ⟨rfl, -⟩ | ⟨rfl, -⟩
    · have m43 : (rf_w ρ3 42 (100 * p + kk) (nI W.N)).1 43 p = nI mm := by rw [q_w (by decide), Q1.o 43 (by omega)]; exact c43
      have m118 : (rf_w ρ3 42 (100 * p + kk) (nI W.N)).1 0 118 = nI p := by rw [q_w (by decide)]; exact me3
      rw [if_neg (show ¬ nI 0 = 1 by decide), f2, bd2_eq, f3', sd3, if_pos (show nI 0 = 0 from rfl), me3, k5, n_ix (show 100 * p + kk < 800 by omega) (by omega), n_cl (show 100 * p + kk < 2147483648 by omega), m118, n_ix p8 (by omega), n_ix p8 (by omega), n_cl (show p < 2147483648 by omega), m43, show nI mm + (1:Int32) = nI (mm + 1) from n_add mm 1]
      refine ext (go _ (fun c h1 h2 => by rw [q_w h2, q_w h1]) rfl (fun _ => ⟨by rw [q_w (by decide)], ?_⟩) (fun w => by omega))
      funext j
      simp only [g_q, true_and, false_and, if_false, Nat.reduceEqDiff]
    · have l6 : nI mm ≤ nI kk := (n_le (by omega) (by omega)).mpr hmk.1
      rw [if_pos (show nI 1 = 1 from rfl), if_pos l6, f2, bd2_eq, f3', sd3, if_neg (show ¬ nI 1 = 0 by decide)]
      exact ext (go ρ3 (fun _ _ _ => rfl) rfl (fun w => by omega) (fun _ => ⟨rfl, rfl⟩))
end Z2_LB
