section Z2_M7
variable {K : Bd} {W W' : Wd} {b : Bool} {k s p : Nat} {σ σ' : cl_S} {ρ ρ' : rf_S}
theorem TabR.at {tm : Nat → Nat} {N a lim sl h : Nat} {tb : Nat → Int32} {cnt : Int32} (B : TabR σ tm N a lim sl tb cnt h) (hlim : lim < 1000) (e33 : σ.2.2.1 31 4 = some 33) (x : Int32) : (∃ u t, u < h ∧ x = nI (u + 1) ∧ t < N ∧ tb u = nI t ∧ fc_X8_at a x σ = some (some (tm t), σ)) ∨ ((x < 1 ∨ (¬ x < 1 ∧ nI h < x)) ∧ fc_X8_at a x σ = some (some 33, σ)) := by
  have hl := B.hl
  have z1 : ¬ (1:Int32) = 0 := by decide
  unfold fc_X8_at bc_X8_at_0 fc_X8_has bc_X8_has_0
  rw [B.cc]
  by_cases c1 : x < (1:Int32)
  · right; rw [if_pos c1, bd2n, if_pos rfl, vln, e33]; exact ⟨Or.inl c1, rfl⟩
  rw [if_neg c1]
  by_cases c2 : nI h < x
  · right; rw [if_pos c2, bd2n, if_pos rfl, vln, e33]; exact ⟨Or.inr ⟨c1, c2⟩, rfl⟩
  rw [if_neg c2, bd2n, if_neg z1]
  left
  rcases n_cases x with hx | ⟨u, hu, rfl⟩
  · exact absurd (n_neg hx (show (1:Nat) < 2147483648 by omega)).1 c1
  have u1 : 1 ≤ u := by
    apply Classical.byContradiction
    intro q
    exact c1 ((n_lt (a := u) (b := 1) (by omega) (by omega)).mpr (by omega))
  have u2 : u ≤ h := by
    apply Classical.byContradiction
    intro q
    exact c2 ((n_lt (by omega) (by omega)).mpr (by omega))
  obtain ⟨t, ht, e1, e2⟩ := B.en (u - 1) (by omega)
  rw [show u - 1 + 1 = u by omega] at e2
  refine ⟨u - 1, t, by omega, by rw [show u - 1 + 1 = u by omega], ht, e1, ?_⟩
  rw [n_ix (show u < cl_th a from by rw [B.cs.2.1]; omega) (by rw [B.cs.2.1]; omega), n_cl hu, vln, e2]
theorem Rel.tof (h : Rel K W b k σ ρ) (x y : Int32) : (∃ t, t < W.N ∧ fc_X11_termOf 0 x y σ = some (some (W.tm t), σ) ∧ fq_termOf x y ρ = some (nI t, ρ)) ∨ (fc_X11_termOf 0 x y σ = some (some 33, σ) ∧ fq_termOf x y ρ = some (-1, ρ)) := by
  have e33 := h.T.C.tms.2.2.1
  unfold fc_X11_termOf bc_X11_termOf_0 fq_termOf bq_termOf_0
  by_cases c1 : x = -1
  · rw [if_pos c1, if_pos c1]
    rcases h.ohd y with ⟨j, t, hj, ht, e1, e2, e3, e4, e5, e6, e7⟩ | ⟨e4, e5, e6⟩
    · left; rw [e5, e6, bd2n, bd2n, if_neg (by decide), e7, bd2n]; exact ⟨t, ht, rfl, rfl⟩
    · right; rw [e5, e6, bd2n, bd2n, if_pos rfl]; exact ⟨rfl, rfl⟩
  rw [if_neg c1, if_neg c1]
  rcases h.isP x with ⟨p, hp, p8, rfl, e1, e2, e3⟩ | ⟨e1, e2⟩
  · rw [e1, bd2n, if_neg (by decide), if_neg e2, if_neg (Int32.not_le.mpr e3), n_ix p8 (by omega), vln, n_cl (show p < 2147483648 by omega), show 47 + 12 + cl_md 47 = 59 + 135 * 0 from rfl, h.st.pp 0 p (by omega) p8, nnn, show 83 + 135 * 0 + 12 * p + 9 = 92 + 135 * 0 + 12 * p by omega]
    obtain ⟨hh, B, -⟩ := (h.m0.pr p hp).tb.tb
    have hl := B.hl
    have bq : ρ.1 61 p = nI hh := by have := B.cq; rw [show 8 * 0 + p = p by omega] at this; exact this
    rw [n_ix (show p < 16 by omega) (by omega), bq]
    rcases B.at (by omega) e33 y with ⟨u, t, hu, rfl, ht, et, ea⟩ | ⟨hy, ea⟩
    · left
      rw [ea, bd2n, if_neg (show ¬ nI (u + 1) < (1:Int32) from fun q => by have := (n_lt (a := u + 1) (b := 1) (by omega) (by omega)).mp q; omega), if_neg (fun q => by have := (n_lt (by omega) (by omega)).mp q; omega), show (100:Int32) * nI p + nI (u + 1) - 1 = nI (100 * (8 * 0 + p) + u) from by rw [show (100:Int32) = nI 100 from rfl, n_mul, n_add, show (1:Int32) = nI 1 from rfl, n_sub (by omega)]; congr 1; omega, n_ix (show 100 * (8 * 0 + p) + u < 1600 by omega) (by omega), n_cl (by omega), et]
      exact ⟨t, ht, rfl, rfl⟩
    · right
      rw [ea, bd2n]
      rcases hy with hy | ⟨hy, hy'⟩
      · rw [if_pos hy]; exact ⟨rfl, rfl⟩
      · rw [if_neg hy, if_pos hy']; exact ⟨rfl, rfl⟩
  · right
    rw [e1, bd2n, if_pos rfl, vln, e33]
    rcases e2 with e2 | ⟨e2, e3⟩
    · rw [if_pos e2]; exact ⟨rfl, rfl⟩
    · rw [if_neg e2, if_pos (Int32.not_lt.mp e3)]; exact ⟨rfl, rfl⟩
theorem call_same (h : RC k σ ρ) (hk : k < 64) (x y u v : Int32) : CO k (fc_X11_same 0 x y u v σ) (fq_same x y u v ρ) := by
  obtain ⟨W, R⟩ := id h
  have T := R.T
  have e33 := T.C.tms.2.2.1
  have hN := T.Q.n.2
  have ne : ∀ {t : Nat}, t < W.N → ¬ (some (W.tm t) = some 33) := fun ht q => by have := T.C.mem _ (T.L.inm _ ht); have := Option.some.inj q; omega
  unfold fc_X11_same bc_X11_same_0 fq_same bq_same_0
  rcases R.tof x y with ⟨t, ht, e1, e2⟩ | ⟨e1, e2⟩
  · rw [e1, e2, bd2n, bd2n]
    rcases R.tof u v with ⟨t', ht', f1, f2⟩ | ⟨f1, f2⟩
    · rw [f1, f2, bd2n, bd2n, vln, e33, if_neg (ne ht), vln, if_neg (ne ht'), if_neg (n_nneg (show t < 2147483648 by omega)), if_pos (show (0:Int32) ≤ nI t' by rw [i32_0, n_le (by omega) (by omega)]; omega)]
      refine CO.ite ?_ (fun _ _ => CO.same h hk _) (fun _ _ => CO.same h hk _)
      rw [Option.some.injEq, n_eq (by omega) (by omega)]
      exact ⟨T.L.inj t t' ht ht', fun q => by rw [q]⟩
    · rw [f1, f2, bd2n, bd2n, vln, e33, if_neg (ne ht), vln, if_pos rfl, if_neg (n_nneg (show t < 2147483648 by omega)), if_neg (show ¬ (0:Int32) ≤ -1 by decide)]
      exact CO.same h hk _
  · rw [e1, e2, bd2n, bd2n]
    rcases R.tof u v with ⟨t', ht', f1, f2⟩ | ⟨f1, f2⟩
    · rw [f1, f2, bd2n, bd2n, vln, e33, if_pos rfl, if_pos (show (-1:Int32) < 0 by decide)]
      exact CO.same h hk _
    · rw [f1, f2, bd2n, bd2n, vln, e33, if_pos rfl, if_pos (show (-1:Int32) < 0 by decide)]
      exact CO.same h hk _
/-- what waits changes alone -/
def Lw (s p : Nat) (σ σ' : cl_S) (ρ ρ' : rf_S) : Prop := (∀ a, a ≠ 83 + 135 * s + 12 * p → a ≠ 89 + 135 * s + 12 * p → σ'.1 a = σ.1 a) ∧ (∀ j, j ≠ 8 → j ≠ 10 → σ'.1 (83 + 135 * s + 12 * p) j = σ.1 (83 + 135 * s + 12 * p) j) ∧ (∀ a, a ≠ 90 + 135 * s + 12 * p → σ'.2.2.1 a = σ.2.2.1 a) ∧ (σ'.2.1 = σ.2.1) ∧ (σ'.2.2.2 = σ.2.2.2) ∧ (∀ c, c ≠ 65 → c ≠ 66 → c ≠ 67 → c ≠ 68 → ρ'.1 c = ρ.1 c) ∧ (∀ c j, c = 66 ∨ c = 68 → j ≠ 8 * s + p → ρ'.1 c j = ρ.1 c j) ∧ (∀ c j, c = 65 ∨ c = 67 → (j < 64 * (8 * s + p) ∨ 64 * (8 * s + p) + 64 ≤ j) → ρ'.1 c j = ρ.1 c j) ∧ (ρ'.2 = ρ.2)
theorem Lw.cI {s p : Nat} {σ σ' : cl_S} {ρ ρ' : rf_S} (hS : Lw s p σ σ' ρ ρ') : ∀ a, a ≠ 83 + 135 * s + 12 * p → a ≠ 89 + 135 * s + 12 * p → σ'.1 a = σ.1 a := hS.1
theorem Lw.cK {s p : Nat} {σ σ' : cl_S} {ρ ρ' : rf_S} (hS : Lw s p σ σ' ρ ρ') : ∀ j, j ≠ 8 → j ≠ 10 → σ'.1 (83 + 135 * s + 12 * p) j = σ.1 (83 + 135 * s + 12 * p) j := hS.2.1
theorem Lw.cR {s p : Nat} {σ σ' : cl_S} {ρ ρ' : rf_S} (hS : Lw s p σ σ' ρ ρ') : ∀ a, a ≠ 90 + 135 * s + 12 * p → σ'.2.2.1 a = σ.2.2.1 a := hS.2.2.1
theorem Lw.cL {s p : Nat} {σ σ' : cl_S} {ρ ρ' : rf_S} (hS : Lw s p σ σ' ρ ρ') : σ'.2.1 = σ.2.1 := hS.2.2.2.1
theorem Lw.cT {s p : Nat} {σ σ' : cl_S} {ρ ρ' : rf_S} (hS : Lw s p σ σ' ρ ρ') : σ'.2.2.2 = σ.2.2.2 := hS.2.2.2.2.1
theorem Lw.q {s p : Nat} {σ σ' : cl_S} {ρ ρ' : rf_S} (hS : Lw s p σ σ' ρ ρ') : ∀ c, c ≠ 65 → c ≠ 66 → c ≠ 67 → c ≠ 68 → ρ'.1 c = ρ.1 c := hS.2.2.2.2.2.1
theorem Lw.q1 {s p : Nat} {σ σ' : cl_S} {ρ ρ' : rf_S} (hS : Lw s p σ σ' ρ ρ') : ∀ c j, c = 66 ∨ c = 68 → j ≠ 8 * s + p → ρ'.1 c j = ρ.1 c j := hS.2.2.2.2.2.2.1
theorem Lw.q2 {s p : Nat} {σ σ' : cl_S} {ρ ρ' : rf_S} (hS : Lw s p σ σ' ρ ρ') : ∀ c j, c = 65 ∨ c = 67 → (j < 64 * (8 * s + p) ∨ 64 * (8 * s + p) + 64 ≤ j) → ρ'.1 c j = ρ.1 c j := hS.2.2.2.2.2.2.2.1
theorem Lw.l {s p : Nat} {σ σ' : cl_S} {ρ ρ' : rf_S} (hS : Lw s p σ σ' ρ ρ') : ρ'.2 = ρ.2 := hS.2.2.2.2.2.2.2.2
theorem Rel.wait (h : Rel K W b k σ ρ) (hs : s < 2) (hp : p < W.np) (P : PRel W s p σ ρ) (L : Lw s p σ σ' ρ ρ') (ww : PWw s p σ' ρ') (wt : PWt W s p σ' ρ') (hb1 : b = true → s = 1) : Rel K W b k σ' ρ' := by
  have np8 := h.cf.np.1
  have Lc' : Lc W b s p σ σ' ρ ρ' := by
    refine ⟨fun a q => L.cI a (fun e => q (by unfold prt; omega)) (fun e => q (by unfold prt; omega)), L.cL, fun a q => L.cR a (fun e => q (by unfold prt; omega)), L.cT, fun c j hc w => ?_, L.l, fun j => by rw [L.q 0 (by decide) (by decide) (by decide) (by decide)]⟩
    by_cases e1 : c = 66 ∨ c = 68
    · refine L.q1 c j e1 (fun e => w ⟨by rw [e]; exact .ct c (by omega), by omega, by omega, fun q => by omega⟩)
    · by_cases e2 : c = 65 ∨ c = 67
      · refine L.q2 c j e2 ?_
        apply Classical.byContradiction
        intro q
        refine w ⟨?_, by omega, by omega, fun q => by omega⟩
        have := seg.wa (W := W) (s := s) (p := p) c (j - 64 * (8 * s + p)) e2 (by omega)
        rw [show 64 * (8 * s + p) + (j - 64 * (8 * s + p)) = j by omega] at this
        exact this
      · rw [L.q c (by omega) (by omega) (by omega) (by omega)]
  have F := Lc'.fr hs (by omega) h.T
  have e : ∀ s', phi s' ρ' = phi s' ρ := fun s' => phi_eq (fun g => by rw [L.q 61 (by decide) (by decide) (by decide) (by decide)]) (fun g => by rw [L.q 69 (by decide) (by decide) (by decide) (by decide)])
  have B := h.bd
  refine h.part hs hp F ?_ (Lc'.tm hs (by omega) h.T) ⟨by rw [e, e]; exact B.n, by rw [e, e]; exact B.l, by rw [L.cT]; exact B.c, by rw [L.cT]; exact B.s⟩ hb1
  have qq : ∀ c, c ≠ 65 → c ≠ 66 → c ≠ 67 → c ≠ 68 → ρ'.1 c = ρ.1 c := L.q
  exact ⟨P.co.fr rfl rfl (by rw [L.cK 3 (by decide) (by decide)]) (L.cI _ (by omega) (by omega)) (L.cI _ (by omega) (by omega)) (L.cI _ (by omega) (by omega)) (fun c h1 h2 => by rw [qq c (by omega) (by omega) (by omega) (by omega)]) (fun r _ => by rw [qq 53 (by omega) (by omega) (by omega) (by omega)]) (fun i _ => by rw [qq 52 (by omega) (by omega) (by omega) (by omega)]), P.tb.fr F.G (by rw [L.cK 12 (by decide) (by decide)]) (by rw [L.cK 13 (by decide) (by decide)]) (L.cI _ (by omega) (by omega)) (L.cR _ (by omega)) (L.cI _ (by omega) (by omega)) (L.cR _ (by omega)) (fun j _ => by rw [qq 60 (by omega) (by omega) (by omega) (by omega)]) (by rw [qq 61 (by omega) (by omega) (by omega) (by omega)]) (by rw [qq 70 (by omega) (by omega) (by omega) (by omega)]) (by rw [qq 43 (by omega) (by omega) (by omega) (by omega)]) (fun j _ => by rw [qq 42 (by omega) (by omega) (by omega) (by omega)]), P.ou.fr F.G.le (by rw [L.cK 6 (by decide) (by decide)]) (L.cI _ (by omega) (by omega)) (L.cR _ (by omega)) (by rw [qq 64 (by omega) (by omega) (by omega) (by omega)]) (fun c j hc _ => by rw [qq c (by omega) (by omega) (by omega) (by omega)]), ww, wt, P.se.fr (by rw [L.cK 14 (by decide) (by decide)]) (by rw [qq 69 (by omega) (by omega) (by omega) (by omega)]), P.ms.fr F.G (fun j _ _ => by rw [L.cR _ (by omega)]) (by rw [qq 38 (by omega) (by omega) (by omega) (by omega)]) (by rw [qq 39 (by omega) (by omega) (by omega) (by omega)])⟩
/-- a word waits -/
theorem Rel.waitW (h : Rel K W b k σ ρ) (hs : s < 2) (hp : p < W.np) (P : PRel W s p σ ρ) (hb1 : b = true → s = 1) (w : Int32) : (ρ.1 66 (8 * s + p) = nI 64 ∧ fc_X6_waitWord (83 + 135 * s + 12 * p) w σ = some (-4, σ)) ∨ ∃ n σ', n < 64 ∧ ρ.1 66 (8 * s + p) = nI n ∧ fc_X6_waitWord (83 + 135 * s + 12 * p) w σ = some (nI (n + 1), σ') ∧ Rel K W b k σ' (rf_w (rf_w ρ 65 (64 * (8 * s + p) + n) w) 66 (8 * s + p) (nI (n + 1))) ∧ σ'.1 47 = σ.1 47 ∧ σ'.2.2.1 31 = σ.2.2.1 31 := by
  have np8 := h.cf.np.1
  obtain ⟨n, ⟨hn, e1, e2⟩, e3⟩ := P.ww
  unfold fc_X6_waitWord bc_X6_waitWord_0
  rw [e1]
  by_cases c : n = 64
  · left; subst c; rw [if_neg (show ¬ nI 64 < (64:Int32) by decide)]; exact ⟨e2, rfl⟩
  right
  rw [if_pos (show nI n < (64:Int32) from (n_lt (a := n) (b := 64) (by omega) (by omega)).mpr (by omega)), n_ix (show n < 64 by omega) (by omega), n_cl (show n < 2147483648 by omega), show 83 + 135 * s + 12 * p + 6 = 89 + 135 * s + 12 * p by omega, vln, r_w (by omega), e1, show nI n + (1:Int32) = nI (n + 1) from n_add n 1, vln, r_ws]
  refine ⟨n, _, by omega, e2, rfl, ?_, by rw [r_w (by omega), r_w (by omega)], rfl⟩
  have q65 : ∀ j, (rf_w (rf_w ρ 65 (64 * (8 * s + p) + n) w) 66 (8 * s + p) (nI (n + 1))).1 65 j = if j = 64 * (8 * s + p) + n then w else ρ.1 65 j := fun j => by rw [q_w (by decide), g_q]; simp only [true_and]
  have q66 : ∀ j, (rf_w (rf_w ρ 65 (64 * (8 * s + p) + n) w) 66 (8 * s + p) (nI (n + 1))).1 66 j = if j = 8 * s + p then nI (n + 1) else ρ.1 66 j := fun j => by rw [g_q, q_w (by decide)]; simp only [true_and]
  have c89 : ∀ j, (cl_w (cl_w σ (89 + 135 * s + 12 * p) n w) (83 + 135 * s + 12 * p) 8 (nI (n + 1))).1 (89 + 135 * s + 12 * p) j = if j = n then w else σ.1 (89 + 135 * s + 12 * p) j := fun j => by rw [r_w (by omega), g_w]; simp only [true_and]
  refine h.wait hs hp P ⟨fun a h1 h2 => by rw [r_w h1, r_w h2], fun j h1 h2 => by rw [r_wk h1, r_w (by omega)], fun a _ => rfl, rfl, rfl, fun c h1 h2 h3 h4 => by rw [q_w h2, q_w h1], fun c j hc hj => ?_, fun c j hc hj => ?_, rfl⟩ ⟨n + 1, ⟨by omega, r_ws, by rw [q66, if_pos rfl]⟩, fun j hj => ?_⟩ ?_ hb1
  · rcases hc with rfl | rfl
    · rw [q66, if_neg hj]
    · rw [q_w (by decide), q_w (by decide)]
  · rcases hc with rfl | rfl
    · rw [q65, if_neg (by omega)]
    · rw [q_w (by decide), q_w (by decide)]
  · rw [c89, q65]
    by_cases q : j = n
    · rw [if_pos q, if_pos (by omega)]
    · rw [if_neg q, if_neg (by omega)]; exact e3 j (by omega)
  · obtain ⟨m, ⟨hm, f1, f2⟩, f3⟩ := P.wt
    exact ⟨m, ⟨hm, by rw [r_wk (by decide), r_w (by omega)]; exact f1, by rw [q_w (by decide), q_w (by decide)]; exact f2⟩, fun j hj => by rw [r_wL, r_wL, q_w (by decide), q_w (by decide)]; exact f3 j hj⟩
/-- a TERM waits -/
theorem Rel.waitT (h : Rel K W b k σ ρ) (hs : s < 2) (hp : p < W.np) (P : PRel W s p σ ρ) (hb1 : b = true → s = 1) {t : Nat} (ht : t < W.N) : (ρ.1 68 (8 * s + p) = nI 64 ∧ fc_X6_waitTerm (83 + 135 * s + 12 * p) (some (W.tm t)) σ = some (-4, σ)) ∨ ∃ n σ', n < 64 ∧ ρ.1 68 (8 * s + p) = nI n ∧ fc_X6_waitTerm (83 + 135 * s + 12 * p) (some (W.tm t)) σ = some (nI (n + 1), σ') ∧ Rel K W b k σ' (rf_w (rf_w ρ 67 (64 * (8 * s + p) + n) (nI t)) 68 (8 * s + p) (nI (n + 1))) ∧ σ'.1 47 = σ.1 47 ∧ σ'.2.2.1 31 = σ.2.2.1 31 := by
  have np8 := h.cf.np.1
  obtain ⟨n, ⟨hn, e1, e2⟩, e3⟩ := P.wt
  unfold fc_X6_waitTerm bc_X6_waitTerm_0
  rw [e1]
  by_cases c : n = 64
  · left; subst c; rw [if_neg (show ¬ nI 64 < (64:Int32) by decide)]; exact ⟨e2, rfl⟩
  right
  rw [if_pos (show nI n < (64:Int32) from (n_lt (a := n) (b := 64) (by omega) (by omega)).mpr (by omega)), n_ix (show n < 64 by omega) (by omega), n_cl (show n < 2147483648 by omega), show 83 + 135 * s + 12 * p + 7 = 90 + 135 * s + 12 * p by omega, vln, r_rI, e1, show nI n + (1:Int32) = nI (n + 1) from n_add n 1, vln, r_ws]
  refine ⟨n, _, by omega, e2, rfl, ?_, by rw [r_w (by omega), r_rI], by rw [r_wL, r_r (by omega)]⟩
  have q67 : ∀ j, (rf_w (rf_w ρ 67 (64 * (8 * s + p) + n) (nI t)) 68 (8 * s + p) (nI (n + 1))).1 67 j = if j = 64 * (8 * s + p) + n then nI t else ρ.1 67 j := fun j => by rw [q_w (by decide), g_q]; simp only [true_and]
  have q68 : ∀ j, (rf_w (rf_w ρ 67 (64 * (8 * s + p) + n) (nI t)) 68 (8 * s + p) (nI (n + 1))).1 68 j = if j = 8 * s + p then nI (n + 1) else ρ.1 68 j := fun j => by rw [g_q, q_w (by decide)]; simp only [true_and]
  have c90 : ∀ j, (cl_w (cl_wr σ (90 + 135 * s + 12 * p) n (some (W.tm t))) (83 + 135 * s + 12 * p) 10 (nI (n + 1))).2.2.1 (90 + 135 * s + 12 * p) j = if j = n then some (W.tm t) else σ.2.2.1 (90 + 135 * s + 12 * p) j := fun j => by rw [r_wL, g_r]; simp only [true_and]
  refine h.wait hs hp P ⟨fun a h1 h2 => by rw [r_w h1, r_rI], fun j h1 h2 => by rw [r_wk h2, r_rI], fun a h1 => by rw [r_wL, r_r h1], rfl, rfl, fun c h1 h2 h3 h4 => by rw [q_w h4, q_w h3], fun c j hc hj => ?_, fun c j hc hj => ?_, rfl⟩ ?_ ⟨n + 1, ⟨by omega, r_ws, by rw [q68, if_pos rfl]⟩, fun j hj => ?_⟩ hb1
  · rcases hc with rfl | rfl
    · rw [q_w (by decide), q_w (by decide)]
    · rw [q68, if_neg hj]
  · rcases hc with rfl | rfl
    · rw [q_w (by decide), q_w (by decide)]
    · rw [q67, if_neg (by omega)]
  · obtain ⟨m, ⟨hm, f1, f2⟩, f3⟩ := P.ww
    exact ⟨m, ⟨hm, by rw [r_wk (by decide), r_rI]; exact f1, by rw [q_w (by decide), q_w (by decide)]; exact f2⟩, fun j hj => by rw [r_w (by omega), r_rI, q_w (by decide), q_w (by decide)]; exact f3 j hj⟩
  · rw [c90, q67]
    by_cases q : j = n
    · rw [if_pos q, if_pos (by omega)]; exact ⟨t, ht, rfl, rfl⟩
    · rw [if_neg q, if_neg (by omega)]; exact e3 j (by omega)
/-- an input is noted -/
theorem Rel.note (h : Rel K W false k σ ρ) (hk : k < 64) (hp : p < W.np) {w v f : Int32} {r : Option Nat} (hf : f = 0 ∨ f = 1) (ho : OV W w r v f) : ∃ σ' ρ', fc_X5_noteInput 47 (nI p) w r σ = some σ' ∧ fq_note (nI p) v f ρ = some ρ' ∧ Rel K W false (k + 1) σ' ρ' ∧ (∀ c, (c < 44 ∨ 47 < c) → c ≠ 0 → ρ'.1 c = ρ.1 c) := by
  have O := h.oB
  obtain ⟨n, hn, e1, e2, e3, e4⟩ := O.ip
  obtain ⟨t, ht6, t1, t2⟩ := h.m0.tk
  have nf : vp_nar .boolean f = f := by rcases hf with rfl | rfl; exact nar_0; exact nar_1
  unfold fc_X5_noteInput bc_X5_noteInput_0 bc_X5_noteInput_53 fq_note bq_note_0 bq_note_55
  have i500 : ∀ {α : Type} (z : Option α), ix (nI n) 500 z = z := fun z => n_ix (by omega) (by omega)
  have z1 : ∀ {τ : cl_S} {a j : Nat} {v : Int32}, a ≠ 47 → (cl_w τ a j v).1 47 15 = τ.1 47 15 := fun {τ a j v} ha => by rw [r_w (Ne.symm ha)]
  rw [e1, e2, if_neg (show ¬ (500:Int32) ≤ nI n from fun q => by have := (n_le (a := 500) (b := n) (by omega) (by omega)).mp q; omega), if_neg (show ¬ (500:Int32) ≤ nI n from fun q => by have := (n_le (a := 500) (b := n) (by omega) (by omega)).mp q; omega)]
  rw [show 47 + 32 + cl_md 47 = 79 from rfl, show 47 + 33 + cl_md 47 = 80 from rfl, show 47 + 34 + cl_md 47 = 81 from rfl, show 47 + 35 + cl_md 47 = 82 from rfl, show ix (0:Int32) 2 _ = _ from n_ix (a := 0) (n := 2) (by omega) (by omega), show (0:Int32).toNatClampNeg = 0 from rfl, show σ.1 47 9 = nI t from t1, t2]
  have y1 : ∀ {τ : rf_S} {c j : Nat} {v : Int32}, c ≠ 0 → (rf_w τ c j v).1 0 78 = τ.1 0 78 := fun {τ c j v} hc => by rw [q_w (Ne.symm hc)]
  simp only [vln, i500, z1 (show (79:Nat) ≠ 47 by decide), z1 (show (80:Nat) ≠ 47 by decide), z1 (show (81:Nat) ≠ 47 by decide), r_rI, e1, n_cl (show n < 2147483648 by omega), y1 (show (44:Nat) ≠ 0 by decide), y1 (show (45:Nat) ≠ 0 by decide), y1 (show (46:Nat) ≠ 0 by decide), y1 (show (47:Nat) ≠ 0 by decide), e2, nf, show nI n + (1:Int32) = nI (n + 1) from n_add n 1]
  refine ⟨_, _, rfl, rfl, ?_, fun c h1 h2 => by rw [q_w h2, q_w (by omega), q_w (by omega), q_w (by omega), q_w (by omega)]⟩
  refine (h.kk (Nat.le_succ k)).ob (fun a j w => ?_) rfl (fun a h1 h2 => by rw [r_wL, r_r h2]; rfl) rfl (fun c h1 h2 h3 => by rw [q_w h1, q_w (by omega), q_w (by omega), q_w (by omega), q_w (by omega)]) rfl (fun j h1 h2 => by rw [q_wk h1, q_w (by decide), q_w (by decide), q_w (by decide), q_w (by decide)]) ?_
  · rw [g_w, if_neg (by omega), r_rI, r_w (by omega), r_w (by omega), r_w (by omega)]
  have c79 : ∀ j, (cl_w (cl_wr (cl_w (cl_w (cl_w σ 79 n (nI t)) 80 n (nI p)) 81 n w) 82 n r) 47 15 (nI (n + 1))).1 79 j = if j = n then nI t else σ.1 79 j := fun j => by rw [r_w (by decide), r_rI, r_w (by decide), r_w (by decide), g_w]; simp only [true_and]
  have c80 : ∀ j, (cl_w (cl_wr (cl_w (cl_w (cl_w σ 79 n (nI t)) 80 n (nI p)) 81 n w) 82 n r) 47 15 (nI (n + 1))).1 80 j = if j = n then nI p else σ.1 80 j := fun j => by rw [r_w (by decide), r_rI, r_w (by decide), g_w, r_w (by decide)]; simp only [true_and]
  have c81 : ∀ j, (cl_w (cl_wr (cl_w (cl_w (cl_w σ 79 n (nI t)) 80 n (nI p)) 81 n w) 82 n r) 47 15 (nI (n + 1))).1 81 j = if j = n then w else σ.1 81 j := fun j => by rw [r_w (by decide), r_rI, g_w, r_w (by decide), r_w (by decide)]; simp only [true_and]
  have c82 : ∀ j, (cl_w (cl_wr (cl_w (cl_w (cl_w σ 79 n (nI t)) 80 n (nI p)) 81 n w) 82 n r) 47 15 (nI (n + 1))).2.2.1 82 j = if j = n then r else σ.2.2.1 82 j := fun j => by rw [r_wL, g_r, r_wL, r_wL, r_wL]; simp only [true_and]
  have cA : ∀ a, a ≠ 47 → (a < 79 ∨ 81 < a) → (cl_w (cl_wr (cl_w (cl_w (cl_w σ 79 n (nI t)) 80 n (nI p)) 81 n w) 82 n r) 47 15 (nI (n + 1))).1 a = σ.1 a := fun a h1 h2 => by rw [r_w h1, r_rI, r_w (by omega), r_w (by omega), r_w (by omega)]
  have cK : ∀ j, j ≠ 15 → (cl_w (cl_wr (cl_w (cl_w (cl_w σ 79 n (nI t)) 80 n (nI p)) 81 n w) 82 n r) 47 15 (nI (n + 1))).1 47 j = σ.1 47 j := fun j h1 => by rw [r_wk h1, r_rI, r_w (by decide), r_w (by decide), r_w (by decide)]
  have cR : ∀ a, a ≠ 82 → (cl_w (cl_wr (cl_w (cl_w (cl_w σ 79 n (nI t)) 80 n (nI p)) 81 n w) 82 n r) 47 15 (nI (n + 1))).2.2.1 a = σ.2.2.1 a := fun a h1 => by rw [r_wL, r_r h1]; rfl
  have q44 : ∀ j, (rf_w (rf_w (rf_w (rf_w (rf_w ρ 44 n (nI t)) 45 n (nI p)) 46 n f) 47 n v) 0 78 (nI (n + 1))).1 44 j = if j = n then nI t else ρ.1 44 j := fun j => by rw [q_w (by decide), q_w (by decide), q_w (by decide), q_w (by decide), g_q]; simp only [true_and]
  have q45 : ∀ j, (rf_w (rf_w (rf_w (rf_w (rf_w ρ 44 n (nI t)) 45 n (nI p)) 46 n f) 47 n v) 0 78 (nI (n + 1))).1 45 j = if j = n then nI p else ρ.1 45 j := fun j => by rw [q_w (by decide), q_w (by decide), q_w (by decide), g_q, q_w (by decide)]; simp only [true_and]
  have q46 : ∀ j, (rf_w (rf_w (rf_w (rf_w (rf_w ρ 44 n (nI t)) 45 n (nI p)) 46 n f) 47 n v) 0 78 (nI (n + 1))).1 46 j = if j = n then f else ρ.1 46 j := fun j => by rw [q_w (by decide), q_w (by decide), g_q, q_w (by decide), q_w (by decide)]; simp only [true_and]
  have q47 : ∀ j, (rf_w (rf_w (rf_w (rf_w (rf_w ρ 44 n (nI t)) 45 n (nI p)) 46 n f) 47 n v) 0 78 (nI (n + 1))).1 47 j = if j = n then v else ρ.1 47 j := fun j => by rw [q_w (by decide), g_q, q_w (by decide), q_w (by decide), q_w (by decide)]; simp only [true_and]
  have qA : ∀ c, c ≠ 0 → (c < 44 ∨ 47 < c) → (rf_w (rf_w (rf_w (rf_w (rf_w ρ 44 n (nI t)) 45 n (nI p)) 46 n f) 47 n v) 0 78 (nI (n + 1))).1 c = ρ.1 c := fun c h1 h2 => by rw [q_w h1, q_w (by omega), q_w (by omega), q_w (by omega), q_w (by omega)]
  have fA : ∀ j, j ≠ 78 → (rf_w (rf_w (rf_w (rf_w (rf_w ρ 44 n (nI t)) 45 n (nI p)) 46 n f) 47 n v) 0 78 (nI (n + 1))).1 0 j = ρ.1 0 j := fun j h1 => by rw [q_wk h1, q_w (by decide), q_w (by decide), q_w (by decide), q_w (by decide)]
  have O1 := O.mono (Nat.le_succ k)
  obtain ⟨hh, B⟩ := O.ou
  have e15 : (cl_w (cl_wr (cl_w (cl_w (cl_w σ 79 n (nI t)) 80 n (nI p)) 81 n w) 82 n r) 47 15 (nI (n + 1))).1 47 15 = nI (n + 1) := r_ws
  have e78 : (rf_w (rf_w (rf_w (rf_w (rf_w ρ 44 n (nI t)) 45 n (nI p)) 46 n f) 47 n v) 0 78 (nI (n + 1))).1 0 78 = nI (n + 1) := q_ws
  have cT' : (cl_w (cl_wr (cl_w (cl_w (cl_w σ 79 n (nI t)) 80 n (nI p)) 81 n w) 82 n r) 47 15 (nI (n + 1))).2.2.2 = σ.2.2.2 := rfl
  generalize (cl_w (cl_wr (cl_w (cl_w (cl_w σ 79 n (nI t)) 80 n (nI p)) 81 n w) 82 n r) 47 15 (nI (n + 1))) = τ at c79 c80 c81 c82 cA cK cR cT' e15 ⊢
  generalize (rf_w (rf_w (rf_w (rf_w (rf_w ρ 44 n (nI t)) 45 n (nI p)) 46 n f) 47 n v) 0 78 (nI (n + 1))) = τq at q44 q45 q46 q47 qA fA e78 ⊢
  have G : TGo W W σ τ := by
    have lo : ∀ a, pt W.ts a → (30 < a ∧ a < 38) ∨ 324 < a := by
      intro a ha
      rcases ha with rfl | ha
      · omega
      · have := h.T.C.mem a ha; omega
    exact ⟨Wd.le.refl W, fun a ha j _ => by have := lo a ha; rw [cA a (by omega) (by omega)], fun a ha j _ _ => by have := lo a ha; rw [cR a (by omega)], h.T.L.inm, fun b _ => by rw [cT'], by rw [cT']; exact Nat.le_refl _⟩
  refine ⟨⟨hh, B.fr G (cA 38 (by omega) (by omega)) (cR 39 (by omega)) (cA 40 (by omega) (by omega)) (fun j _ => by rw [qA 76 (by omega) (by omega)]) (fA 110 (by decide))⟩, by rw [cA 38 (by omega) (by omega)]; exact O.of, fun d hd => by rw [cA 45 (by omega) (by omega), cR 46 (by omega), qA 40 (by omega) (by omega), qA 41 (by omega) (by omega)]; exact O.d0 d hd, ⟨n + 1, by omega, e15, e78, ?_, ?_⟩, by rw [cK 8 (by decide), fA 51 (by decide)]; exact O.on, by rw [cA 0 (by omega) (by omega), fA 52 (by decide), fA 51 (by decide), fA 18 (by decide)]; exact O1.bt, by rw [cK 14 (by decide), fA 53 (by decide)]; exact O.wr, by rw [cR 0 (by omega)]; exact O.sp⟩
  · intro j hj
    rw [c79, c80, c81, c82, q44, q45, q46, q47, qA 48 (by omega) (by omega)]
    by_cases q : j = n
    · simp only [if_pos q]
      exact ⟨t, p, rfl, rfl, by rw [t2, n_cl (by omega)]; omega, rfl, rfl, hp, ho⟩
    · simp only [if_neg q]
      exact e3 j (by omega)
  · intro i j hij hj
    rw [q44, q44, if_neg (show ¬ i = n by omega)]
    by_cases q : j = n
    · rw [if_pos q]
      obtain ⟨t', -, -, a2, a3, -⟩ := e3 i (by omega)
      rw [t2, n_cl (by omega)] at a3
      rw [a2, n_cl (by omega), n_cl (by omega)]; exact a3
    · rw [if_neg q]; exact e4 i j hij (by omega)
end Z2_M7
