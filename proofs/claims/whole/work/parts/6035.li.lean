section Z2_LI
variable {K : Bd} {W W' : Wd} {b : Bool} {k s p : Nat} {σ σ' : cl_S} {ρ ρ' : rf_S}
theorem mpl_d {c j : Nat} (h : c = 74 ∨ c = 75) (h1 : 64 * s ≤ j) (h2 : j < 64 * s + 64) : mpl b s c j := Or.inr (Or.inr (Or.inr (Or.inr (Or.inr (Or.inr (Or.inr (Or.inr (Or.inr (Or.inl ⟨h, h1, h2⟩)))))))))
/-- a change of the machine's counts and of its disk -/
def Ldk (s : Nat) (σ σ' : cl_S) (ρ ρ' : rf_S) : Prop := (∀ a, a ≠ 47 + 132 * s → a ≠ 42 + 139 * s → σ'.1 a = σ.1 a) ∧ (∀ j, j ≠ 8 → j ≠ 13 → j ≠ 14 → σ'.1 (47 + 132 * s) j = σ.1 (47 + 132 * s) j) ∧ (∀ a, a ≠ 43 + 139 * s → σ'.2.2.1 a = σ.2.2.1 a) ∧ (σ'.2.1 = σ.2.1) ∧ (σ'.2.2.2 = σ.2.2.2) ∧ (∀ c, c ≠ 0 → c ≠ 74 → c ≠ 75 → ρ'.1 c = ρ.1 c) ∧ (∀ c j, c = 74 ∨ c = 75 → (j < 64 * s ∨ 64 * s + 64 ≤ j) → ρ'.1 c j = ρ.1 c j) ∧ (ρ'.2 = ρ.2) ∧ (∀ j, j ≠ 51 → j ≠ 53 → j ≠ 54 → j ≠ 108 → ρ'.1 0 j = ρ.1 0 j) ∧ (s = 1 → ∀ j, ρ'.1 0 j = ρ.1 0 j)
theorem Ldk.cI {s : Nat} {σ σ' : cl_S} {ρ ρ' : rf_S} (hS : Ldk s σ σ' ρ ρ') : ∀ a, a ≠ 47 + 132 * s → a ≠ 42 + 139 * s → σ'.1 a = σ.1 a := hS.1
theorem Ldk.cK {s : Nat} {σ σ' : cl_S} {ρ ρ' : rf_S} (hS : Ldk s σ σ' ρ ρ') : ∀ j, j ≠ 8 → j ≠ 13 → j ≠ 14 → σ'.1 (47 + 132 * s) j = σ.1 (47 + 132 * s) j := hS.2.1
theorem Ldk.cR {s : Nat} {σ σ' : cl_S} {ρ ρ' : rf_S} (hS : Ldk s σ σ' ρ ρ') : ∀ a, a ≠ 43 + 139 * s → σ'.2.2.1 a = σ.2.2.1 a := hS.2.2.1
theorem Ldk.cL {s : Nat} {σ σ' : cl_S} {ρ ρ' : rf_S} (hS : Ldk s σ σ' ρ ρ') : σ'.2.1 = σ.2.1 := hS.2.2.2.1
theorem Ldk.cT {s : Nat} {σ σ' : cl_S} {ρ ρ' : rf_S} (hS : Ldk s σ σ' ρ ρ') : σ'.2.2.2 = σ.2.2.2 := hS.2.2.2.2.1
theorem Ldk.qo {s : Nat} {σ σ' : cl_S} {ρ ρ' : rf_S} (hS : Ldk s σ σ' ρ ρ') : ∀ c, c ≠ 0 → c ≠ 74 → c ≠ 75 → ρ'.1 c = ρ.1 c := hS.2.2.2.2.2.1
theorem Ldk.qp {s : Nat} {σ σ' : cl_S} {ρ ρ' : rf_S} (hS : Ldk s σ σ' ρ ρ') : ∀ c j, c = 74 ∨ c = 75 → (j < 64 * s ∨ 64 * s + 64 ≤ j) → ρ'.1 c j = ρ.1 c j := hS.2.2.2.2.2.2.1
theorem Ldk.ql {s : Nat} {σ σ' : cl_S} {ρ ρ' : rf_S} (hS : Ldk s σ σ' ρ ρ') : ρ'.2 = ρ.2 := hS.2.2.2.2.2.2.2.1
theorem Ldk.qf {s : Nat} {σ σ' : cl_S} {ρ ρ' : rf_S} (hS : Ldk s σ σ' ρ ρ') : ∀ j, j ≠ 51 → j ≠ 53 → j ≠ 54 → j ≠ 108 → ρ'.1 0 j = ρ.1 0 j := hS.2.2.2.2.2.2.2.2.1
theorem Ldk.q0 {s : Nat} {σ σ' : cl_S} {ρ ρ' : rf_S} (hS : Ldk s σ σ' ρ ρ') : s = 1 → ∀ j, ρ'.1 0 j = ρ.1 0 j := hS.2.2.2.2.2.2.2.2.2
theorem Ldk.sm (L : Ldk s σ σ' ρ ρ') (hs : s < 2) : SmT σ σ' := by
  have s01 : s = 0 ∨ s = 1 := by omega
  exact ⟨fun a ha => ⟨L.cI a (by omega) (by omega), L.cR a (by omega)⟩, L.cT⟩
theorem Ldk.fr (L : Ldk s σ σ' ρ ρ') (hs : s < 2) (T : TermR W.n0 σ ρ W.ts W.tm W.N) : Fr (mrw s) (mpl b s) (scm s) W W σ σ' ρ ρ' := by
  have sm := L.sm hs
  have s01 : s = 0 ∨ s = 1 := by omega
  have lo : ∀ a, pt W.ts a → (30 < a ∧ a < 38) ∨ 324 < a := by
    intro a ha
    rcases ha with rfl | ha
    · omega
    · have := T.C.mem a ha; omega
  refine ⟨⟨Wd.le.refl W, fun a ha j _ => by rw [(sm.r a (lo a ha)).1], fun a ha j _ _ => by rw [(sm.r a (lo a ha)).2], T.L.inm, fun b _ => by rw [sm.t], by rw [sm.t]; exact Nat.le_refl _⟩, fun a q _ _ => L.cI a (fun e => q (by unfold mrw; omega)) (fun e => q (by unfold mrw; omega)), fun a _ => by rw [L.cL], fun a q _ _ => L.cR a (fun e => q (by unfold mrw; omega)), fun a _ => by rw [L.cT], fun c j hc q => ?_, L.ql, fun j q => ?_⟩
  · by_cases e : c = 74 ∨ c = 75
    · exact L.qp c j e (by
        apply Classical.byContradiction
        intro w
        exact q (mpl_d e (by omega) (by omega)))
    · rw [L.qo c (by omega) (by omega) (by omega)]
  · rcases s01 with rfl | rfl
    · exact L.qf j (fun e => q (by unfold scm; omega)) (fun e => q (by unfold scm; omega)) (fun e => q (by unfold scm; omega)) (fun e => q (by unfold scm scr; omega))
    · exact L.q0 rfl j
theorem Ldk.tm (L : Ldk s σ σ' ρ ρ') (hs : s < 2) (T : TermR W.n0 σ ρ W.ts W.tm W.N) : TermR W.n0 σ' ρ' W.ts W.tm W.N := T.sm (L.sm hs) (fun c h1 h2 => L.qo c (by omega) (by omega) (by omega)) (fun j hj => L.qf j (by omega) (by omega) (by omega) (by omega))
theorem Ldk.mr (L : Ldk s σ σ' ρ ρ') (hs : s < 2) (T : TermR W.n0 σ ρ W.ts W.tm W.N) (hnp : W.np ≤ 8) (M : MRel W s σ ρ) (ct : ∃ n, n ≤ 1000 ∧ σ'.1 (47 + 132 * s) 13 = nI n ∧ (s = 0 → ρ'.1 0 54 = nI n) ∧ (s = 1 → n = 0)) (dk : ∀ b, b < 64 → σ'.1 (42 + 139 * s) b = ρ'.1 74 (64 * s + b) ∧ TO W (σ'.2.2.1 (43 + 139 * s) b) (ρ'.1 75 (64 * s + b)) ∧ (ρ'.1 75 (64 * s + b) = -1 → ρ'.1 74 (64 * s + b) = 0)) (on : s = 1 → σ'.1 179 8 = 1) : MRel W s σ' ρ' := by
  have s01 : s = 0 ∨ s = 1 := by omega
  have F : Fr (mrw s) (mpl false s) (scm s) W W σ σ' ρ ρ' := L.fr hs T
  refine ⟨M.prs F.G hs hnp (fun a h1 h2 => L.cI a (by omega) (by omega)) (fun a h1 h2 => L.cR a (by omega)) (fun c h1 h2 h3 h4 h5 => L.qo c (by omega) (by omega) (by omega)), by rw [L.cR _ (by omega)]; exact M.cp, by rw [L.cK 2 (by omega) (by omega) (by omega)]; exact M.re, by rw [L.cK 9 (by omega) (by omega) (by omega), L.qo 48 (by omega) (by omega) (by omega)]; exact M.tk, by rw [L.cK 10 (by omega) (by omega) (by omega), L.cK 11 (by omega) (by omega) (by omega), L.qo 49 (by omega) (by omega) (by omega), L.qo 50 (by omega) (by omega) (by omega)]; exact M.sl, by rw [L.cK 12 (by omega) (by omega) (by omega), L.qo 51 (by omega) (by omega) (by omega)]; exact M.yl, ct, fun c i hc hi => by rw [L.cI _ (by omega) (by omega), L.qo 71 (by omega) (by omega) (by omega)]; exact M.sn c i hc hi, fun c hc => by rw [L.cI _ (by omega) (by omega), L.qo 72 (by omega) (by omega) (by omega)]; exact M.ur c hc, fun c hc => by rw [L.cR _ (by omega), L.qo 73 (by omega) (by omega) (by omega)]; exact M.st c hc, dk, on⟩
theorem Ldk.bd (L : Ldk s σ σ' ρ ρ') (B : Bud K W b σ ρ) : Bud K W b σ' ρ' := by
  have e : ∀ s', phi s' ρ' = phi s' ρ := fun s' => phi_eq (fun g => by rw [L.qo 61 (by omega) (by omega) (by omega)]) (fun g => by rw [L.qo 69 (by omega) (by omega) (by omega)])
  exact ⟨by rw [e, e]; exact B.n, by rw [e, e]; exact B.l, by rw [L.cT]; exact B.c, by rw [L.cT]; exact B.s⟩
theorem Ldk.oB (L : Ldk s σ σ' ρ ρ') (hs : s < 2) (T : TermR W.n0 σ ρ W.ts W.tm W.N) (O : OthB W k σ ρ) (on : σ'.1 47 8 = ρ'.1 0 51 ∧ (ρ'.1 0 51 = 0 ∨ ρ'.1 0 51 = 1) ∧ (ρ'.1 0 51 = 1 → 0 < W.np)) (bt : ∃ n, ρ.1 0 52 = nI n ∧ σ.1 0 14 = nI n ∧ 2 * n ≤ k + (if ρ'.1 0 51 = 0 then 0 else 1) ∧ ∃ E, ρ.1 0 18 = nI E ∧ E ≤ 16840 * n) (wr : σ'.1 47 14 = ρ'.1 0 53) : OthB W k σ' ρ' := by
  have s01 : s = 0 ∨ s = 1 := by omega
  have F : Fr (mrw s) (mpl false s) (scm s) W W σ σ' ρ ρ' := L.fr hs T
  have hI : ∀ a, a ≠ 47 → a ≠ 42 → a ≠ 179 → a ≠ 181 → σ'.1 a = σ.1 a := fun a h1 h2 h3 h4 => L.cI a (by omega) (by omega)
  have hR : ∀ a, a ≠ 43 → a ≠ 182 → σ'.2.2.1 a = σ.2.2.1 a := fun a h1 h2 => L.cR a (by omega)
  have h15 : σ'.1 47 15 = σ.1 47 15 := by
    rcases s01 with rfl | rfl
    · exact L.cK 15 (by omega) (by omega) (by omega)
    · rw [L.cI 47 (by omega) (by omega)]
  obtain ⟨hh, B⟩ := O.ou
  refine ⟨⟨hh, B.fr F.G (hI 38 (by omega) (by omega) (by omega) (by omega)) (hR 39 (by omega) (by omega)) (hI 40 (by omega) (by omega) (by omega) (by omega)) (fun j _ => by rw [L.qo 76 (by omega) (by omega) (by omega)]) (L.qf 110 (by omega) (by omega) (by omega) (by omega))⟩, by rw [hI 38 (by omega) (by omega) (by omega) (by omega)]; exact O.of, fun d hd => by rw [hI 45 (by omega) (by omega) (by omega) (by omega), hR 46 (by omega) (by omega), L.qo 40 (by omega) (by omega) (by omega), L.qo 41 (by omega) (by omega) (by omega)]; exact O.d0 d hd, ?_, on, ?_, wr, by rw [hR 0 (by omega) (by omega)]; exact O.sp⟩
  · rw [h15, L.qf 78 (by omega) (by omega) (by omega) (by omega), hI 79 (by omega) (by omega) (by omega) (by omega), hI 80 (by omega) (by omega) (by omega) (by omega), hI 81 (by omega) (by omega) (by omega) (by omega), hR 82 (by omega) (by omega), L.qo 44 (by omega) (by omega) (by omega), L.qo 45 (by omega) (by omega) (by omega), L.qo 46 (by omega) (by omega) (by omega), L.qo 47 (by omega) (by omega) (by omega), L.qo 48 (by omega) (by omega) (by omega)]
    exact O.ip
  · obtain ⟨n, e1, e2, e3⟩ := bt
    exact ⟨n, by rw [hI 0 (by omega) (by omega) (by omega) (by omega)]; exact e2, by rw [L.qf 52 (by omega) (by omega) (by omega) (by omega)]; exact e1, e3.1, by rw [L.qf 18 (by omega) (by omega) (by omega) (by omega)]; exact e3.2⟩
/-- the counts of writes -/
theorem Ak.cut (h : Ak K W b k s p σ ρ) (L : Ldk s σ σ' ρ ρ') {n : Nat} (hn : n ≤ 1000) (c8 : σ'.1 (47 + 132 * s) 8 = σ.1 (47 + 132 * s) 8) (c42 : σ'.1 (42 + 139 * s) = σ.1 (42 + 139 * s)) (c43 : σ'.2.2.1 (43 + 139 * s) = σ.2.2.1 (43 + 139 * s)) (c13 : σ'.1 (47 + 132 * s) 13 = nI n) (q54 : s = 0 → ρ'.1 0 54 = nI n) (n1 : s = 1 → n = 0) (q53 : s = 0 → σ'.1 47 14 = ρ'.1 0 53) (q74 : ∀ c, c = 74 ∨ c = 75 → ρ'.1 c = ρ.1 c) (q51 : ρ'.1 0 51 = ρ.1 0 51) (q108 : ρ'.1 0 108 = ρ.1 0 108) : Ak K W b k s p σ' ρ' ∧ Kp s p ρ ρ' := by
  have s2 := h.s2
  have s01 : s = 0 ∨ s = 1 := by omega
  have M' : MRel W s σ' ρ' := L.mr s2 h.R.T h.R.cf.np.1 h.M ⟨n, hn, c13, q54, n1⟩ (by rw [c42, c43, q74 74 (by omega), q74 75 (by omega)]; exact h.M.dk) (fun e => by subst e; rw [show (179:Nat) = 47 + 132 * 1 by omega, c8]; exact h.M.on rfl)
  have O := h.R.oB
  have O' : OthB W k σ' ρ' := by
    refine L.oB s2 h.R.T O ?_ ?_ ?_
    · rw [q51]
      rcases s01 with rfl | rfl
      · rw [show (47:Nat) = 47 + 132 * 0 by omega, c8]; exact O.on
      · rw [L.cI 47 (by omega) (by omega)]; exact O.on
    · obtain ⟨m, e1, e2, e3⟩ := O.bt
      exact ⟨m, e2, e1, by rw [q51]; exact e3⟩
    · rcases s01 with rfl | rfl
      · exact q53 rfl
      · rw [L.cI 47 (by omega) (by omega), L.q0 rfl]; exact O.wr
  exact ⟨h.mach (L.fr s2 h.R.T) M' O' (by rw [L.cR _ (by omega)]) (L.tm s2 h.R.T) (L.bd h.R.bd) (fun j hj => by
    by_cases e : j = 108
    · rw [e]; exact q108
    · exact L.qf j (by omega) (by omega) (by omega) e) c8 (fun p' hp' => ⟨by rw [L.cI _ (by omega) (by omega)], fun j hj => by rw [L.cI _ (by omega) (by omega)]⟩), L.qf 121 (by omega) (by omega) (by omega) (by omega), by rw [L.qo 54 (by omega) (by omega) (by omega)], by rw [L.qo 48 (by omega) (by omega) (by omega)]⟩
/-- the outcome of a seal: the power may go -/
def AkS (K : Bd) (W : Wd) (b : Bool) (k s p : Nat) (ρ : rf_S) : Int32 × cl_S → Int32 × rf_S → Prop := fun u v => AkO K W b k s p ρ u v ∨ (s = 0 ∧ b = false ∧ Rel K W b k u.2 v.2 ∧ u.2.1 47 8 = 0 ∧ v.2.1 0 108 = 1 ∧ v.2.1 0 79 = 0)
/-- the power goes -/
theorem Ak.gone (h : Ak K W b k 0 p σ ρ) {bi : Nat} (hbi : bi < 64) : Rel K W b k (cl_w (cl_wr (cl_w (cl_w (cl_w σ 47 14 (σ.1 47 14 + 1)) 47 13 0) 42 bi 0) 43 bi (some 33)) 47 8 0) (rf_w (rf_w (rf_w (rf_w (rf_w (rf_w ρ 0 53 (ρ.1 0 53 + 1)) 0 54 0) 74 bi 0) 75 bi (-1)) 0 51 0) 0 108 1) := by
  have hb : b = false := by rcases h.hs with q | q; exact q.2; omega
  have O := h.R.oB
  have e14 : (cl_w (cl_wr (cl_w (cl_w (cl_w σ 47 14 (σ.1 47 14 + 1)) 47 13 0) 42 bi 0) 43 bi (some 33)) 47 8 0).1 47 14 = σ.1 47 14 + 1 := by simp only [g_w, r_rI, Nat.reduceEqDiff, and_false, false_and, if_false, true_and, and_true, if_true, and_self]
  have e13 : (cl_w (cl_wr (cl_w (cl_w (cl_w σ 47 14 (σ.1 47 14 + 1)) 47 13 0) 42 bi 0) 43 bi (some 33)) 47 8 0).1 47 13 = 0 := by simp only [g_w, r_rI, Nat.reduceEqDiff, and_false, false_and, if_false, true_and, and_true, if_true, and_self]
  have e8 : (cl_w (cl_wr (cl_w (cl_w (cl_w σ 47 14 (σ.1 47 14 + 1)) 47 13 0) 42 bi 0) 43 bi (some 33)) 47 8 0).1 47 8 = 0 := r_ws
  have e42 : ∀ j, (cl_w (cl_wr (cl_w (cl_w (cl_w σ 47 14 (σ.1 47 14 + 1)) 47 13 0) 42 bi 0) 43 bi (some 33)) 47 8 0).1 42 j = if j = bi then 0 else σ.1 42 j := fun j => by simp only [g_w, r_rI, Nat.reduceEqDiff, and_false, false_and, if_false, true_and, and_true, if_true, and_self]
  have e43 : ∀ j, (cl_w (cl_wr (cl_w (cl_w (cl_w σ 47 14 (σ.1 47 14 + 1)) 47 13 0) 42 bi 0) 43 bi (some 33)) 47 8 0).2.2.1 43 j = if j = bi then some 33 else σ.2.2.1 43 j := fun j => by simp only [g_r, r_wL, Nat.reduceEqDiff, and_false, false_and, if_false, true_and, and_true, if_true, and_self]
  have f53 : (rf_w (rf_w (rf_w (rf_w (rf_w (rf_w ρ 0 53 (ρ.1 0 53 + 1)) 0 54 0) 74 bi 0) 75 bi (-1)) 0 51 0) 0 108 1).1 0 53 = ρ.1 0 53 + 1 := by simp only [g_q, Nat.reduceEqDiff, and_false, false_and, if_false, true_and, and_true, if_true, and_self]
  have f54 : (rf_w (rf_w (rf_w (rf_w (rf_w (rf_w ρ 0 53 (ρ.1 0 53 + 1)) 0 54 0) 74 bi 0) 75 bi (-1)) 0 51 0) 0 108 1).1 0 54 = 0 := by simp only [g_q, Nat.reduceEqDiff, and_false, false_and, if_false, true_and, and_true, if_true, and_self]
  have f51 : (rf_w (rf_w (rf_w (rf_w (rf_w (rf_w ρ 0 53 (ρ.1 0 53 + 1)) 0 54 0) 74 bi 0) 75 bi (-1)) 0 51 0) 0 108 1).1 0 51 = 0 := by simp only [g_q, Nat.reduceEqDiff, and_false, false_and, if_false, true_and, and_true, if_true, and_self]
  have f74 : ∀ j, (rf_w (rf_w (rf_w (rf_w (rf_w (rf_w ρ 0 53 (ρ.1 0 53 + 1)) 0 54 0) 74 bi 0) 75 bi (-1)) 0 51 0) 0 108 1).1 74 j = if j = bi then 0 else ρ.1 74 j := fun j => by simp only [g_q, Nat.reduceEqDiff, and_false, false_and, if_false, true_and, and_true, if_true, and_self]
  have f75 : ∀ j, (rf_w (rf_w (rf_w (rf_w (rf_w (rf_w ρ 0 53 (ρ.1 0 53 + 1)) 0 54 0) 74 bi 0) 75 bi (-1)) 0 51 0) 0 108 1).1 75 j = if j = bi then -1 else ρ.1 75 j := fun j => by simp only [g_q, Nat.reduceEqDiff, and_false, false_and, if_false, true_and, and_true, if_true, and_self]
  have L : Ldk 0 σ (cl_w (cl_wr (cl_w (cl_w (cl_w σ 47 14 (σ.1 47 14 + 1)) 47 13 0) 42 bi 0) 43 bi (some 33)) 47 8 0) ρ (rf_w (rf_w (rf_w (rf_w (rf_w (rf_w ρ 0 53 (ρ.1 0 53 + 1)) 0 54 0) 74 bi 0) 75 bi (-1)) 0 51 0) 0 108 1) := by
    refine ⟨fun a h1 h2 => by rw [r_w h1, r_rI, r_w h2, r_w h1, r_w h1], fun j h1 h2 h3 => by simp only [g_w, r_rI, h1, h2, h3, Nat.reduceEqDiff, Nat.reduceMul, Nat.reduceAdd, and_false, false_and, if_false], fun a h1 => by rw [r_wL, r_r h1, r_wL, r_wL, r_wL], rfl, rfl, fun c h1 h2 h3 => by rw [q_w h1, q_w h1, q_w h3, q_w h2, q_w h1, q_w h1], fun c j hc hj => ?_, rfl, fun j h1 h2 h3 h4 => by simp only [g_q, h1, h2, h3, h4, Nat.reduceEqDiff, and_false, false_and, if_false], fun e => by omega⟩
    rcases hc with rfl | rfl
    · rw [f74, if_neg (by omega)]
    · rw [f75, if_neg (by omega)]
  generalize (cl_w (cl_wr (cl_w (cl_w (cl_w σ 47 14 (σ.1 47 14 + 1)) 47 13 0) 42 bi 0) 43 bi (some 33)) 47 8 0) = τ at *
  generalize (rf_w (rf_w (rf_w (rf_w (rf_w (rf_w ρ 0 53 (ρ.1 0 53 + 1)) 0 54 0) 74 bi 0) 75 bi (-1)) 0 51 0) 0 108 1) = τq at *
  have M' : MRel W 0 τ τq := by
    refine L.mr (by omega) h.R.T h.R.cf.np.1 h.M ⟨0, by omega, e13, fun _ => f54, fun e => by omega⟩ (fun d hd => ?_) (fun e => by omega)
    have q := h.M.dk d hd
    rw [show 64 * 0 + d = d by omega] at q ⊢
    show τ.1 42 d = _ ∧ TO W (τ.2.2.1 43 d) _ ∧ _
    rw [e42, e43, f74, f75]
    by_cases c : d = bi
    · rw [if_pos c, if_pos c, if_pos c, if_pos c]; exact ⟨rfl, Or.inl ⟨rfl, rfl⟩, fun _ => rfl⟩
    · rw [if_neg c, if_neg c, if_neg c, if_neg c]; exact q
  refine h.R.mach (by omega) (L.fr (by omega) h.R.T) M' ?_ (fun s' hs' => by rw [L.cR _ (by omega)]) (L.tm (by omega) h.R.T) (L.bd h.R.bd) (fun p' hp' => ⟨by rw [L.cI _ (by omega) (by omega)], fun j hj => by rw [L.cI _ (by omega) (by omega)]⟩) (fun e => by rcases h.hs with q | q; exact absurd (q.2.symm.trans e) (by decide); exact q.1)
  refine L.oB (by omega) h.R.T O ⟨by rw [e8, f51], Or.inl f51, fun e => by rw [f51] at e; exact absurd e (by decide)⟩ ?_ (by rw [e14, f53, O.wr])
  obtain ⟨m, a1, a2, a3⟩ := O.bt
  obtain ⟨n, b1, b2⟩ := h.bk rfl
  rw [f51, if_pos rfl]
  exact ⟨n, b1, by rw [a1, ← a2, b1], by omega, b2.2⟩
end Z2_LI
