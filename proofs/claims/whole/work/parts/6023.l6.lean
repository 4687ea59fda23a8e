section Z2_L6
variable {K : Bd} {W W' : Wd} {b : Bool} {k s p : Nat} {σ σ' : cl_S} {ρ ρ' : rf_S}
theorem Ak.ne33 (h : Ak K W b k s p σ ρ) {t : Nat} (ht : t < W.N) : ¬ (some (W.tm t) = some 33) := fun q => by have := h.R.T.C.mem _ (h.R.T.L.inm t ht); have := Option.some.inj q; omega
/-- the parts of a kind, counted -/
def prc (kk : Nat) : Nat := if kk = 4 ∨ kk = 6 then 1 else if kk = 8 then 3 else 2
theorem c_parts {kk : Nat} (h : 3 ≤ kk ∧ kk < 10) (σ : cl_S) : fc_X10_parts (nI kk) σ = some (nI (prc kk), σ) := by
  have q : kk = 3 ∨ kk = 4 ∨ kk = 5 ∨ kk = 6 ∨ kk = 7 ∨ kk = 8 ∨ kk = 9 := by omega
  rcases q with rfl | rfl | rfl | rfl | rfl | rfl | rfl <;> rfl
/-- the class looks at its handles one by one -/
theorem c_mk_no {x2 : Int32} {m r : Nat} (hr : 1 ≤ r) (hrm : r ≤ m) (hm : m ≤ 3) (hl : fc_X8_has (92 + 135 * s + 12 * p) (σ.1 (86 + 135 * s + 12 * p) r) σ = some (0, σ)) : lp (fun z : (Int32 × cl_S) => lc_X5_makeOf_8 (47 + 132 * s) (some (83 + 135 * s + 12 * p)) x2 (nI m) z.1 z.2) (nI r, σ) = some (.inl (-2, σ)) := by
  refine lp_end ?_
  show lc_X5_makeOf_8 _ _ _ _ (nI r) σ = _
  unfold lc_X5_makeOf_8
  rw [if_neg (fun w => by have := (n_lt (by omega) (by omega)).mp w; omega), nn_eq, n_ix (show r < 16 by omega) (by omega), n_cl (by omega), show 83 + 135 * s + 12 * p + 9 = 92 + 135 * s + 12 * p by omega, show 83 + 135 * s + 12 * p + 1 + 2 = 86 + 135 * s + 12 * p by omega, hl, bd2_eq, if_pos rfl]
theorem c_mk_next {x2 : Int32} {m r : Nat} (hr : 1 ≤ r) (hrm : r ≤ m) (hm : m ≤ 3) (hl : fc_X8_has (92 + 135 * s + 12 * p) (σ.1 (86 + 135 * s + 12 * p) r) σ = some (1, σ)) : lp (fun z : (Int32 × cl_S) => lc_X5_makeOf_8 (47 + 132 * s) (some (83 + 135 * s + 12 * p)) x2 (nI m) z.1 z.2) (nI r, σ) = lp (fun z : (Int32 × cl_S) => lc_X5_makeOf_8 (47 + 132 * s) (some (83 + 135 * s + 12 * p)) x2 (nI m) z.1 z.2) (nI (r + 1), σ) := by
  refine lp_next ?_
  show lc_X5_makeOf_8 _ _ _ _ (nI r) σ = _
  unfold lc_X5_makeOf_8
  rw [if_neg (fun w => by have := (n_lt (by omega) (by omega)).mp w; omega), nn_eq, n_ix (show r < 16 by omega) (by omega), n_cl (by omega), show 83 + 135 * s + 12 * p + 9 = 92 + 135 * s + 12 * p by omega, show 83 + 135 * s + 12 * p + 1 + 2 = 86 + 135 * s + 12 * p by omega, hl, bd2_eq, if_neg (by decide), vl_eq, show nI r + (1:Int32) = nI (r + 1) from n_add r 1]
theorem c_mk_end {x2 : Int32} {m : Nat} (hm : m ≤ 3) : lp (fun z : (Int32 × cl_S) => lc_X5_makeOf_8 (47 + 132 * s) (some (83 + 135 * s + 12 * p)) x2 (nI m) z.1 z.2) (nI (m + 1), σ) = some (.inr (nI (m + 1), σ)) := by
  refine lp_end ?_
  show lc_X5_makeOf_8 _ _ _ _ (nI (m + 1)) σ = _
  unfold lc_X5_makeOf_8
  rw [if_pos ((n_lt (by omega) (by omega)).mpr (by omega))]
/-- what the reference does for a TERM of its handles -/
noncomputable def q_mk (kk : Nat) (x y z : Int32) (ρ : rf_S) : Option (Int32 × rf_S) :=
  bd2 (fq_isHandle x ρ) (fun r ρ => if r = 0 then some ((-2:Int32), ρ) else
    if prc kk = 1 then bd2 (fq_of x ρ) (fun a ρ => bd2 (fq_made (nI kk) a 0 0 ρ) (fun r ρ => some (r, ρ))) else
      bd2 (fq_isHandle y ρ) (fun r ρ => if r = 0 then some ((-2:Int32), ρ) else
        if prc kk = 2 then bd2 (fq_of x ρ) (fun a ρ => bd2 (fq_of y ρ) (fun c ρ => bd2 (fq_made (nI kk) a c 0 ρ) (fun r ρ => some (r, ρ)))) else
          bd2 (fq_isHandle z ρ) (fun r ρ => if r = 0 then some ((-2:Int32), ρ) else bd2 (fq_of x ρ) (fun a ρ => bd2 (fq_of y ρ) (fun c ρ => bd2 (fq_of z ρ) (fun d ρ => bd2 (fq_made (nI kk) a c d ρ) (fun r ρ => some (r, ρ))))))))
theorem ask_mk (v : KV K) (h : Ak K W b k s p σ ρ) {kk : Nat} (hk : 3 ≤ kk ∧ kk < 10) : Sim (fc_X5_makeOf (47 + 132 * s) (some (83 + 135 * s + 12 * p)) (nI kk) σ) (q_mk kk (σ.1 (86 + 135 * s + 12 * p) 1) (σ.1 (86 + 135 * s + 12 * p) 2) (σ.1 (86 + 135 * s + 12 * p) 3) ρ) (AkO K W b k s p ρ) := by
  have e33 := h.R.T.C.tms.2.2.1
  have z1 : ¬ (1:Int32) = 0 := by decide
  have ext : ∀ {x : Option (Int32 × cl_S)} {y : Option (Int32 × rf_S)} {P : Int32 × cl_S → Int32 × rf_S → Prop}, Sim x y P → Sim (bd2 x (fun r σ => some (r, σ))) (bd2 y (fun r ρ => some (r, ρ))) P := fun q => Sim.bd2 q (fun _ _ _ _ q => Sim.mk q)
  have c1 : (1:Int32).toNatClampNeg = 1 := by decide
  have c2 : (2:Int32).toNatClampNeg = 2 := by decide
  have c3 : (3:Int32).toNatClampNeg = 3 := by decide
  have i1 : ∀ {α : Type} (x : Option α), ix (1:Int32) 16 x = x := fun x => n_ix (a := 1) (by omega) (by omega)
  have i2 : ∀ {α : Type} (x : Option α), ix (2:Int32) 16 x = x := fun x => n_ix (a := 2) (by omega) (by omega)
  have i3 : ∀ {α : Type} (x : Option α), ix (3:Int32) 16 x = x := fun x => n_ix (a := 3) (by omega) (by omega)
  have a9 : 83 + 135 * s + 12 * p + 9 = 92 + 135 * s + 12 * p := by omega
  have a3 : 83 + 135 * s + 12 * p + 1 + 2 = 86 + 135 * s + 12 * p := by omega
  have hp : prc kk = 1 ∨ prc kk = 2 ∨ prc kk = 3 := by
    unfold prc
    by_cases a : kk = 4 ∨ kk = 6
    · rw [if_pos a]; omega
    · rw [if_neg a]
      by_cases c : kk = 8
      · rw [if_pos c]; omega
      · rw [if_neg c]; omega
  have e0 : fc_X5_makeOf (47 + 132 * s) (some (83 + 135 * s + 12 * p)) (nI kk) σ = (lp (fun z : (Int32 × cl_S) => lc_X5_makeOf_8 (47 + 132 * s) (some (83 + 135 * s + 12 * p)) (nI kk) (nI (prc kk)) z.1 z.2) (nI 1, σ)).bind (fun y => Sum.elim (fun z => some z) (fun z => ec_X5_makeOf_8 (47 + 132 * s) (some (83 + 135 * s + 12 * p)) (nI kk) (nI (prc kk)) z.1 z.2) y) := by
    unfold fc_X5_makeOf bc_X5_makeOf_0
    rw [c_parts hk, bd2_eq]
    rfl
  rw [e0]
  unfold q_mk
  rcases h.hnd (σ.1 (86 + 135 * s + 12 * p) 1) with ⟨t1, ht1, f1, f2, f3, f4⟩ | ⟨f1, f2, f3⟩
  rotate_left
  · rw [c_mk_no (m := prc kk) (r := 1) (by omega) (by omega) (by omega) f1, f2, bd2_eq, if_pos rfl]
    exact Sim.mk (AkO.same h _)
  rw [c_mk_next (m := prc kk) (r := 1) (by omega) (by omega) (by omega) f1, f2, bd2_eq, if_neg z1]
  rcases hp with hp | hp
  · rw [if_pos hp, hp, c_mk_end (m := 1) (by omega), f4, bd2_eq]
    show Sim (ec_X5_makeOf_8 (47 + 132 * s) (some (83 + 135 * s + 12 * p)) (nI kk) (nI 1) (nI (1 + 1)) σ) _ _
    unfold ec_X5_makeOf_8 bc_X5_makeOf_92 bc_X5_makeOf_125
    rw [nn_eq, i1, c1, a3, a9, f3, bd2_eq, if_pos (by decide), e33, vl_eq, if_pos (by decide), vl_eq, nn_eq, a9]
    refine ext (h.mkT v (kk := kk) (by omega) (by omega) (by omega) ?_)
    have kk46 : kk = 4 ∨ kk = 6 := by unfold prc at hp; split at hp; assumption; split at hp <;> omega
    unfold argR
    rw [if_neg (by omega), if_pos kk46, if_neg (by omega)]
    exact ⟨rfl, ⟨t1, ht1, rfl, rfl⟩, ⟨rfl, rfl⟩, rfl, rfl⟩
  have n46 : ¬ (kk = 4 ∨ kk = 6) := by
    intro w; unfold prc at hp; rw [if_pos w] at hp; omega
  rw [if_neg (show ¬ prc kk = 1 by omega)]
  rcases h.hnd (σ.1 (86 + 135 * s + 12 * p) 2) with ⟨t2, ht2, g1, g2, g3, g4⟩ | ⟨g1, g2, g3⟩
  rotate_left
  · rw [c_mk_no (m := prc kk) (r := 2) (by omega) (by omega) (by omega) g1, g2, bd2_eq, if_pos rfl]
    exact Sim.mk (AkO.same h _)
  rw [c_mk_next (m := prc kk) (r := 2) (by omega) (by omega) (by omega) g1, g2, bd2_eq, if_neg z1]
  rcases hp with hp | hp
  · rw [if_pos hp, hp, c_mk_end (m := 2) (by omega), f4, bd2_eq, g4, bd2_eq]
    show Sim (ec_X5_makeOf_8 (47 + 132 * s) (some (83 + 135 * s + 12 * p)) (nI kk) (nI 2) (nI (2 + 1)) σ) _ _
    unfold ec_X5_makeOf_8 bc_X5_makeOf_92 bc_X5_makeOf_125
    rw [nn_eq, i1, c1, a3, a9, f3, bd2_eq, if_neg (by decide), i2, c2, g3, bd2_eq, if_pos (by decide), e33, vl_eq, nn_eq, a9]
    refine ext (h.mkT v (kk := kk) (by omega) (by omega) (by omega) ?_)
    have n8 : ¬ kk = 8 := by intro w; unfold prc at hp; rw [if_neg n46, if_pos w] at hp; omega
    unfold argR
    rw [if_neg (by omega), if_neg n46, if_neg n8]
    exact ⟨rfl, ⟨t1, ht1, rfl, rfl⟩, ⟨t2, ht2, rfl, rfl⟩, rfl, rfl⟩
  rw [if_neg (show ¬ prc kk = 2 by omega)]
  rcases h.hnd (σ.1 (86 + 135 * s + 12 * p) 3) with ⟨t3, ht3, d1, d2, d3, d4⟩ | ⟨d1, d2, d3⟩
  rotate_left
  · rw [c_mk_no (m := prc kk) (r := 3) (by omega) (by omega) (by omega) d1, d2, bd2_eq, if_pos rfl]
    exact Sim.mk (AkO.same h _)
  rw [c_mk_next (m := prc kk) (r := 3) (by omega) (by omega) (by omega) d1, d2, bd2_eq, if_neg z1, hp, c_mk_end (m := 3) (by omega), f4, bd2_eq, g4, bd2_eq, d4, bd2_eq]
  show Sim (ec_X5_makeOf_8 (47 + 132 * s) (some (83 + 135 * s + 12 * p)) (nI kk) (nI 3) (nI (3 + 1)) σ) _ _
  unfold ec_X5_makeOf_8 bc_X5_makeOf_92 bc_X5_makeOf_125
  rw [nn_eq, i1, c1, a3, a9, f3, bd2_eq, if_neg (by decide), i2, c2, g3, bd2_eq, if_neg (by decide), nn_eq, i3, c3, a3, a9, d3, bd2_eq, nn_eq, a9]
  refine ext (h.mkT v (kk := kk) (by omega) (by omega) (by omega) ?_)
  have e8 : kk = 8 := by unfold prc at hp; rw [if_neg n46] at hp; split at hp; assumption; omega
  unfold argR
  rw [if_neg (by omega), if_neg n46, if_pos e8]
  exact ⟨rfl, ⟨t1, ht1, rfl, rfl⟩, ⟨t2, ht2, rfl, rfl⟩, t3, ht3, rfl, rfl⟩
/-- the parts of a TERM on both sides -/
theorem TermR.prA {ts : List Nat} {tm : Nat → Nat} {N : Nat} {n0 : Nat} (T : TermR n0 σ ρ ts tm N) {t kk : Nat} (ht : t < N) (hk : 2 < kk ∧ kk < 10) (e : ρ.1 1 t = nI kk) : ∃ a, a < N ∧ ρ.1 2 t = nI a ∧ σ.2.2.1 (tm t) 3 = some (tm a) := by
  obtain ⟨E, -, -, hE⟩ := T.Q.e
  obtain ⟨k2, hk2, ek2, hr⟩ := hE t ht
  have : k2 = kk := (n_eq (by omega) (by omega)).mp (ek2.symm.trans e)
  subst this
  unfold rsh at hr
  rw [if_neg (by omega), if_neg (by omega), if_neg (by omega)] at hr
  obtain ⟨⟨x, ex, hx⟩, -⟩ := hr
  exact ⟨x, by omega, ex, T.L.pa t k2 x ht hk.1 hk.2 e ex (by omega)⟩
theorem TermR.prB {ts : List Nat} {tm : Nat → Nat} {N : Nat} {n0 : Nat} (T : TermR n0 σ ρ ts tm N) {t kk : Nat} (ht : t < N) (hk : 2 < kk ∧ kk < 10) (h4 : kk ≠ 4) (h6 : kk ≠ 6) (e : ρ.1 1 t = nI kk) : ∃ a, a < N ∧ ρ.1 3 t = nI a ∧ σ.2.2.1 (tm t) 4 = some (tm a) := by
  obtain ⟨E, -, -, hE⟩ := T.Q.e
  obtain ⟨k2, hk2, ek2, hr⟩ := hE t ht
  have : k2 = kk := (n_eq (by omega) (by omega)).mp (ek2.symm.trans e)
  subst this
  unfold rsh at hr
  rw [if_neg (by omega), if_neg (by omega), if_neg (by omega)] at hr
  have h2 := hr.2.1
  rw [if_neg (by omega)] at h2
  obtain ⟨x, ex, hx⟩ := h2
  exact ⟨x, by omega, ex, T.L.pb t k2 x ht hk.1 hk.2 h4 h6 e ex (by omega)⟩
theorem TermR.prC {ts : List Nat} {tm : Nat → Nat} {N : Nat} {n0 : Nat} (T : TermR n0 σ ρ ts tm N) {t : Nat} (ht : t < N) (e : ρ.1 1 t = nI 8) : ∃ a, a < N ∧ ρ.1 4 t = nI a ∧ σ.2.2.1 (tm t) 5 = some (tm a) := by
  obtain ⟨E, -, -, hE⟩ := T.Q.e
  obtain ⟨k2, hk2, ek2, hr⟩ := hE t ht
  have : k2 = 8 := (n_eq (by omega) (by omega)).mp (ek2.symm.trans e)
  subst this
  unfold rsh at hr
  rw [if_neg (by omega), if_neg (by omega), if_neg (by omega)] at hr
  have h2 := hr.2.2
  rw [if_pos rfl] at h2
  obtain ⟨x, ex, hx⟩ := h2
  exact ⟨x, by omega, ex, T.L.pc t x ht e ex (by omega)⟩
/-- a part of a TERM of a kind comes in -/
theorem look_into (h : Ak K W b k s p σ ρ) {t kk : Nat} (ht : t < W.N) (hk : kk < 10) {r : Option Nat} {v : Int32} (hv : ρ.1 1 t = nI kk → ∃ a, a < W.N ∧ v = nI a ∧ r = some (W.tm a)) : Sim (fc_X5_lookInto (47 + 132 * s) (some (83 + 135 * s + 12 * p)) (some (W.tm t)) (nI kk) r σ) (if ρ.1 1 t = nI kk then bd2 (fq_comes v ρ) (fun r ρ => some (r, ρ)) else some (-3, ρ)) (AkO K W b k s p ρ) := by
  have e33 := h.R.T.C.tms.2.2.1
  unfold fc_X5_lookInto bc_X5_lookInto_0
  rw [e33, vl_eq, if_neg (h.ne33 ht), nn_eq, h.R.T.L.kd t ht]
  refine Sim.ite Iff.rfl (fun c _ => ?_) (fun _ _ => Sim.mk (AkO.same h _))
  obtain ⟨a, ha, rfl, rfl⟩ := hv c
  rw [nn_eq, show 83 + 135 * s + 12 * p + 9 = 92 + 135 * s + 12 * p by omega]
  exact Sim.bd2 (comes_out h ha) (fun _ _ _ _ q => Sim.mk q)
end Z2_L6
