section Z2_L2
variable {K : Bd} {W W' : Wd} {b : Bool} {k s p : Nat} {σ σ' : cl_S} {ρ ρ' : rf_S}
theorem Rel.mono {K' : Bd} (h : Rel K W b k σ ρ) (h1 : K.kn ≤ K'.kn) (h2 : K.kl ≤ K'.kl) (h3 : K'.kc ≤ K.kc) (h4 : K'.ks ≤ K.ks) : Rel K' W b k σ ρ := by
  obtain ⟨T, st, cf, m0, m1, oA, oB, bd, n0, nm, fz⟩ := h
  exact ⟨T, st, cf, m0, m1, oA, oB, ⟨Nat.le_trans bd.n h1, Nat.le_trans bd.l h2, Nat.le_trans h3 bd.c, Nat.le_trans h4 bd.s⟩, n0, nm, fz⟩
theorem Ak.mono {K' : Bd} (h : Ak K W b k s p σ ρ) (h1 : K.kn ≤ K'.kn) (h2 : K.kl ≤ K'.kl) (h3 : K'.kc ≤ K.kc) (h4 : K'.ks ≤ K.ks) : Ak K' W b k s p σ ρ := by
  obtain ⟨R, a1, a2, a3, a4, a5, a6, a7, a8, a9⟩ := h
  exact ⟨R.mono h1 h2 h3 h4, a1, a2, a3, a4, a5, a6, a7, a8, a9⟩
/-- a world with one term more -/
def Wd.add (W : Wd) (ts : List Nat) (e : Nat) : Wd := (ts, va_up W.tm W.N e, W.N + 1, W.2.2.2)
theorem Wd.le_add {ts : List Nat} {e : Nat} (h : ∀ a ∈ W.ts, a ∈ ts) : W.le (W.add ts e) := ⟨h, fun t ht => up_n (by omega), Nat.le_succ _, rfl, rfl, rfl, rfl, rfl, rfl, rfl, rfl, rfl, rfl, rfl, rfl, rfl, rfl⟩
theorem Ak.room (h : Ak K W b k s p σ ρ) (v : KV K) : W.N + 8 ≤ 112000 ∧ 9 ≤ σ.2.2.2.2.2.1 ∧ 144 ≤ σ.2.2.2.2.2.2 := by
  have B := h.R.bd
  have b1 := B.n
  have b2 := B.l
  have b3 := B.c
  have b4 := B.s
  unfold KV at v
  omega
theorem comes_out (h : Ak K W b k s p σ ρ) {t : Nat} (ht : t < W.N) : Sim (fc_X8_comeIn (92 + 135 * s + 12 * p) (some (W.tm t)) σ) (fq_comes (nI t) ρ) (AkO K W b k s p ρ) := by
  rcases h.come ht with ⟨r, -, -, e1, e2, -⟩ | ⟨n, σ', ρ', -, -, e1, e2, kp, -, -, -, hA⟩
  · exact ⟨_, _, e1, e2, AkO.same h r⟩
  · exact ⟨_, _, e1, e2, rfl, W, Wd.le.refl W, hA K (by omega) (by omega) (Nat.le_refl _) (Nat.le_refl _), kp⟩
/-- a term that is new comes in, and the room for it is paid -/
theorem come_new {K0 : Bd} {n : Nat} (h : Ak (K0.up 2) W b k s p σ ρ) {t : Nat} (ht : t < W.N) (hn : ∀ j n, n ≤ 100 → ρ.1 61 (8 * s + p) = nI n → j < n → ρ.1 60 (100 * (8 * s + p) + j) ≠ nI t) (hf : ρ.1 61 (8 * s + p) = nI n) (hn' : n < 100) : Sim (fc_X8_comeIn (92 + 135 * s + 12 * p) (some (W.tm t)) σ) (fq_comes (nI t) ρ) (AkO K0 W b k s p ρ) := by
  rcases h.come ht with ⟨r, h1, h2, e1, e2, h3⟩ | ⟨n', σ', ρ', -, -, e1, e2, kp, -, -, -, hA⟩
  · exfalso
    by_cases q : r = -4
    · have := h2 q
      rw [hf] at this
      have := (n_eq (by omega) (by omega)).mp this
      omega
    · obtain ⟨j, n2, hj, hn2, en, ej⟩ := h3 q
      exact hn j n2 hn2 en hj ej
  · exact ⟨_, _, e1, e2, rfl, W, Wd.le.refl W, hA K0 (Nat.le_refl _) (Nat.le_refl _) (Nat.le_refl _) (Nat.le_refl _), kp⟩
/-- a TERM is made, if the table has room -/
theorem Ak.mkT (v : KV K) (h : Ak K W b k s p σ ρ) {kk : Nat} {n : Int32} {x y z : Nat} {a1 b1 c1 : Int32} (hk : kk < 10) (k1 : kk ≠ 1) (k2 : kk ≠ 2) (ha : argR W.tm W.N kk n x y z a1 b1 c1) :
    Sim (fc_X8_comeInMade (92 + 135 * s + 12 * p) (nI kk) n (some x) (some y) (some z) σ) (fq_made (nI kk) a1 b1 c1 ρ) (AkO K W b k s p ρ) := by
  have s2 := h.s2
  have p8 := h.p8
  obtain ⟨r1, r2, r3⟩ := h.room v
  have e33 := h.R.T.C.tms.2.2.1
  have ne : ∀ {u : Nat}, u ∈ W.ts → ¬ (some u = some 33) := fun hu q => by have := h.R.T.C.mem _ hu; have := Option.some.inj q; omega
  obtain ⟨⟨hh, B, -⟩, tf⟩ := h.P.tb
  have hl := B.hl
  have isF : ∀ τ : cl_S, τ.1 (92 + 135 * s + 12 * p) = σ.1 (92 + 135 * s + 12 * p) → fc_X8_isFull (92 + 135 * s + 12 * p) τ = some (if hh < 100 then 0 else 1, τ) := by
    intro τ e
    unfold fc_X8_isFull bc_X8_isFull_0
    rw [e, B.cc, B.lm]
    by_cases q : hh < 100
    · rw [if_pos q, if_pos ((n_lt (by omega) (by omega)).mpr q)]
    · rw [if_neg q, if_neg (fun w => q ((n_lt (by omega) (by omega)).mp w))]
  have f100 : ∀ g, ρ.1 61 (8 * s + p) = nI g → g ≤ 100 → (ρ.1 61 (8 * s + p) = (100:Int32) ↔ g = 100) := by
    intro g e hg
    rw [e, show (100:Int32) = nI 100 from rfl, n_eq (by omega) (by omega)]
  unfold fc_X8_comeInMade bc_X8_comeInMade_0 bc_X8_comeInMade_54 fq_made bq_made_0 bq_made_33
  have ext : ∀ {x : Option (Int32 × cl_S)} {y : Option (Int32 × rf_S)} {P : Int32 × cl_S → Int32 × rf_S → Prop}, Sim x y P → Sim (bd2 x (fun r σ => some (r, σ))) (bd2 y (fun r ρ => some (r, ρ))) P := fun q => Sim.bd2 q (fun _ _ _ _ q => Sim.mk q)
  rcases t_mk h.R.T hk k1 k2 ha with ⟨t, ht, e1, e2⟩ | ⟨vv, hv, ev, ⟨e, he, h33, hni, e1, add⟩ | ⟨e1, add⟩⟩
  · rw [e1, e2, bd2_eq, bd2_eq, e33, vl_eq, if_neg (ne (h.R.T.L.inm t ht)), if_pos (by rw [i32_0, n_le (by omega) (by omega)]; omega), if_neg (n_nneg (by omega))]
    exact ext (comes_out h ht)
  · have nn : ¬ (0:Int32) ≤ vv := Int32.not_le.mpr hv
    rw [e1, ev, bd2_eq, bd2_eq, e33, vl_eq, if_neg (ne he), if_neg nn, h.at', n_ix (show 8 * s + p < 16 by omega) (by omega), n_cl (by omega)]
    obtain ⟨ρ', ea, F, T'⟩ := add (by omega)
    have hw := Wd.le_add (W := W) (ts := W.ts) (e := e) (fun _ q => q)
    have h' : Ak (K.up 1) (W.add W.ts e) b k s p σ ρ' := h.terms (TFr.refl σ W.ts) F hw T' (show W.N + 1 + K.kn ≤ W.N + (K.kn + 1) by omega) (show W.ts.length + K.kl ≤ W.ts.length + (K.kl + 1) by omega) (Nat.le_refl _) (Nat.le_refl _)
    have tmN : (W.add W.ts e).tm W.N = e := up_s
    have fresh : ∀ j n, n ≤ 100 → ρ'.1 61 (8 * s + p) = nI n → j < n → ρ'.1 60 (100 * (8 * s + p) + j) ≠ nI W.N := by
      intro j n hn en hj qq
      rw [F.o 61 (by omega), B.cq] at en
      rw [F.o 60 (by omega)] at qq
      have : n = hh := ((n_eq (by omega) (by omega)).mp en).symm
      subst this
      obtain ⟨t, ht, et, -⟩ := B.en j hj
      have et' : ρ.1 60 (100 * (8 * s + p) + j) = nI t := et
      rw [et'] at qq
      have := (n_eq (by omega) (by omega)).mp qq
      omega
    by_cases q : hh = 100
    · rw [if_pos ((f100 hh B.cq hl).mpr q)]
      rcases h'.come (show W.N < (W.add W.ts e).N from Nat.lt_succ_self _) with ⟨r, g1, g2, g3, g4, g5⟩ | ⟨n', σ'', ρ'', g1, g2, g3⟩
      · by_cases q4 : r = -4
        · subst q4
          rw [tmN] at g3
          rw [g3, bd2_eq]
          exact Sim.mk (AkO.same h _)
        · obtain ⟨j, n2, hj, hn2, en, ej⟩ := g5 q4
          exact absurd ej (fresh j n2 hn2 en hj)
      · exfalso
        rw [F.o 61 (by omega), B.cq] at g2
        have := (n_eq (by omega) (by omega)).mp g2
        omega
    · rw [if_neg (fun w => q ((f100 hh B.cq hl).mp w)), if_pos hv, q_term_a hv ev ea, bd2_eq]
      have h2 : Ak (K.up 2) (W.add W.ts e) b k s p σ ρ' := h'.mono (show K.kn + 1 ≤ K.kn + 2 by omega) (show K.kl + 1 ≤ K.kl + 2 by omega) (Nat.le_refl _) (Nat.le_refl _)
      have c := come_new (n := hh) h2 (show W.N < (W.add W.ts e).N from Nat.lt_succ_self _) fresh (by rw [F.o 61 (by omega)]; exact B.cq) (by omega)
      rw [tmN] at c
      refine ext (c.imp ?_)
      rintro u w ⟨q1, W2, q2, q3, q4⟩
      exact ⟨q1, W2, hw.trans q2, q3, F.kp.trans q4⟩
  · have nn : ¬ (0:Int32) ≤ vv := Int32.not_le.mpr hv
    rw [e1, ev, bd2_eq, bd2_eq, e33, vl_eq, if_pos rfl, if_neg nn, h.at', n_ix (show 8 * s + p < 16 by omega) (by omega), n_cl (by omega), isF σ rfl, bd2_eq]
    by_cases q : hh = 100
    · rw [if_neg (show ¬ hh < 100 by omega), if_neg (show ¬ (1:Int32) = 0 by decide), if_pos ((f100 hh B.cq hl).mpr q)]
      exact Sim.mk (AkO.same h _)
    · rw [if_pos (show hh < 100 by omega), if_pos (show (0:Int32) = 0 from rfl), if_neg (fun w => q ((f100 hh B.cq hl).mp w)), if_pos hv]
      obtain ⟨σ', ρ', ec, ea, F, F', T'⟩ := add (by omega) (by omega) (by omega)
      rw [ec, bd2_eq, q_term_a hv ev ea, bd2_eq]
      have hw := Wd.le_add (W := W) (ts := σ.2.2.2.2.1 :: W.ts) (e := σ.2.2.2.2.1) (fun _ q => List.mem_cons_of_mem _ q)
      have h' : Ak (K.up 2) (W.add (σ.2.2.2.2.1 :: W.ts) σ.2.2.2.2.1) b k s p σ' ρ' := h.terms F' F hw T' (show W.N + 1 + K.kn ≤ W.N + (K.kn + 2) by omega) (show (σ.2.2.2.2.1 :: W.ts).length + K.kl ≤ W.ts.length + (K.kl + 2) by rw [List.length_cons]; omega) (Nat.le_refl _) (Nat.le_refl _)
      have tmN : (W.add (σ.2.2.2.2.1 :: W.ts) σ.2.2.2.2.1).tm W.N = σ.2.2.2.2.1 := up_s
      have fresh : ∀ j n, n ≤ 100 → ρ'.1 61 (8 * s + p) = nI n → j < n → ρ'.1 60 (100 * (8 * s + p) + j) ≠ nI W.N := by
        intro j n hn en hj qq
        rw [F.o 61 (by omega), B.cq] at en
        rw [F.o 60 (by omega)] at qq
        have : n = hh := ((n_eq (by omega) (by omega)).mp en).symm
        subst this
        obtain ⟨t, ht, et, -⟩ := B.en j hj
        have et' : ρ.1 60 (100 * (8 * s + p) + j) = nI t := et
        rw [et'] at qq
        have := (n_eq (by omega) (by omega)).mp qq
        omega
      have c := come_new (n := hh) h' (show W.N < (W.add (σ.2.2.2.2.1 :: W.ts) σ.2.2.2.2.1).N from Nat.lt_succ_self _) fresh (by rw [F.o 61 (by omega)]; exact B.cq) (by omega)
      rw [tmN] at c
      refine ext (c.imp ?_)
      rintro u w ⟨q1, W2, q2, q3, q4⟩
      exact ⟨q1, W2, hw.trans q2, q3, F.kp.trans q4⟩
end Z2_L2
