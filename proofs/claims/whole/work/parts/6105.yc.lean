section Z2_YC
variable {W W' : Wd} {b : Bool} {k n0 N : Nat} {σ σ' : cl_S} {ρ ρ' : rf_S} {ts : List Nat} {tm : Nat → Nat} {K : Bd}
/-- what judging changes -/
def Jd (σ σ' : cl_S) (ts : List Nat) : Prop := (∀ d j, ¬ (d ∈ ts ∧ j = 10) → ¬ (d = 31 ∧ j = 8) → σ'.1 d j = σ.1 d j) ∧ (σ'.2.1 = σ.2.1) ∧ (∀ d j, ¬ (d ∈ ts ∧ j = 11) → ¬ (d = 31 ∧ (j = 9 ∨ j = 10)) → σ'.2.2.1 d j = σ.2.2.1 d j) ∧ (σ'.2.2.2 = σ.2.2.2)
theorem Jd.I {σ σ' : cl_S} {ts : List Nat} (hS : Jd σ σ' ts) : ∀ d j, ¬ (d ∈ ts ∧ j = 10) → ¬ (d = 31 ∧ j = 8) → σ'.1 d j = σ.1 d j := hS.1
theorem Jd.L {σ σ' : cl_S} {ts : List Nat} (hS : Jd σ σ' ts) : σ'.2.1 = σ.2.1 := hS.2.1
theorem Jd.R {σ σ' : cl_S} {ts : List Nat} (hS : Jd σ σ' ts) : ∀ d j, ¬ (d ∈ ts ∧ j = 11) → ¬ (d = 31 ∧ (j = 9 ∨ j = 10)) → σ'.2.2.1 d j = σ.2.2.1 d j := hS.2.2.1
theorem Jd.c {σ σ' : cl_S} {ts : List Nat} (hS : Jd σ σ' ts) : σ'.2.2.2 = σ.2.2.2 := hS.2.2.2
theorem Jd.Rj (h : Jd σ σ' ts) {j : Nat} (h1 : j ≠ 9) (h2 : j ≠ 10) (h3 : j ≠ 11) (d : Nat) : σ'.2.2.1 d j = σ.2.2.1 d j := h.R d j (fun q => h3 q.2) (fun q => by omega)
theorem Jd.Ij (h : Jd σ σ' ts) {j : Nat} (h1 : j ≠ 8) (h2 : j ≠ 10) (d : Nat) : σ'.1 d j = σ.1 d j := h.I d j (fun q => h2 q.2) (fun q => h1 q.2)
theorem Jd.row (h : Jd σ σ' ts) (C : CSt σ ts) {b : Nat} (hb : 324 < b) (ht : (σ.2.2.2.1 b).1 = 1) : σ'.1 b = σ.1 b := by
  have nb : b ∉ ts := fun q => by
    have := (C.mem b q).2.2.2
    rw [this] at ht; exact absurd ht (by decide)
  funext j
  exact h.I b j (fun q => nb q.1) (fun q => by omega)
theorem Jd.wdL (h : Jd σ σ' ts) (C : CSt σ ts) {a n : Nat} {f : Nat → Int32} : wdL σ' a n f ↔ wdL σ a n f := by
  unfold Pilot.CPartHouseLaw_law_r5643_e0db28.wdL
  rw [h.Rj (j := 6) (by decide) (by decide) (by decide), h.c]
  refine ⟨?_, ?_⟩
  · rintro ⟨w, a1, a2, a3, a4, a5⟩
    refine ⟨w, a1, a2, a3, a4, fun j hj => ?_⟩
    rw [← h.row C a2 (by rw [a4])]; exact a5 j hj
  · rintro ⟨w, a1, a2, a3, a4, a5⟩
    refine ⟨w, a1, a2, a3, a4, fun j hj => ?_⟩
    rw [h.row C a2 (by rw [a4])]; exact a5 j hj
theorem Jd.C (h : Jd σ σ' ts) (C : CSt σ ts) : CSt σ' ts := by
  have R3 := fun d => h.Rj (j := 3) (by decide) (by decide) (by decide) d
  have R4 := fun d => h.Rj (j := 4) (by decide) (by decide) (by decide) d
  have R5 := fun d => h.Rj (j := 5) (by decide) (by decide) (by decide) d
  have I0 := fun d => h.Ij (j := 0) (by decide) (by decide) d
  have I1 := fun d => h.Ij (j := 1) (by decide) (by decide) d
  have I2 := fun d => h.Ij (j := 2) (by decide) (by decide) d
  have n32 : 32 ∉ ts := fun q => by have := (C.mem 32 q).1; omega
  have R32 : ∀ m, σ'.2.2.1 32 m = σ.2.2.1 32 m := fun m => h.R 32 m (fun q => n32 q.1) (fun q => by omega)
  refine ⟨?_, ?_, ?_, ?_⟩
  · refine ⟨?_, ?_, ?_, ?_, ?_, ?_, ?_, ?_, ?_, ?_, ?_⟩
    · rw [h.c]; exact C.mem
    · exact C.nd
    · rw [h.c]; exact C.top
    · intro a ha; rw [I0, I1, R3, R4, R5]; exact C.kd a ha
    · rw [I0, R3, R4, R5]; exact C.non
    · rw [h.Rj (j := 0) (by decide) (by decide) (by decide), R4, R5, h.Rj (j := 6) (by decide) (by decide) (by decide), h.Rj (j := 7) (by decide) (by decide) (by decide), h.c]; exact C.tms
    · intro a ha b hb
      unfold kyE
      rw [I0, I0, I1, I1, R3, R3, R4, R4, R5, R5]; exact C.uq a ha b hb
    · intro m hm
      obtain ⟨l, hl, ml⟩ := C.bk m hm
      refine ⟨l, ?_, fun a => ?_⟩
      · rw [R32]
        exact hl.congr (fun a _ => h.Rj (j := 7) (by decide) (by decide) (by decide) a)
      · rw [ml a]
        have : bkt σ' a m ↔ bkt σ a m := by
          unfold bkt
          simp only [R3, R4, R5, I0, I1, I2]
        rw [this]
    · rw [h.Rj (j := 1) (by decide) (by decide) (by decide)]
      exact C.old.congr (fun a _ => h.Rj (j := 8) (by decide) (by decide) (by decide) a)
    · rw [I2]; exact C.cnt
    · have e : nxU σ' = nxU σ := by
        funext x u
        unfold nxU
        rw [R3, R4, h.Rj (j := 13) (by decide) (by decide) (by decide), h.Rj (j := 14) (by decide) (by decide) (by decide), h.Rj (j := 15) (by decide) (by decide) (by decide)]
      intro x hx
      rw [e, h.Rj (j := 12) (by decide) (by decide) (by decide)]
      simp only [R3, R4, R5]
      exact C.us x hx
  · intro a ha q
    rw [I0] at q
    obtain ⟨n, f, w, hn, hr⟩ := C.wd a ha q
    exact ⟨n, f, (h.wdL C).mpr w, hn, by rw [I1]; exact hr⟩
  · intro a ha b hb n f q1 q2 w1 w2
    rw [I0] at q1 q2
    exact C.uqr a ha b hb n f q1 q2 ((h.wdL C).mp w1) ((h.wdL C).mp w2)
  · obtain ⟨S, e1, e2, e3⟩ := C.sec
    refine ⟨S, by rw [h.Ij (j := 3) (by decide) (by decide)]; exact e1, e2, fun a ha q => ?_⟩
    rw [I0] at q
    rw [I1]
    exact e3 a ha q
theorem Jd.TL (h : Jd σ σ' ts) (C : CSt σ ts) (T : TL σ ρ ts tm N) (hq : ∀ c, c ≠ 0 → c ≠ 7 → c ≠ 8 → c ≠ 9 → c ≠ 10 → ρ'.1 c = ρ.1 c) : TL σ' ρ' ts tm N := by
  have R3 := fun d => h.Rj (j := 3) (by decide) (by decide) (by decide) d
  have R4 := fun d => h.Rj (j := 4) (by decide) (by decide) (by decide) d
  have R5 := fun d => h.Rj (j := 5) (by decide) (by decide) (by decide) d
  have I0 := fun d => h.Ij (j := 0) (by decide) (by decide) d
  have I1 := fun d => h.Ij (j := 1) (by decide) (by decide) d
  have I9 := fun d => h.Ij (j := 9) (by decide) (by decide) d
  have q1 := hq 1 (by decide) (by decide) (by decide) (by decide) (by decide)
  have q2 := hq 2 (by decide) (by decide) (by decide) (by decide) (by decide)
  have q3 := hq 3 (by decide) (by decide) (by decide) (by decide) (by decide)
  have q4 := hq 4 (by decide) (by decide) (by decide) (by decide) (by decide)
  have q6 := hq 6 (by decide) (by decide) (by decide) (by decide) (by decide)
  have q12 := hq 12 (by decide) (by decide) (by decide) (by decide) (by decide)
  refine ⟨T.inm, T.inj, ?_, ?_, ?_, ?_, ?_, ?_, ?_, ?_, ?_⟩
  · intro t ht; rw [I0, q1]; exact T.kd t ht
  · intro t ht; rw [I1, q1, q2]; exact T.nu t ht
  · intro t k a ht; rw [q1, q2, R3]; exact T.pa t k a ht
  · intro t k a ht; rw [q1, q3, R4]; exact T.pb t k a ht
  · intro t a ht; rw [q1, q4, R5]; exact T.pc t a ht
  · intro t o l ht e1 e2 e3 h1 h2
    rw [q1] at e1; rw [q2] at e2; rw [q3] at e3
    rw [q12]
    exact (h.wdL C).mpr (T.rw t o l ht e1 e2 e3 h1 h2)
  · intro a ha q; rw [I0] at q; exact T.rall a ha q
  · intro t ht; rw [I9, q6]; exact T.told t ht
  · intro a ha hn; rw [I9]; exact T.tex a ha hn
theorem Jd.fr (h : Jd σ σ' ts) (C : CSt σ ts) : TFr σ σ' ts ts 0 0 := by
  have nt : ∀ b, (b < 31 ∨ 37 < b) → b < 325 → b ∉ ts := fun b h1 h2 q => by have := C.mem b q; omega
  refine ⟨fun b h1 h2 => funext fun j => h.I b j (fun q => nt b h1 h2 q.1) (fun q => by omega), fun b _ => by rw [h.L], fun b h1 h2 => funext fun j => h.R b j (fun q => nt b h1 h2 q.1) (fun q => by omega), fun b _ => by rw [h.c], by rw [h.c]; exact Nat.le_refl _, fun _ q => q, Nat.le_refl _, fun b _ j hj => h.Ij (by omega) (by omega) b, fun b _ j h1 h2 => h.Rj (by omega) (by omega) (by omega) b, fun b h1 h2 h3 => h.row C h1 h3, fun j h1 h2 => h.Rj (by omega) (by omega) (by omega) 31, by rw [h.c]; omega, by rw [h.c]; omega⟩
/-- both sides judge -/
theorem Rel.know (h : Rel K W b k σ ρ) (hK : K.kl < 999999999) {t : Nat} (ht : t < W.N) : ∃ σ' ρ' v w, fc_X10_roundOf 31 (some (W.tm t)) σ = some (v, σ') ∧ fq_know ρ = some ρ' ∧ ρ'.1 7 t = w ∧ Rel K W b k σ' ρ' ∧ ((v = -1 ∧ w = 1000000000) ∨ ∃ r, r < 1000000000 ∧ v = nI r ∧ w = nI r) := by
  have T := h.T
  have C := T.C
  have hl : W.ts.length < 999999999 := by have := h.bd.l; omega
  obtain ⟨jc, jq, xn⟩ := T.J
  obtain ⟨ρ', e', o', l', f', J', rd'⟩ := q_know T.Q jq
  have cls : ∃ σ' v, fc_X10_roundOf 31 (some (W.tm t)) σ = some (v, σ') ∧ Jd σ σ' W.ts ∧ JC σ' W.ts ∧ rdR (grC σ' W.ts) (-1) v (W.tm t) := by
    unfold fc_X10_roundOf bc_X10_roundOf_0
    by_cases c : σ.1 31 8 = 0
    · rw [if_pos c]
      obtain ⟨σ1, v1, L1, e1, S1, r1⟩ := c_judge C hl
      rw [e1, bd1_eq, vl_eq]
      simp only [nn_eq]
      have n31 : ∀ a, a ∈ W.ts → a ≠ 31 := fun a ha q => by have := (C.mem a ha).1; omega
      have D : Jd σ (cl_w σ1 31 8 (1:Int32)) W.ts := ⟨fun d j q1 q2 => by rw [g_w, if_neg (fun q => q2 q)]; exact S1.I d j q1, S1.Lg, S1.R, S1.c⟩
      have g : grC (cl_w σ1 31 8 (1:Int32)) W.ts = grC σ W.ts := grC_cg (fun a ha => ⟨D.Ij (by decide) (by decide) a, D.Ij (by decide) (by decide) a⟩) (fun a ha j h1 h2 => D.Rj (by omega) (by omega) (by omega) a)
      have i10 : ∀ a, a ∈ W.ts → (cl_w σ1 31 8 (1:Int32)).1 a 10 = σ1.1 a 10 := fun a ha => by rw [g_w, if_neg (fun q => n31 a ha q.1)]
      refine ⟨_, _, rfl, D, Or.inr ⟨by rw [g_w, if_pos ⟨rfl, rfl⟩], fun a ha => ?_⟩, ?_⟩
      · rw [g, i10 a ha]; exact r1 a ha
      · rw [g, i10 _ (T.L.inm t ht)]; exact r1 _ (T.L.inm t ht)
    · rw [if_neg c]
      simp only [nn_eq]
      refine ⟨σ, _, rfl, ⟨fun _ _ _ _ => rfl, rfl, fun _ _ _ _ => rfl, rfl⟩, jc, ?_⟩
      rcases jc with q | ⟨-, q⟩
      · exact absurd q c
      · exact q _ (T.L.inm t ht)
  obtain ⟨σ', v, e1, D, jc', rv⟩ := cls
  have T' : TermR W.n0 σ' ρ' W.ts W.tm W.N := by
    refine ⟨D.C C, T.Q.cg (fun d hd => o' d (by omega) (by omega) (by omega) (by omega) (by omega)) (fun j hj => f' j (by omega) (by omega) (by omega)), D.TL C T.L o', ?_, jc', J', ?_⟩
    · rw [f' 19 (by decide) (by decide) (by decide), f' 20 (by decide) (by decide) (by decide), f' 21 (by decide) (by decide) (by decide)]; exact T.k0
    · exact xn.cg (fun t _ => by rw [o' 1 (by decide) (by decide) (by decide) (by decide) (by decide)]) (fun t _ => by rw [o' 2 (by decide) (by decide) (by decide) (by decide) (by decide)]) (fun t _ _ => by rw [o' 6 (by decide) (by decide) (by decide) (by decide) (by decide)])
  refine ⟨σ', ρ', v, _, e1, e', rfl, ?_, rd_both T' ht rv (rd' t ht)⟩
  exact h.tms (W' := W) (K' := K) (D.fr C) ⟨fun d hd => o' d (by omega) (by omega) (by omega) (by omega) (by omega), l', fun j h10 h12 h13 h14 h15 h16 => f' j h10 h15 h16⟩ (Wd.le.refl W) T' (Nat.le_refl _) (Nat.le_refl _) (Nat.le_refl _) (Nat.le_refl _)
theorem r_neg : ¬ (0:Int32) ≤ -1 := by decide
theorem nn_le0 {r : Nat} (h : r < 1000000000) : (0:Int32) ≤ nI r := (n_le (a := 0) (b := r) (by omega) (by omega)).mpr (by omega)
theorem far_le : (1000000000:Int32) ≤ 1000000000 := Int32.le_refl _
theorem far_nle {r : Nat} (h : r < 1000000000) : ¬ (1000000000:Int32) ≤ nI r := fun q => by
  have := (n_le (a := 1000000000) (b := r) (by omega) (by omega)).mp q
  omega
theorem call_knows (h : RC k σ ρ) (hk : k < 64) (x y : Int32) : CO k (fc_X11_knows 0 x y σ) (fq_knows x y ρ) := by
  obtain ⟨W, R⟩ := id h
  have hN := R.T.Q.n.2
  unfold fc_X11_knows bc_X11_knows_0 fq_knows bq_knows_0
  rcases R.tof x y with ⟨t, ht, e1, e2⟩ | ⟨e1, e2⟩
  · obtain ⟨σ', ρ', v, w, f1, f2, f3, R', h'⟩ := R.know (show 3300 * (k + 1) < 999999999 by omega) ht
    rw [e1, e2, bd2_eq, bd2_eq, vl_eq, R.T.C.tms.2.2.1, if_neg (fun q => lt33 R.T.C (R.T.L.inm t ht) (Option.some.inj q)), if_pos (show (0:Int32) ≤ nI t from (n_le (a := 0) (b := t) (by omega) (by omega)).mpr (by omega)), f1, f2, bd2_eq, bd1_eq, n_ix (show t < 112000 by omega) (by omega), n_cl (show t < 2147483648 by omega), f3]
    have fin : RC (k + 1) σ' ρ' := RC.of0 R'.next hk (onF_le ρ)
    rcases h' with ⟨rfl, rfl⟩ | ⟨r, hr, rfl, rfl⟩
    · rw [if_neg r_neg, if_pos far_le]; exact ⟨0, σ', ρ', rfl, rfl, fin⟩
    · rw [if_pos (nn_le0 hr), if_neg (far_nle hr)]; exact ⟨1, σ', ρ', rfl, rfl, fin⟩
  · rw [e1, e2, bd2_eq, bd2_eq, vl_eq, R.T.C.tms.2.2.1, if_pos rfl, if_neg r_neg]
    exact CO.same h hk _
theorem call_far (h : RC k σ ρ) (hk : k < 64) (x y : Int32) : CO k (fc_X11_far 0 x y σ) (fq_far x y ρ) := by
  obtain ⟨W, R⟩ := id h
  have hN := R.T.Q.n.2
  unfold fc_X11_far bc_X11_far_0 fq_far bq_far_0
  rcases R.tof x y with ⟨t, ht, e1, e2⟩ | ⟨e1, e2⟩
  · obtain ⟨σ', ρ', v, w, f1, f2, f3, R', h'⟩ := R.know (show 3300 * (k + 1) < 999999999 by omega) ht
    rw [e1, e2, bd2_eq, bd2_eq, vl_eq, R.T.C.tms.2.2.1, if_neg (fun q => lt33 R.T.C (R.T.L.inm t ht) (Option.some.inj q)), if_pos (show (0:Int32) ≤ nI t from (n_le (a := 0) (b := t) (by omega) (by omega)).mpr (by omega)), f1, f2, bd2_eq, bd1_eq, n_ix (show t < 112000 by omega) (by omega), n_cl (show t < 2147483648 by omega), f3]
    have fin : RC (k + 1) σ' ρ' := RC.of0 R'.next hk (onF_le ρ)
    rcases h' with ⟨rfl, rfl⟩ | ⟨r, hr, rfl, rfl⟩
    · rw [if_neg r_neg, if_pos far_le]; exact ⟨-3, σ', ρ', rfl, rfl, fin⟩
    · rw [if_pos (nn_le0 hr), if_neg (far_nle hr), n_ix (show t < 112000 by omega) (by omega)]; exact ⟨nI r, σ', ρ', rfl, rfl, fin⟩
  · rw [e1, e2, bd2_eq, bd2_eq, vl_eq, R.T.C.tms.2.2.1, if_pos rfl, if_neg r_neg]
    exact CO.same h hk _
end Z2_YC
