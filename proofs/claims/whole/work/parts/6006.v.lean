section Z2_V
/-- what a step among the terms leaves as it was: the class -/
def TFr (σ σ' : cl_S) (ts ts' : List Nat) (dc ds : Nat) : Prop := (∀ b, (b < 31 ∨ 37 < b) → b < 325 → σ'.1 b = σ.1 b) ∧ (∀ b, b < 325 → σ'.2.1 b = σ.2.1 b) ∧ (∀ b, (b < 31 ∨ 37 < b) → b < 325 → σ'.2.2.1 b = σ.2.2.1 b) ∧ (∀ b, b < σ.2.2.2.2.1 → σ'.2.2.2.1 b = σ.2.2.2.1 b) ∧ (σ.2.2.2.2.1 ≤ σ'.2.2.2.2.1) ∧ (∀ a ∈ ts, a ∈ ts') ∧ (ts.length ≤ ts'.length) ∧ (∀ b, pt ts b → ∀ j, j < 3 → σ'.1 b j = σ.1 b j) ∧ (∀ b, pt ts b → ∀ j, 2 < j → j < 7 → σ'.2.2.1 b j = σ.2.2.1 b j) ∧ (∀ b, 324 < b → b < σ.2.2.2.2.1 → (σ.2.2.2.1 b).1 = 1 → σ'.1 b = σ.1 b) ∧ (∀ j, 3 < j → j < 8 → σ'.2.2.1 31 j = σ.2.2.1 31 j) ∧ (σ.2.2.2.2.2.1 + ts.length ≤ σ'.2.2.2.2.2.1 + ts'.length + dc) ∧ (σ.2.2.2.2.2.2 + 16 * ts.length ≤ σ'.2.2.2.2.2.2 + 16 * ts'.length + ds)
theorem TFr.I {σ σ' : cl_S} {ts ts' : List Nat} {dc ds : Nat} (hS : TFr σ σ' ts ts' dc ds) : ∀ b, (b < 31 ∨ 37 < b) → b < 325 → σ'.1 b = σ.1 b := hS.1
theorem TFr.L {σ σ' : cl_S} {ts ts' : List Nat} {dc ds : Nat} (hS : TFr σ σ' ts ts' dc ds) : ∀ b, b < 325 → σ'.2.1 b = σ.2.1 b := hS.2.1
theorem TFr.R {σ σ' : cl_S} {ts ts' : List Nat} {dc ds : Nat} (hS : TFr σ σ' ts ts' dc ds) : ∀ b, (b < 31 ∨ 37 < b) → b < 325 → σ'.2.2.1 b = σ.2.2.1 b := hS.2.2.1
theorem TFr.T {σ σ' : cl_S} {ts ts' : List Nat} {dc ds : Nat} (hS : TFr σ σ' ts ts' dc ds) : ∀ b, b < σ.2.2.2.2.1 → σ'.2.2.2.1 b = σ.2.2.2.1 b := hS.2.2.2.1
theorem TFr.n {σ σ' : cl_S} {ts ts' : List Nat} {dc ds : Nat} (hS : TFr σ σ' ts ts' dc ds) : σ.2.2.2.2.1 ≤ σ'.2.2.2.2.1 := hS.2.2.2.2.1
theorem TFr.sub {σ σ' : cl_S} {ts ts' : List Nat} {dc ds : Nat} (hS : TFr σ σ' ts ts' dc ds) : ∀ a ∈ ts, a ∈ ts' := hS.2.2.2.2.2.1
theorem TFr.len {σ σ' : cl_S} {ts ts' : List Nat} {dc ds : Nat} (hS : TFr σ σ' ts ts' dc ds) : ts.length ≤ ts'.length := hS.2.2.2.2.2.2.1
theorem TFr.fI {σ σ' : cl_S} {ts ts' : List Nat} {dc ds : Nat} (hS : TFr σ σ' ts ts' dc ds) : ∀ b, pt ts b → ∀ j, j < 3 → σ'.1 b j = σ.1 b j := hS.2.2.2.2.2.2.2.1
theorem TFr.fR {σ σ' : cl_S} {ts ts' : List Nat} {dc ds : Nat} (hS : TFr σ σ' ts ts' dc ds) : ∀ b, pt ts b → ∀ j, 2 < j → j < 7 → σ'.2.2.1 b j = σ.2.2.1 b j := hS.2.2.2.2.2.2.2.2.1
theorem TFr.w {σ σ' : cl_S} {ts ts' : List Nat} {dc ds : Nat} (hS : TFr σ σ' ts ts' dc ds) : ∀ b, 324 < b → b < σ.2.2.2.2.1 → (σ.2.2.2.1 b).1 = 1 → σ'.1 b = σ.1 b := hS.2.2.2.2.2.2.2.2.2.1
theorem TFr.R31 {σ σ' : cl_S} {ts ts' : List Nat} {dc ds : Nat} (hS : TFr σ σ' ts ts' dc ds) : ∀ j, 3 < j → j < 8 → σ'.2.2.1 31 j = σ.2.2.1 31 j := hS.2.2.2.2.2.2.2.2.2.2.1
theorem TFr.rc {σ σ' : cl_S} {ts ts' : List Nat} {dc ds : Nat} (hS : TFr σ σ' ts ts' dc ds) : σ.2.2.2.2.2.1 + ts.length ≤ σ'.2.2.2.2.2.1 + ts'.length + dc := hS.2.2.2.2.2.2.2.2.2.2.2.1
theorem TFr.rs {σ σ' : cl_S} {ts ts' : List Nat} {dc ds : Nat} (hS : TFr σ σ' ts ts' dc ds) : σ.2.2.2.2.2.2 + 16 * ts.length ≤ σ'.2.2.2.2.2.2 + 16 * ts'.length + ds := hS.2.2.2.2.2.2.2.2.2.2.2.2
theorem pt_sub {ts ts' : List Nat} (h : ∀ a ∈ ts, a ∈ ts') {b : Nat} (hb : pt ts b) : pt ts' b := hb.imp id (h b)
theorem TFr.refl (σ : cl_S) (ts : List Nat) : TFr σ σ ts ts 0 0 := ⟨fun _ _ _ => rfl, fun _ _ => rfl, fun _ _ _ => rfl, fun _ _ => rfl, Nat.le_refl _, fun _ h => h, Nat.le_refl _, fun _ _ _ _ => rfl, fun _ _ _ _ _ => rfl, fun _ _ _ _ => rfl, fun _ _ _ => rfl, Nat.le_refl _, Nat.le_refl _⟩
theorem TFr.trans {σ σ' σ'' : cl_S} {ts ts' ts'' : List Nat} {c d c' d' : Nat} (h : TFr σ σ' ts ts' c d) (k : TFr σ' σ'' ts' ts'' c' d') : TFr σ σ'' ts ts'' (c + c') (d + d') := by
  refine ⟨?_, ?_, ?_, ?_, ?_, ?_, ?_, ?_, ?_, ?_, ?_, ?_, ?_⟩
  · intro b h1 h2; rw [k.I b h1 h2, h.I b h1 h2]
  · intro b h1; rw [k.L b h1, h.L b h1]
  · intro b h1 h2; rw [k.R b h1 h2, h.R b h1 h2]
  · intro b h1; rw [k.T b (Nat.lt_of_lt_of_le h1 h.n), h.T b h1]
  · exact Nat.le_trans h.n k.n
  · exact fun a ha => k.sub a (h.sub a ha)
  · exact Nat.le_trans h.len k.len
  · intro b hb j hj; rw [k.fI b (pt_sub h.sub hb) j hj, h.fI b hb j hj]
  · intro b hb j hj hj'; rw [k.fR b (pt_sub h.sub hb) j hj hj', h.fR b hb j hj hj']
  · intro b h1 h2 h3; rw [k.w b h1 (Nat.lt_of_lt_of_le h2 h.n) (by rw [h.T b h2]; exact h3), h.w b h1 h2 h3]
  · intro j h1 h2; rw [k.R31 j h1 h2, h.R31 j h1 h2]
  · have := h.rc; have := k.rc; omega
  · have := h.rs; have := k.rs; omega
/-- .. the reference -/
def QFr (ρ ρ' : rf_S) : Prop := (∀ d, 12 < d → ρ'.1 d = ρ.1 d) ∧ (ρ'.2 = ρ.2) ∧ (∀ j, j ≠ 10 → j ≠ 12 → j ≠ 13 → j ≠ 14 → j ≠ 15 → j ≠ 16 → ρ'.1 0 j = ρ.1 0 j)
theorem QFr.o {ρ ρ' : rf_S} (hS : QFr ρ ρ') : ∀ d, 12 < d → ρ'.1 d = ρ.1 d := hS.1
theorem QFr.l {ρ ρ' : rf_S} (hS : QFr ρ ρ') : ρ'.2 = ρ.2 := hS.2.1
theorem QFr.f {ρ ρ' : rf_S} (hS : QFr ρ ρ') : ∀ j, j ≠ 10 → j ≠ 12 → j ≠ 13 → j ≠ 14 → j ≠ 15 → j ≠ 16 → ρ'.1 0 j = ρ.1 0 j := hS.2.2
theorem QFr.refl (ρ : rf_S) : QFr ρ ρ := ⟨fun _ _ => rfl, rfl, fun _ _ _ _ _ _ _ => rfl⟩
theorem QFr.trans {ρ ρ' ρ'' : rf_S} (h : QFr ρ ρ') (k : QFr ρ' ρ'') : QFr ρ ρ'' := by
  refine ⟨?_, ?_, ?_⟩
  · intro d hd; rw [k.o d hd, h.o d hd]
  · rw [k.l, h.l]
  · intro j a b c d e f; rw [k.f j a b c d e f, h.f j a b c d e f]
theorem Add.fr {σ σ' : cl_S} {ts : List Nat} (C : CSt0 σ ts) {k n : Int32} {x y z m : Nat} (hx : pt ts x) (hy : pt ts y) (hz : pt ts z) {a : Nat} (A : Add σ σ' a k n x y z m) (h1 : 1 ≤ σ.2.2.2.2.2.1) (h16 : 16 ≤ σ.2.2.2.2.2.2) : TFr σ σ' ts (a :: ts) 0 0 := by
  have ae := A.a_eq
  have ht := C.top
  have po : ∀ b, pt ts b → b ≠ a ∧ b ≠ 31 ∧ b ≠ 32 := fun b hb => by have := pt_lo C hb; omega
  have pr : ∀ b, pt ts b → (32 < b ∧ b < 38) ∨ 324 < b := fun b hb => by
    rcases hb with rfl | hb
    · omega
    · have := C.mem b hb; omega
  have hx' := pr x hx
  have hy' := pr y hy
  have hz' := pr z hz
  refine ⟨?_, ?_, ?_, ?_, ?_, ?_, ?_, ?_, ?_, ?_, ?_, ?_, ?_⟩
  · intro b h1 h2; exact A.I b (by omega) (by omega)
  · intro b h1; exact A.L b (by omega)
  · intro b h1 h2; exact A.Rr b (by omega) (by omega) (by omega) (by omega) (by omega) (by omega)
  · intro b h1; rw [A.T]; exact if_neg (by omega)
  · rw [A.n]; omega
  · exact fun b hb => List.mem_cons_of_mem _ hb
  · simp
  · intro b hb j hj; rw [A.I b (po b hb).2.1 (po b hb).1]
  · intro b hb j hj hj'; exact A.R b j (po b hb).1 (po b hb).2.1 (po b hb).2.2 (by omega)
  · intro b h1 h2 h3; exact A.I b (by omega) (by omega)
  · intro j h1 h2; exact A.R31 j (by omega)
  · rw [A.rc, List.length_cons]; omega
  · rw [A.rs, List.length_cons]; omega
theorem AddQ.fr {ρ ρ' : rf_S} {N : Nat} {k a b c : Int32} {m : Nat} (A : AddQ ρ ρ' N k a b c m) : QFr ρ ρ' :=
  ⟨fun d hd => A.o d (by omega) (by omega) (by omega) (by omega) (by omega) (by omega) (by omega) (by omega), A.l, fun j _ h _ _ _ _ => A.f j h⟩
theorem wdL.fr {σ σ' : cl_S} {ts ts' : List Nat} {c d : Nat} (F : TFr σ σ' ts ts' c d) {a n : Nat} {f : Nat → Int32} (ha : a ∈ ts) (h : wdL σ a n f) : wdL σ' a n f := by
  obtain ⟨w, h1, h2, h3, h4, h5⟩ := h
  refine ⟨w, by rw [F.fR a (Or.inr ha) 6 (by omega) (by omega)]; exact h1, h2, Nat.lt_of_lt_of_le h3 F.n, by rw [F.T w h3]; exact h4, ?_⟩
  intro j hj
  rw [F.w w h2 h3 (by rw [h4])]
  exact h5 j hj
theorem wdL.fr' {σ σ' : cl_S} {ts ts' : List Nat} {c d : Nat} (F : TFr σ σ' ts ts' c d) {a n : Nat} {f : Nat → Int32} (ha : a ∈ ts) (hw : ∃ m g, wdL σ a m g) (h : wdL σ' a n f) : wdL σ a n f := by
  obtain ⟨m, g, w', h1', h2', h3', h4', h5'⟩ := hw
  obtain ⟨w, h1, h2, h3, h4, h5⟩ := h
  rw [F.fR a (Or.inr ha) 6 (by omega) (by omega), h1'] at h1
  cases h1
  rw [F.T w' h3'] at h4
  refine ⟨w', h1', h2', h3', h4, ?_⟩
  intro j hj
  rw [← F.w w' h2' h3' (by rw [h4'])]
  exact h5 j hj
theorem CSt.wd' {σ : cl_S} {ts : List Nat} (C : CSt σ ts) : ∀ a ∈ ts, σ.1 a 0 = nI 1 → ∃ n f, wdL σ a n f := fun a ha q => by
  obtain ⟨n, f, h, -⟩ := C.wd a ha q
  exact ⟨n, f, h⟩
theorem up_s {α : Type} {f : Nat → α} {k : Nat} {v : α} : va_up f k v k = v := if_pos rfl
theorem up_n {α : Type} {f : Nat → α} {k j : Nat} {v : α} (h : j ≠ k) : va_up f k v j = f j := if_neg h
/-- a further term in the link -/
theorem TL.ext {σ σ' : cl_S} {ρ ρ' : rf_S} {ts ts' : List Nat} {tm : Nat → Nat} {N k : Nat} {n : Int32} {x y z : Nat} {a b c : Int32} {m e dc ds : Nat} (L : TL σ ρ ts tm N) (Q : RSt0 ρ N) (F : TFr σ σ' ts ts' dc ds) (ft : ∀ b ∈ ts, σ'.1 b 9 = σ.1 b 9) (hk : k < 10) (k1 : k ≠ 1) (k2 : k ≠ 2 ∨ (x = 33 ∧ y = 33 ∧ z = 33)) (h : k ≠ 2 → argR tm N k n x y z a b c) (he : e ∈ ts') (hni : ∀ t, t < N → tm t ≠ e) (hsub : ∀ d ∈ ts', d = e ∨ d ∈ ts) (ky : kyI σ' e (nI k) n (some x) (some y) (some z)) (t0 : σ'.1 e 9 = 0) (A : AddQ ρ ρ' N (nI k) a b c m) : TL σ' ρ' ts' (va_up tm N e) (N + 1) := by
  have hN := Q.n.2
  obtain ⟨E, -, -, hE⟩ := Q.e
  have uo : ∀ t, t < N → va_up tm N e t = tm t := fun t ht => up_n (by omega)
  have po : ∀ d t, (d = 1 ∨ d = 2 ∨ d = 3 ∨ d = 4 ∨ d = 5 ∨ d = 6) → t < N → ρ'.1 d t = ρ.1 d t := fun d t hd ht => A.p d t hd (by omega)
  have f1 : ∀ t, t < N → ρ'.1 1 t = ρ.1 1 t := fun t ht => po 1 t (by omega) ht
  have f2 : ∀ t, t < N → ρ'.1 2 t = ρ.1 2 t := fun t ht => po 2 t (by omega) ht
  have f3 : ∀ t, t < N → ρ'.1 3 t = ρ.1 3 t := fun t ht => po 3 t (by omega) ht
  have f4 : ∀ t, t < N → ρ'.1 4 t = ρ.1 4 t := fun t ht => po 4 t (by omega) ht
  have f6 : ∀ t, t < N → ρ'.1 6 t = ρ.1 6 t := fun t ht => po 6 t (by omega) ht
  have f12 : ρ'.1 12 = ρ.1 12 := A.o 12 (by decide) (by decide) (by decide) (by decide) (by decide) (by decide) (by decide) (by decide)
  have gI : ∀ t, t < N → ∀ j, j < 3 → σ'.1 (tm t) j = σ.1 (tm t) j := fun t ht j hj => F.fI _ (Or.inr (L.inm t ht)) j hj
  have gR : ∀ t, t < N → ∀ j, 2 < j → j < 7 → σ'.2.2.1 (tm t) j = σ.2.2.1 (tm t) j := fun t ht j hj hj' => F.fR _ (Or.inr (L.inm t ht)) j hj hj'
  have lt : ∀ t, t < N + 1 → t = N ∨ t < N := fun t ht => by omega
  -- a part of an old term is old
  have old : ∀ t, t < N → ∀ kk, 2 < kk → kk < 10 → ρ.1 1 t = nI kk → (∃ v, ρ.1 2 t = nI v ∧ v < t) ∧ (kk ≠ 4 → kk ≠ 6 → ∃ v, ρ.1 3 t = nI v ∧ v < t) ∧ (kk = 8 → ∃ v, ρ.1 4 t = nI v ∧ v < t) := by
    intro t ht kk h2 h10 ek
    obtain ⟨kt, hkt, ekt, hrt⟩ := hE t ht
    have : kt = kk := (n_eq (by omega) (by omega)).mp (ekt.symm.trans ek)
    subst this
    unfold rsh at hrt
    rw [if_neg (by omega), if_neg (by omega), if_neg (by omega)] at hrt
    refine ⟨hrt.1, fun q1 q2 => ?_, fun q => ?_⟩
    · have := hrt.2.1; rw [if_neg (by omega)] at this; exact this
    · have := hrt.2.2; rw [if_pos q] at this; exact this
  refine ⟨?_, ?_, ?_, ?_, ?_, ?_, ?_, ?_, ?_, ?_, ?_⟩
  · intro t ht
    rcases lt t ht with rfl | ht
    · rw [up_s]; exact he
    · rw [uo t ht]; exact F.sub _ (L.inm t ht)
  · intro t u ht hu q
    rcases lt t ht with rfl | ht
    · rcases lt u hu with rfl | hu
      · rfl
      · rw [up_s, uo u hu] at q; exact absurd q.symm (hni u hu)
    · rcases lt u hu with rfl | hu
      · rw [up_s, uo t ht] at q; exact absurd q (hni t ht)
      · rw [uo t ht, uo u hu] at q; exact L.inj t u ht hu q
  · intro t ht
    rcases lt t ht with rfl | ht
    · rw [up_s, A.p1]; exact ky.1
    · rw [uo t ht, f1 t ht, gI t ht 0 (by omega)]; exact L.kd t ht
  · intro t ht q
    rcases lt t ht with rfl | ht
    · rw [A.p1] at q
      have q0 : k = 0 := (n_eq (by omega) (by omega)).mp q
      have h' := h (by omega)
      unfold argR at h'
      rw [if_pos q0] at h'
      rw [up_s, A.p2, ky.2.1]; exact h'.1
    · rw [f1 t ht] at q
      rw [uo t ht, f2 t ht, gI t ht 1 (by omega)]; exact L.nu t ht q
  · intro t kk v ht h2 h10 ek ev hv
    rcases lt t ht with rfl | ht
    · rw [A.p1] at ek
      have : k = kk := (n_eq (by omega) (by omega)).mp ek
      subst this
      have h' := h (by omega)
      unfold argR at h'
      rw [if_neg (by omega)] at h'
      obtain ⟨-, ⟨u, hu, ea, rfl⟩, -⟩ := h'
      rw [A.p2, ea] at ev
      have : u = v := (n_eq (by omega) (by omega)).mp ev
      subst this
      rw [up_s, uo u hu]; exact ky.2.2.1
    · rw [f1 t ht] at ek
      rw [f2 t ht] at ev
      obtain ⟨⟨v', ev', hv'⟩, -⟩ := old t ht kk h2 h10 ek
      have : v' = v := (n_eq (by omega) (by omega)).mp (ev'.symm.trans ev)
      subst this
      rw [uo t ht, uo v' (by omega), gR t ht 3 (by omega) (by omega)]
      exact L.pa t kk v' ht h2 h10 ek ev (by omega)
  · intro t kk v ht h2 h10 h4 h6 ek ev hv
    rcases lt t ht with rfl | ht
    · rw [A.p1] at ek
      have : k = kk := (n_eq (by omega) (by omega)).mp ek
      subst this
      have h' := h (by omega)
      unfold argR at h'
      rw [if_neg (by omega)] at h'
      have h2' := h'.2.2.1
      rw [if_neg (by omega)] at h2'
      obtain ⟨u, hu, ea, rfl⟩ := h2'
      rw [A.p3, ea] at ev
      have : u = v := (n_eq (by omega) (by omega)).mp ev
      subst this
      rw [up_s, uo u hu]; exact ky.2.2.2.1
    · rw [f1 t ht] at ek
      rw [f3 t ht] at ev
      obtain ⟨v', ev', hv'⟩ := (old t ht kk h2 h10 ek).2.1 h4 h6
      have : v' = v := (n_eq (by omega) (by omega)).mp (ev'.symm.trans ev)
      subst this
      rw [uo t ht, uo v' (by omega), gR t ht 4 (by omega) (by omega)]
      exact L.pb t kk v' ht h2 h10 h4 h6 ek ev (by omega)
  · intro t v ht ek ev hv
    rcases lt t ht with rfl | ht
    · rw [A.p1] at ek
      have : k = 8 := (n_eq (by omega) (by omega)).mp ek
      subst this
      have h' := h (by omega)
      unfold argR at h'
      rw [if_neg (by omega)] at h'
      have h2' := h'.2.2.2
      rw [if_pos rfl] at h2'
      obtain ⟨u, hu, ea, rfl⟩ := h2'
      rw [A.p4, ea] at ev
      have : u = v := (n_eq (by omega) (by omega)).mp ev
      subst this
      rw [up_s, uo u hu]; exact ky.2.2.2.2
    · rw [f1 t ht] at ek
      rw [f4 t ht] at ev
      obtain ⟨v', ev', hv'⟩ := (old t ht 8 (by omega) (by omega) ek).2.2 rfl
      have : v' = v := (n_eq (by omega) (by omega)).mp (ev'.symm.trans ev)
      subst this
      rw [uo t ht, uo v' (by omega), gR t ht 5 (by omega) (by omega)]
      exact L.pc t v' ht ek ev (by omega)
  · intro t o l ht ek e2 e3 ho hl
    rcases lt t ht with rfl | ht
    · rw [A.p1] at ek
      exact absurd ((n_eq (by omega) (by omega)).mp ek) k1
    · rw [f1 t ht] at ek
      rw [f2 t ht] at e2
      rw [f3 t ht] at e3
      rw [uo t ht, f12]
      exact (L.rw t o l ht ek e2 e3 ho hl).fr F (L.inm t ht)
  · intro d hd q
    rcases hsub d hd with rfl | hd
    · exact ⟨N, by omega, up_s⟩
    · rw [F.fI d (Or.inr hd) 0 (by omega)] at q
      obtain ⟨t, ht, e⟩ := L.rall d hd q
      exact ⟨t, by omega, by rw [uo t ht]; exact e⟩
  · intro t ht
    rcases lt t ht with rfl | ht
    · rw [up_s, A.p6]; exact ⟨t0, Or.inl rfl⟩
    · rw [uo t ht, f6 t ht, ft _ (L.inm t ht)]; exact L.told t ht
  · intro d hd hno
    rcases hsub d hd with rfl | hd
    · exact t0
    · rw [ft d hd]
      refine L.tex d hd (fun t ht q => hno t (by omega) (by rw [uo t ht]; exact q))
end Z2_V
