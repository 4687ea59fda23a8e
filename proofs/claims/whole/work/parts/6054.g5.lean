section Z2_G5
variable {K : Bd} {W W' : Wd} {b : Bool} {k s p : Nat} {σ σ' : cl_S} {ρ ρ' : rf_S}
/-! LAYER 2: reading THE CONFIG -/
/-- the class's reader: e: there was a fault -/
def CsC (sp L : Nat) (f : Nat → Int32) (a : Nat) (e : Bool) (σ : cl_S) : Prop := (sp = 48 ∨ sp = 314) ∧ (L ≤ 200) ∧ (a ≤ L) ∧ (σ.2.2.1 sp 12 = some 29) ∧ (σ.1 sp 13 = nI L) ∧ ((σ.2.2.2.1 29).2 = 2048) ∧ (∀ j, j < L → σ.1 29 j = f j) ∧ (e = false → σ.1 sp 14 = nI a ∧ σ.1 sp 15 = -1) ∧ (e = true → σ.1 sp 15 = nI a)
theorem CsC.sp {sp L : Nat} {f : Nat → Int32} {a : Nat} {e : Bool} {σ : cl_S} (hS : CsC sp L f a e σ) : sp = 48 ∨ sp = 314 := hS.1
theorem CsC.L2 {sp L : Nat} {f : Nat → Int32} {a : Nat} {e : Bool} {σ : cl_S} (hS : CsC sp L f a e σ) : L ≤ 200 := hS.2.1
theorem CsC.aL {sp L : Nat} {f : Nat → Int32} {a : Nat} {e : Bool} {σ : cl_S} (hS : CsC sp L f a e σ) : a ≤ L := hS.2.2.1
theorem CsC.w12 {sp L : Nat} {f : Nat → Int32} {a : Nat} {e : Bool} {σ : cl_S} (hS : CsC sp L f a e σ) : σ.2.2.1 sp 12 = some 29 := hS.2.2.2.1
theorem CsC.w13 {sp L : Nat} {f : Nat → Int32} {a : Nat} {e : Bool} {σ : cl_S} (hS : CsC sp L f a e σ) : σ.1 sp 13 = nI L := hS.2.2.2.2.1
theorem CsC.T {sp L : Nat} {f : Nat → Int32} {a : Nat} {e : Bool} {σ : cl_S} (hS : CsC sp L f a e σ) : (σ.2.2.2.1 29).2 = 2048 := hS.2.2.2.2.2.1
theorem CsC.fw {sp L : Nat} {f : Nat → Int32} {a : Nat} {e : Bool} {σ : cl_S} (hS : CsC sp L f a e σ) : ∀ j, j < L → σ.1 29 j = f j := hS.2.2.2.2.2.2.1
theorem CsC.ok {sp L : Nat} {f : Nat → Int32} {a : Nat} {e : Bool} {σ : cl_S} (hS : CsC sp L f a e σ) : e = false → σ.1 sp 14 = nI a ∧ σ.1 sp 15 = -1 := hS.2.2.2.2.2.2.2.1
theorem CsC.no {sp L : Nat} {f : Nat → Int32} {a : Nat} {e : Bool} {σ : cl_S} (hS : CsC sp L f a e σ) : e = true → σ.1 sp 15 = nI a := hS.2.2.2.2.2.2.2.2
def CsQ (L : Nat) (f : Nat → Int32) (a : Nat) (e : Bool) (ρ : rf_S) : Prop := (L ≤ 200) ∧ (a ≤ L) ∧ (ρ.1 27 9 = nI L) ∧ (∀ j, j < L → ρ.1 26 (16640 + j) = f j) ∧ (ρ.1 0 115 = nI a) ∧ (ρ.1 0 116 = if e then 1 else 0)
theorem CsQ.L2 {L : Nat} {f : Nat → Int32} {a : Nat} {e : Bool} {ρ : rf_S} (hS : CsQ L f a e ρ) : L ≤ 200 := hS.1
theorem CsQ.aL {L : Nat} {f : Nat → Int32} {a : Nat} {e : Bool} {ρ : rf_S} (hS : CsQ L f a e ρ) : a ≤ L := hS.2.1
theorem CsQ.l9 {L : Nat} {f : Nat → Int32} {a : Nat} {e : Bool} {ρ : rf_S} (hS : CsQ L f a e ρ) : ρ.1 27 9 = nI L := hS.2.2.1
theorem CsQ.fw {L : Nat} {f : Nat → Int32} {a : Nat} {e : Bool} {ρ : rf_S} (hS : CsQ L f a e ρ) : ∀ j, j < L → ρ.1 26 (16640 + j) = f j := hS.2.2.2.1
theorem CsQ.at' {L : Nat} {f : Nat → Int32} {a : Nat} {e : Bool} {ρ : rf_S} (hS : CsQ L f a e ρ) : ρ.1 0 115 = nI a := hS.2.2.2.2.1
theorem CsQ.w {L : Nat} {f : Nat → Int32} {a : Nat} {e : Bool} {ρ : rf_S} (hS : CsQ L f a e ρ) : ρ.1 0 116 = if e then 1 else 0 := hS.2.2.2.2.2
variable {sp L a : Nat} {f : Nat → Int32} {e : Bool}
theorem CsC.cg (h : CsC sp L f a e σ) (h1 : ∀ j, j = 13 ∨ j = 14 ∨ j = 15 → σ'.1 sp j = σ.1 sp j) (h2 : σ'.1 29 = σ.1 29) (h3 : σ'.2 = σ.2) : CsC sp L f a e σ' := ⟨h.sp, h.L2, h.aL, by rw [h3]; exact h.w12, by rw [h1 13 (by omega)]; exact h.w13, by rw [h3]; exact h.T, by rw [h2]; exact h.fw, fun q => by rw [h1 14 (by omega), h1 15 (by omega)]; exact h.ok q, fun q => by rw [h1 15 (by omega)]; exact h.no q⟩
theorem CsQ.cg (h : CsQ L f a e ρ) (h1 : ∀ j, j = 115 ∨ j = 116 → ρ'.1 0 j = ρ.1 0 j) (h2 : ρ'.1 26 = ρ.1 26) (h3 : ρ'.1 27 = ρ.1 27) : CsQ L f a e ρ' := ⟨h.L2, h.aL, by rw [h3]; exact h.l9, by rw [h2]; exact h.fw, by rw [h1 115 (by omega)]; exact h.at', by rw [h1 116 (by omega)]; exact h.w⟩
/-- what the reading leaves as it was -/
def Kf (sp : Nat) (σ σ' : cl_S) (ρ ρ' : rf_S) : Prop := (∀ d, (d < sp ∨ sp + 9 < d) → σ'.1 d = σ.1 d) ∧ (σ'.2 = σ.2) ∧ (∀ c, c ≠ 0 → c ≠ 79 → ρ'.1 c = ρ.1 c) ∧ (ρ'.2 = ρ.2) ∧ (∀ j, j ≠ 115 → j ≠ 116 → ρ'.1 0 j = ρ.1 0 j)
theorem Kf.I {sp : Nat} {σ σ' : cl_S} {ρ ρ' : rf_S} (hS : Kf sp σ σ' ρ ρ') : ∀ d, (d < sp ∨ sp + 9 < d) → σ'.1 d = σ.1 d := hS.1
theorem Kf.c2 {sp : Nat} {σ σ' : cl_S} {ρ ρ' : rf_S} (hS : Kf sp σ σ' ρ ρ') : σ'.2 = σ.2 := hS.2.1
theorem Kf.q {sp : Nat} {σ σ' : cl_S} {ρ ρ' : rf_S} (hS : Kf sp σ σ' ρ ρ') : ∀ c, c ≠ 0 → c ≠ 79 → ρ'.1 c = ρ.1 c := hS.2.2.1
theorem Kf.l {sp : Nat} {σ σ' : cl_S} {ρ ρ' : rf_S} (hS : Kf sp σ σ' ρ ρ') : ρ'.2 = ρ.2 := hS.2.2.2.1
theorem Kf.i {sp : Nat} {σ σ' : cl_S} {ρ ρ' : rf_S} (hS : Kf sp σ σ' ρ ρ') : ∀ j, j ≠ 115 → j ≠ 116 → ρ'.1 0 j = ρ.1 0 j := hS.2.2.2.2
theorem Kf.refl : Kf sp σ σ ρ ρ := ⟨fun _ _ => rfl, rfl, fun _ _ _ => rfl, rfl, fun _ _ _ => rfl⟩
theorem Kf.trans {σ'' : cl_S} {ρ'' : rf_S} (h : Kf sp σ σ' ρ ρ') (k : Kf sp σ' σ'' ρ' ρ'') : Kf sp σ σ'' ρ ρ'' := ⟨fun d hd => (k.I d hd).trans (h.I d hd), k.c2.trans h.c2, fun c a b => (k.q c a b).trans (h.q c a b), k.l.trans h.l, fun j a b => (k.i j a b).trans (h.i j a b)⟩
/-- the next word, in the class -/
theorem CsC.nx (h : CsC sp L f a e σ) (lo hi : Int32) :
    (e = false ∧ a < L ∧ ¬ f a < lo ∧ f a ≤ hi ∧ fc_X1_nextWord sp lo hi σ = some (f a, cl_w σ sp 14 (nI (a + 1))) ∧ CsC sp L f (a + 1) false (cl_w σ sp 14 (nI (a + 1)))) ∨
    (e = false ∧ (L ≤ a ∨ f a < lo ∨ ¬ f a ≤ hi) ∧ fc_X1_nextWord sp lo hi σ = some (lo, cl_w σ sp 15 (nI a)) ∧ CsC sp L f a true (cl_w σ sp 15 (nI a))) ∨
    (e = true ∧ fc_X1_nextWord sp lo hi σ = some (lo, σ)) := by
  have hsp := h.sp
  have hL := h.L2
  have haL := h.aL
  unfold fc_X1_nextWord bc_X1_nextWord_0 bc_X1_nextWord_46
  cases e with
  | true =>
    right; right
    rw [h.no rfl, if_neg (n_nneg (by omega))]
    exact ⟨rfl, rfl⟩
  | false =>
    obtain ⟨o1, o2⟩ := h.ok rfl
    have bad : CsC sp L f a true (cl_w σ sp 15 (nI a)) := ⟨hsp, hL, haL, h.w12, by rw [r_wk (by decide)]; exact h.w13, h.T, by rw [r_w (by omega)]; exact h.fw, fun q => Bool.noConfusion q, fun _ => r_ws⟩
    rw [o2, if_pos (by decide), h.w13, o1]
    by_cases c1 : L ≤ a
    · right; left
      rw [if_pos ((n_le (by omega) (by omega)).mpr c1), vln]
      exact ⟨rfl, Or.inl c1, rfl, bad⟩
    rw [if_neg (fun q => c1 ((n_le (by omega) (by omega)).mp q)), vln, h.w12, nnn, h.T, n_ix (show a < 2048 by omega) (by omega), n_cl (show a < 2147483648 by omega), h.fw a (by omega)]
    by_cases c2 : f a < lo
    · right; left
      rw [if_pos c2, vln]
      exact ⟨rfl, Or.inr (Or.inl c2), rfl, bad⟩
    rw [if_neg c2, vln, nnn, h.T, n_ix (show a < 2048 by omega) (by omega), h.fw a (by omega)]
    by_cases c3 : f a ≤ hi
    · left
      rw [if_pos c3, vln, show nI a + (1:Int32) = nI (a + 1) from n_add a 1, vln]
      have t12 : (cl_w σ sp 14 (nI (a + 1))).2.2.1 sp 12 = some 29 := h.w12
      have tT : ((cl_w σ sp 14 (nI (a + 1))).2.2.2.1 29).2 = 2048 := h.T
      rw [t12, nnn, tT, r_ws, show nI (a + 1) - (1:Int32) = nI a from n_sub (a := a + 1) (b := 1) (by omega), n_ix (show a < 2048 by omega) (by omega), n_cl (show a < 2147483648 by omega), r_w (show (29:Nat) ≠ sp by omega), h.fw a (by omega)]
      exact ⟨rfl, by omega, c2, c3, rfl, hsp, hL, by omega, h.w12, by rw [r_wk (by decide)]; exact h.w13, h.T, by rw [r_w (by omega)]; exact h.fw, fun _ => ⟨r_ws, by rw [r_wk (by decide)]; exact o2⟩, fun q => Bool.noConfusion q⟩
    · right; left
      rw [if_neg c3, vln]
      exact ⟨rfl, Or.inr (Or.inr c3), rfl, bad⟩
/-- .. in the reference -/
theorem CsQ.nx (h : CsQ L f a e ρ) (lo hi : Int32) :
    (e = false ∧ a < L ∧ ¬ f a < lo ∧ f a ≤ hi ∧ fq_config lo hi ρ = some (f a, rf_w ρ 0 115 (nI (a + 1))) ∧ CsQ L f (a + 1) false (rf_w ρ 0 115 (nI (a + 1)))) ∨
    ((e = false → (L ≤ a ∨ f a < lo ∨ ¬ f a ≤ hi)) ∧ fq_config lo hi ρ = some (lo, rf_w ρ 0 116 1) ∧ CsQ L f a true (rf_w ρ 0 116 1)) := by
  have hL := h.L2
  have haL := h.aL
  have bad : CsQ L f a true (rf_w ρ 0 116 1) := ⟨hL, haL, h.l9, h.fw, by rw [q_wk (by decide)]; exact h.at', q_ws⟩
  have hw := h.w
  have i9 : ∀ {α : Type} (x : Option α), ix (9:Int32) 10 x = x := fun x => n_ix (a := 9) (n := 10) (by omega) (by omega)
  unfold fq_config bq_config_0 bq_config_55
  cases e with
  | true =>
    right
    have hw' : ρ.1 0 116 = 1 := hw
    rw [hw', if_neg (by decide), vln]
    exact ⟨fun q => Bool.noConfusion q, rfl, bad⟩
  | false =>
    have hw' : ρ.1 0 116 = 0 := hw
    rw [hw', if_pos rfl, i9, show (9:Int32).toNatClampNeg = 9 from rfl, h.l9, h.at']
    by_cases c1 : L ≤ a
    · right
      rw [if_pos ((n_le (by omega) (by omega)).mpr c1), vln]
      exact ⟨fun _ => Or.inl c1, rfl, bad⟩
    rw [if_neg (fun q => c1 ((n_le (by omega) (by omega)).mp q)), show (16640:Int32) + nI a = nI (16640 + a) from n_add 16640 a, n_ix (show 16640 + a < 17000 by omega) (by omega), n_cl (show 16640 + a < 2147483648 by omega), h.fw a (by omega)]
    by_cases c2 : f a < lo
    · right
      rw [if_pos c2, vln]
      exact ⟨fun _ => Or.inr (Or.inl c2), rfl, bad⟩
    rw [if_neg c2, n_ix (show 16640 + a < 17000 by omega) (by omega)]
    by_cases c3 : f a ≤ hi
    · left
      have t26 : (rf_w ρ 0 115 (nI (a + 1))).1 26 (16640 + a) = f a := by rw [q_w (by decide)]; exact h.fw a (by omega)
      rw [if_pos c3, vln, show nI a + (1:Int32) = nI (a + 1) from n_add a 1, q_ws, show (16640:Int32) + nI (a + 1) - 1 = nI (16640 + a) from by rw [show (16640:Int32) = nI 16640 from rfl, n_add, show (1:Int32) = nI 1 from rfl, n_sub (by omega)]; congr 1, n_ix (show 16640 + a < 17000 by omega) (by omega), n_cl (show 16640 + a < 2147483648 by omega), t26]
      exact ⟨rfl, by omega, c2, c3, rfl, hL, by omega, h.l9, h.fw, q_ws, by rw [q_wk (by decide)]; exact hw⟩
    · right
      rw [if_neg c3, vln]
      exact ⟨fun _ => Or.inr (Or.inr c3), rfl, bad⟩
/-- both read a word; e' tells whether both are at a fault now -/
theorem nx_same (hC : CsC sp L f a e σ) (hQ : CsQ L f a e ρ) (lo hi : Int32) : ∃ v σ' ρ' a' e', fc_X1_nextWord sp lo hi σ = some (v, σ') ∧ fq_config lo hi ρ = some (v, ρ') ∧ CsC sp L f a' e' σ' ∧ CsQ L f a' e' ρ' ∧ Kf sp σ σ' ρ ρ' ∧ (∀ d j, ¬ (d = sp ∧ (j = 14 ∨ j = 15)) → σ'.1 d j = σ.1 d j) ∧ ρ'.1 79 = ρ.1 79 ∧ (e' = false → e = false ∧ a' = a + 1 ∧ ¬ v < lo ∧ v ≤ hi) ∧ (v = lo ∨ (¬ v < lo ∧ v ≤ hi)) := by
  have hsp := hC.sp
  rcases hC.nx lo hi with ⟨rfl, b1, b2, b3, b4, b5⟩ | ⟨rfl, b1, b4, b5⟩ | ⟨rfl, b4⟩
  · rcases hQ.nx lo hi with ⟨-, c1, c2, c3, c4, c5⟩ | ⟨c1, c4, c5⟩
    · exact ⟨_, _, _, a + 1, false, b4, c4, b5, c5, ⟨fun d hd => r_w (by omega), rfl, fun c h1 _ => q_w h1, rfl, fun j h1 h2 => q_wk h1⟩, fun d j hd => by rw [g_w, if_neg (by omega)], q_w (by decide), fun _ => ⟨rfl, rfl, b2, b3⟩, Or.inr ⟨b2, b3⟩⟩
    · rcases c1 rfl with c1 | c1 | c1
      · omega
      · exact absurd c1 b2
      · exact absurd b3 c1
  · rcases hQ.nx lo hi with ⟨-, c1, c2, c3, c4, c5⟩ | ⟨c1, c4, c5⟩
    · rcases b1 with b1 | b1 | b1
      · omega
      · exact absurd b1 c2
      · exact absurd c3 b1
    · exact ⟨_, _, _, a, true, b4, c4, b5, c5, ⟨fun d hd => r_w (by omega), rfl, fun c h1 _ => q_w h1, rfl, fun j h1 h2 => q_wk h2⟩, fun d j hd => by rw [g_w, if_neg (by omega)], q_w (by decide), fun q => Bool.noConfusion q, Or.inl rfl⟩
  · rcases hQ.nx lo hi with ⟨q, -⟩ | ⟨c1, c4, c5⟩
    · cases q
    · exact ⟨_, _, _, a, true, b4, c4, hC, c5, ⟨fun d hd => rfl, rfl, fun c h1 _ => q_w h1, rfl, fun j h1 h2 => q_wk h2⟩, fun d j hd => rfl, q_w (by decide), fun q => Bool.noConfusion q, Or.inl rfl⟩
/-- the last word is refused -/
theorem CsC.rf (h : CsC sp L f a e σ) (h1 : e = false → 1 ≤ a) : ∃ σ', fc_X1_refuseLast sp σ = some σ' ∧ CsC sp L f (if e then a else a - 1) true σ' ∧ (∀ d j, ¬ (d = sp ∧ j = 15) → σ'.1 d j = σ.1 d j) ∧ σ'.2 = σ.2 := by
  have hsp := h.sp
  have haL := h.aL
  have hL := h.L2
  unfold fc_X1_refuseLast bc_X1_refuseLast_0
  cases e with
  | true =>
    rw [h.no rfl, if_pos (by rw [i32_0, n_le (by omega) (by omega)]; omega)]
    exact ⟨σ, rfl, h, fun _ _ _ => rfl, rfl⟩
  | false =>
    obtain ⟨o1, o2⟩ := h.ok rfl
    have := h1 rfl
    rw [o2, if_neg (by decide), o1, show nI a - (1:Int32) = nI (a - 1) from n_sub (a := a) (b := 1) this, vln]
    refine ⟨_, rfl, ⟨hsp, hL, ?_, h.w12, by rw [r_wk (by decide)]; exact h.w13, h.T, by rw [r_w (by omega)]; exact h.fw, fun q => Bool.noConfusion q, fun _ => r_ws⟩, fun d j hd => by rw [g_w, if_neg hd], rfl⟩
    show a - 1 ≤ L
    omega
theorem CsQ.rf (h : CsQ L f a e ρ) {x : Int32} (hx : ¬ x = 0) (h1 : e = false → 1 ≤ a) : ∃ ρ', fq_refuse x ρ = some ρ' ∧ CsQ L f (if e then a else a - 1) true ρ' ∧ (∀ c, c ≠ 0 → ρ'.1 c = ρ.1 c) ∧ ρ'.2 = ρ.2 ∧ (∀ j, j ≠ 115 → j ≠ 116 → ρ'.1 0 j = ρ.1 0 j) := by
  have haL := h.aL
  have hL := h.L2
  have hw := h.w
  unfold fq_refuse bq_refuse_0
  rw [if_neg hx]
  cases e with
  | true =>
    have hw' : ρ.1 0 116 = 1 := hw
    rw [hw', if_neg (by decide)]
    exact ⟨ρ, rfl, h, fun _ _ => rfl, rfl, fun _ _ _ => rfl⟩
  | false =>
    have hw' : ρ.1 0 116 = 0 := hw
    have := h1 rfl
    rw [hw', if_pos rfl, vln, q_wk (show (115:Nat) ≠ 116 by decide), h.at', show nI a - (1:Int32) = nI (a - 1) from n_sub (a := a) (b := 1) this, vln]
    refine ⟨_, rfl, ⟨hL, ?_, h.l9, h.fw, q_ws, ?_⟩, fun c hc => by rw [q_w hc, q_w hc], rfl, fun j h1 h2 => by rw [q_wk h1, q_wk h2]⟩
    · show a - 1 ≤ L; omega
    · rw [q_wk (by decide), q_ws]; rfl
theorem CsQ.rf0 : fq_refuse 0 ρ = some ρ := by
  unfold fq_refuse bq_refuse_0
  rw [if_pos rfl]
end Z2_G5
