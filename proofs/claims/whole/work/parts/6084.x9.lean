section Z2_X9
variable {K : Bd} {W W' : Wd} {b : Bool} {k p : Nat} {σ σ' : cl_S} {ρ ρ' : rf_S}
theorem OthA.fr3 (h : OthA σ ρ) (hI : ∀ b, b ≠ 15 → b ≠ 16 → b ≠ 17 → σ'.1 b = σ.1 b) (hq : ∀ c, 12 < c → c < 28 → ρ'.1 c = ρ.1 c) (hf : ∀ j, j = 26 ∨ j = 28 ∨ j = 41 ∨ j = 43 → ρ'.1 0 j = ρ.1 0 j) : OthA σ' ρ' := by
  refine ⟨?_, ?_, ?_, ?_, ?_⟩
  · rw [hI 1 (by omega) (by omega) (by omega), hI 2 (by omega) (by omega) (by omega), hq 16 (by omega) (by omega), hf 26 (by omega)]; exact h.tx
  · rw [hI 0 (by omega) (by omega) (by omega), hI 18 (by omega) (by omega) (by omega), hq 17 (by omega) (by omega), hf 28 (by omega)]; exact h.rw
  · intro i hi; rw [hI 30 (by omega) (by omega) (by omega), hI (20 + i) (by omega) (by omega) (by omega), hq 26 (by omega) (by omega), hq 27 (by omega) (by omega)]; exact h.kp i hi
  · rw [hI 6 (by omega) (by omega) (by omega), hI 14 (by omega) (by omega) (by omega), hq 25 (by omega) (by omega), hf 43 (by omega)]; exact h.sh
  · rw [hI 6 (by omega) (by omega) (by omega), hf 41 (by omega)]; exact h.pl
/-- SAFE -/
theorem call_safe (h : RC k σ ρ) (hk : k < 64) (x1 x2 : Int32) : CO k (fc_X11_safe 0 x1 x2 σ) (fq_safe x1 x2 ρ) := by
  obtain ⟨W, R⟩ := id h
  unfold fc_X11_safe bc_X11_safe_0 fq_safe bq_safe_0
  refine CO.ite Iff.rfl (fun _ _ => CO.same h hk _) (fun c0 _ => ?_)
  rcases n_cases x1 with q | ⟨p, hp, rfl⟩
  · exact absurd q c0
  have e8 : (8:Int32) ≤ nI p ↔ 8 ≤ p := n_le (a := 8) (b := p) (by omega) hp
  have e7 : (7:Int32) < nI p ↔ 7 < p := n_lt (a := 7) (b := p) (by omega) hp
  refine CO.ite (by rw [e8, e7]; omega) (fun _ _ => CO.same h hk _) (fun c8 _ => ?_)
  have p8 : p < 8 := by
    have : ¬ 8 ≤ p := fun q => c8 (e8.mpr q)
    omega
  have i10 : ∀ {α : Type} (z : Option α), ix (nI p) 10 z = z := fun z => n_ix (by omega) (by omega)
  obtain ⟨n, ⟨n1, n2, n3⟩, n4⟩ := R.oA.kp p (by omega)
  have n1' : n ≤ 2048 := by unfold kap at n1; rw [if_pos p8] at n1; exact n1
  have n4' : ∀ j, j < n → σ.1 (20 + p) j = ρ.1 26 (2048 * p + j) := by
    intro j hj
    have := n4 j hj
    unfold kat at this
    rw [if_pos p8] at this
    exact this
  simp only [i10]
  rw [n_cl hp, n2, n3]
  refine CO.ite Iff.rfl (fun _ _ => CO.same h hk _) (fun cz _ => ?_)
  have n0 : 0 < n := by
    rcases Nat.eq_zero_or_pos n with z | z
    · rw [z] at cz; exact absurd rfl cz
    · exact z
  rw [vln]
  refine CO.ite Iff.rfl (fun _ _ => CO.same h hk _) (fun c16 _ => ?_)
  refine CO.ite Iff.rfl (fun _ _ => CO.same h hk _) (fun c2 _ => ?_)
  refine CO.ite Iff.rfl (fun cn _ => ?_) (fun _ _ => CO.same h hk _)
  rcases n_cases x2 with q | ⟨x, hx, rfl⟩
  · exact absurd (n_neg q (show 16 < 2147483648 by omega)).1 c16
  have x2048 : x ≤ 2048 := by
    apply Classical.byContradiction
    intro q
    exact c2 ((n_lt (a := 2048) (b := x) (by omega) hx).mpr (by omega))
  obtain ⟨v, σ', ρ', e1, e2, F, G⟩ := sf_main (n := n) (x := x) (w := 20 + p) (p := p) (f := fun j => ρ.1 26 (2048 * p + j)) (σ := σ) (ρ := ρ) n0 n1' x2048 p8 R.st.t2.1 (by rw [(R.st.kp p (by omega)).2]) ⟨by omega, by omega, by omega⟩ n4' (fun j _ => rfl)
  rw [(R.st.kp p (by omega)).1]
  refine ⟨v, σ', ρ', e1, e2, ?_⟩
  refine h.tx hk (fun a ha => F.1 a (by omega) (by omega) (by omega)) (by rw [F.1 0 (by decide) (by decide) (by decide)]) (by rw [F.2]) (by rw [F.2]) (by rw [F.2]) (fun c h1 _ h3 => G.1 c h1 (by omega) (by omega)) (fun j hj _ _ _ _ => G.2.1 j (by unfold use at hj; omega) (by unfold use at hj; omega)) (by rw [G.2.2]) (R.oA.fr3 (fun a h1 h2 h3 => F.1 a h1 h2 h3) (fun c h1 h2 => G.1 c (by omega) (by omega) (by omega)) (fun j hj => G.2.1 j (by omega) (by omega)))
end Z2_X9
