section Z2_FC
variable {ρ : rf_S}
/-! LAYER 2: both are made -/
def sI : cl_S := (s13.1, s13.2.1, s13.2.2.1, va_up s13.2.2.2.1 0 (16 + 11, 0), 405, s13.2.2.2.2.2.1 - 80, s13.2.2.2.2.2.2 - 2124222)
def tsI : List Nat := [37, 36, 35, 34]
def tmI (t : Nat) : Nat := 34 + t
theorem m4 {P : Nat → Prop} (h7 : P 37) (h6 : P 36) (h5 : P 35) (h4 : P 34) : ∀ a ∈ tsI, P a := by
  intro a ha
  unfold tsI at ha
  simp only [List.mem_cons, List.not_mem_nil, or_false] at ha
  rcases ha with rfl | rfl | rfl | rfl
  · exact h7
  · exact h6
  · exact h5
  · exact h4
/-- the buckets stay as they are behind the terms -/
def w32 (f : Nat → Option Nat) (σ : cl_S) : Prop := σ.2.2.1 32 = f ∧ 37 < σ.2.2.2.2.1
theorem v3_nw {f : Nat → Option Nat} {σ : cl_S} {t n N : Nat} (h : w32 f σ) : w32 f (cl_nw σ t n N) := by
  have := h.2
  exact ⟨by rw [r_nR (by omega)]; exact h.1, by rw [nw_n]; omega⟩
theorem v3_nwm {f : Nat → Option Nat} {σ : cl_S} {m k : Nat} (h : w32 f σ) : w32 f (cl_nwm σ m k) := by
  have := h.2
  refine ⟨?_, by rw [nwm_r]; show 37 < σ.2.2.2.2.1 + 1 + m; omega⟩
  rw [← h.1]
  funext j
  exact if_neg (show ¬ σ.2.2.2.2.1 ≤ 32 by omega)
theorem v3_wr {f : Nat → Option Nat} {σ : cl_S} {a k : Nat} {v : Option Nat} (ha : a ≠ 32) (h : w32 f σ) : w32 f (cl_wr σ a k v) := ⟨by rw [r_r (fun q => ha q.symm)]; exact h.1, h.2⟩
theorem v3_w {f : Nat → Option Nat} {σ : cl_S} {a k : Nat} {v : Int32} (h : w32 f σ) : w32 f (cl_w σ a k v) := h
theorem v3_se {f : Nat → Option Nat} {σ : cl_S} {a c : Nat} (h : w32 f σ) : w32 f (cl_seal σ a c) := h
theorem v3_iA {f : Nat → Option Nat} {σ : cl_S} {t n a k : Nat} (ha : a ≠ 32) (h : w32 f σ) : w32 f (iA σ t n a k) := v3_wr ha (v3_nw h)
theorem v3_X2 {f : Nat → Option Nat} {σ : cl_S} {a : Nat} (ha : a ≠ 32) (h : w32 f σ) : w32 f (iX2 a σ) := v3_iA ha (v3_iA ha h)
theorem v3_X1 {f : Nat → Option Nat} {σ : cl_S} {a : Nat} (ha : a ≠ 32) (h : w32 f σ) : w32 f (iX1 a σ) := v3_iA ha (v3_iA ha (v3_iA ha (v3_iA ha (v3_iA ha (v3_iA ha (v3_iA ha (v3_iA ha (v3_iA ha (v3_iA ha h)))))))))
theorem v3_X8 {f : Nat → Option Nat} {σ : cl_S} {a l s : Nat} {x : Option Nat} {y : Int32} (ha : a ≠ 32) (h : w32 f σ) : w32 f (iX8 a x l s y σ) := v3_iA ha (v3_iA ha (v3_w (v3_w (v3_wr ha h))))
theorem v3_X3 {f : Nat → Option Nat} {σ : cl_S} {a : Nat} {x : Option Nat} (ha : a ≠ 32) (h : w32 f σ) : w32 f (iX3 a x σ) := by
  have hn := h.2
  obtain ⟨q1, q2, q3, q4⟩ := iFill_r (σ.2.2.2.2.1 + 1) x 64 (cl_wr (iA (iA σ 1 64 a 1) 4 64 a 2) a 0 x)
  have hh : w32 f (cl_wr (iA (iA σ 1 64 a 1) 4 64 a 2) a 0 x) := v3_wr ha (v3_iA ha (v3_iA ha h))
  refine ⟨?_, ?_⟩
  · unfold iX3; rw [q4 32 (by omega)]; exact hh.1
  · unfold iX3; rw [q1]; exact hh.2
theorem v3_X6 {f : Nat → Option Nat} {σ : cl_S} {a : Nat} {x : Int32} (ha : a ≠ 32) (h : w32 f σ) : w32 f (iX6 a x σ) := by
  have hn := h.2
  have hb : w32 f (iX6b a (some 31) x σ) := v3_w (v3_wr ha (v3_iA ha (v3_iA ha (v3_iA ha (v3_iA ha (v3_iA ha (v3_wr ha (v3_se (v3_X2 (by omega) (v3_nw h))))))))))
  have hn2 := hb.2
  exact v3_wr ha (v3_wr ha (v3_wr ha (v3_wr ha (v3_se (v3_X8 (by omega) (v3_nw hb))))))
theorem v3_Ps {f : Nat → Option Nat} {σ : cl_S} {b : Nat} (hb : b ≠ 32) (h : w32 f σ) : ∀ p, w32 f (iPs b p σ) := by
  intro p
  induction p with
  | zero => exact h
  | succ p ih =>
    have hn := ih.2
    exact v3_wr hb (v3_se (v3_X6 (by omega) (v3_nw ih)))
theorem v3_X5 {f : Nat → Option Nat} {σ : cl_S} {a : Nat} {x : Option Nat} {y : Int32} (ha : a ≠ 32) (h : w32 f σ) : w32 f (iX5 a x y σ) := by
  have hn := h.2
  have hb : w32 f (iX5b a σ) := v3_iA ha (v3_wr ha (v3_se (v3_X1 (by omega) (v3_nw h))))
  have hc : w32 f (iX5c a x y σ) := v3_w (v3_wr ha (v3_wr ha (v3_iA ha (v3_iA ha (v3_iA ha (v3_iA ha (v3_iA ha (v3_iA ha (v3_wr ha (v3_nwm hb))))))))))
  exact v3_Ps (by omega) hc 8
theorem ad_32 {m x y z a j : Nat} {k n : Int32} {σ : cl_S} (hn : σ.2.2.2.2.1 = a) (ha : 32 < a) (hx : x ≠ 32) (hy : y ≠ 32) (hz : z ≠ 32) : (iAdd m k n x y z a σ).2.2.1 32 j = if j = m then some a else σ.2.2.1 32 j := by
  have ha' : 32 ≠ a := by omega
  have hx' : 32 ≠ x := fun q => hx q.symm
  have hy' : 32 ≠ y := fun q => hy q.symm
  have hz' : 32 ≠ z := fun q => hz q.symm
  have e : (iTau m k n x y z a σ).2.2.1 32 j = if j = m then some a else σ.2.2.1 32 j := by
    unfold iTau
    simp only [g_r, r_sR, r_wL, g_nR, hn, ha', true_and, false_and, if_false, Nat.reduceEqDiff]
  show (iNote a x y z (iTau m k n x y z a σ)).2.2.1 32 j = _
  rw [← e]
  generalize iTau m k n x y z a σ = τ
  unfold iNote
  split
  · split
    · simp only [g_r, ha', hx', false_and, if_false]
    · simp only [g_r, ha', hx', hz', false_and, if_false]
  · split
    · simp only [g_r, ha', hx', hy', false_and, if_false]
    · simp only [g_r, ha', hx', hy', hz', false_and, if_false]
theorem r32 (m : Nat) (h : m < 4096) : sI.2.2.1 32 m = if m = 2871 then some 34 else if m = 1497 then some 35 else if m = 3699 then some 36 else if m = 3665 then some 37 else none := by
  have h7 : w32 (s7.2.2.1 32) s7 := ⟨rfl, by rw [n7]; omega⟩
  have h8 : w32 (s7.2.2.1 32) s8 := v3_wr (by decide) (v3_se (v3_X8 (by decide) (v3_nw h7)))
  have h9 : w32 (s7.2.2.1 32) s9 := v3_wr (by decide) (v3_se (v3_X3 (by decide) (v3_nw h8)))
  have h10 : w32 (s7.2.2.1 32) s10 := v3_wr (by decide) (v3_se (v3_X3 (by decide) (v3_nw h9)))
  have h11 : w32 (s7.2.2.1 32) s11 := v3_wr (by decide) (v3_se (v3_X5 (by decide) (v3_nw h10)))
  have h12a : w32 (s7.2.2.1 32) s12a := v3_se (v3_X3 (by decide) (v3_nw (v3_nw h11)))
  have h12 : w32 (s7.2.2.1 32) s12 := v3_wr (by decide) (v3_se (v3_X5 (by decide) h12a))
  have h13 : w32 (s7.2.2.1 32) s13 := v3_wr (by decide) (v3_se (v3_X1 (by decide) (v3_nw h12)))
  have e7 : s7.2.2.1 32 m = t12.2.2.1 32 m := by
    show (cl_wr t13 0 7 (some 31)).2.2.1 32 m = _
    rw [r_r (by decide)]; rfl
  have e12 : t12.2.2.1 32 m = if m = 3665 then some 37 else t10.2.2.1 32 m := by
    show (cl_wr (iAdd 3665 6 0 36 33 33 37 t10) 31 7 (some 37)).2.2.1 32 m = _
    rw [r_r (by decide), ad_32 (by decide +kernel) (by decide) (by decide) (by decide) (by decide)]
  have e10 : t10.2.2.1 32 m = if m = 3699 then some 36 else t8.2.2.1 32 m := by
    show (cl_wr (iAdd 3699 9 0 34 35 33 36 t8) 31 6 (some 36)).2.2.1 32 m = _
    rw [r_r (by decide), ad_32 (by decide +kernel) (by decide) (by decide) (by decide) (by decide)]
  have e8 : t8.2.2.1 32 m = if m = 1497 then some 35 else t7.2.2.1 32 m := by
    show (iAdd 1497 0 1 33 33 33 35 t7).2.2.1 32 m = _
    rw [ad_32 (by decide +kernel) (by decide) (by decide) (by decide) (by decide)]
  have e7' : t7.2.2.1 32 m = if m = 2871 then some 34 else t4.2.2.1 32 m := by
    show (cl_wr (cl_w t5 31 3 (t5.1 31 3 + 1)) 31 5 (some 34)).2.2.1 32 m = _
    rw [r_r (by decide)]
    show (iAdd 2871 2 0 33 33 33 34 t4).2.2.1 32 m = _
    rw [ad_32 (by decide +kernel) (by decide) (by decide) (by decide) (by decide)]
  have e4 : t4.2.2.1 32 m = none := by
    show (cl_wr (cl_wr (cl_wr (cl_wr t2 31 4 (some 33)) 33 3 (some 33)) 33 4 (some 33)) 33 5 (some 33)).2.2.1 32 m = none
    rw [r_r (by decide), r_r (by decide), r_r (by decide), r_r (by decide)]
    show (cl_wr (cl_w (cl_w (cl_w (cl_w (cl_nw t1 125 0 16) 33 6 1) 33 0 (-1)) 33 1 0) 33 2 0) 33 8 none).2.2.1 32 m = none
    rw [r_r (by decide)]
    show (cl_nw t1 125 0 16).2.2.1 32 m = none
    rw [r_nR (by decide +kernel)]
    show (cl_wr (cl_nw (cl_seal (cl_nw s6 126 0 11) 31 10) 4 4096 4096) 31 0 (some (cl_seal (cl_nw s6 126 0 11) 31 10).2.2.2.2.1)).2.2.1 32 m = none
    rw [r_r (by decide), r_nR0 (by decide +kernel)]
  rw [show sI.2.2.1 = s13.2.2.1 by unfold sI; rfl, h13.1, e7, e12, e10, e8, e7', e4]
  by_cases q1 : m = 2871
  · subst q1; decide
  · by_cases q2 : m = 1497
    · subst q2; decide
    · rw [if_neg q1, if_neg q2, if_neg q1, if_neg q2]
      by_cases q3 : m = 3699
      · subst q3; decide
      · rw [if_neg q3, if_neg q3]
theorem bkI {a x y z : Nat} {k : Nat} (h3 : sI.2.2.1 a 3 = some x) (h4 : sI.2.2.1 a 4 = some y) (h5 : sI.2.2.1 a 5 = some z) (hb : hB (sI.1 a 0) (sI.1 a 1) (sI.1 x 2) (sI.1 y 2) (sI.1 z 2) = nI k) (hk : k < 4096) {m : Nat} (hm : m < 4096) : bkt sI a m ↔ m = k := by
  refine ⟨?_, ?_⟩
  · rintro ⟨x', y', z', e3, e4, e5, e⟩
    rw [h3] at e3; cases e3
    rw [h4] at e4; cases e4
    rw [h5] at e5; cases e5
    rw [hb] at e
    exact ((n_eq (by omega) (by omega)).mp e).symm
  · rintro rfl
    exact ⟨x, y, z, h3, h4, h5, hb⟩
theorem c0I : CSt0 sI tsI := by
  have K : ∀ a ∈ tsI, ∀ b ∈ tsI, sI.1 a 0 = sI.1 b 0 → a = b := by decide +kernel
  have b34 : ∀ {m : Nat}, m < 4096 → (bkt sI 34 m ↔ m = 2871) := fun hm => bkI (x := 33) (y := 33) (z := 33) (by decide +kernel) (by decide +kernel) (by decide +kernel) (by decide +kernel) (by decide) hm
  have b35 : ∀ {m : Nat}, m < 4096 → (bkt sI 35 m ↔ m = 1497) := fun hm => bkI (x := 33) (y := 33) (z := 33) (by decide +kernel) (by decide +kernel) (by decide +kernel) (by decide +kernel) (by decide) hm
  have b36 : ∀ {m : Nat}, m < 4096 → (bkt sI 36 m ↔ m = 3699) := fun hm => bkI (x := 34) (y := 35) (z := 33) (by decide +kernel) (by decide +kernel) (by decide +kernel) (by decide +kernel) (by decide) hm
  have b37 : ∀ {m : Nat}, m < 4096 → (bkt sI 37 m ↔ m = 3665) := fun hm => bkI (x := 36) (y := 33) (z := 33) (by decide +kernel) (by decide +kernel) (by decide +kernel) (by decide +kernel) (by decide) hm
  have mt : ∀ a, a ∈ tsI ↔ a = 37 ∨ a = 36 ∨ a = 35 ∨ a = 34 := fun a => by
    unfold tsI
    simp only [List.mem_cons, List.not_mem_nil, or_false]
  refine ⟨?_, ?_, ?_, ?_, ?_, ?_, ?_, ?_, ?_, ?_, ?_⟩
  · decide +kernel
  · decide
  · decide +kernel
  · refine m4 ⟨6, by decide, by decide +kernel, ?_, fun _ => by decide +kernel⟩ ⟨9, by decide, by decide +kernel, ?_, fun _ => by decide +kernel⟩ ⟨0, by decide, by decide +kernel, ?_, fun q => absurd q (by decide)⟩ ⟨2, by decide, by decide +kernel, ?_, fun q => absurd q (by decide)⟩
    · unfold shp; rw [if_neg (by decide), if_pos (by decide)]
      exact ⟨⟨36, by decide +kernel, by decide⟩, show _ = some 33 by decide +kernel, show _ = some 33 by decide +kernel⟩
    · unfold shp; rw [if_neg (by decide), if_neg (by decide), if_neg (by decide)]
      exact ⟨⟨34, by decide +kernel, by decide⟩, ⟨35, by decide +kernel, by decide⟩, show _ = some 33 by decide +kernel⟩
    · unfold shp; rw [if_pos (by decide)]
      exact ⟨show _ = some 33 by decide +kernel, show _ = some 33 by decide +kernel, show _ = some 33 by decide +kernel⟩
    · unfold shp; rw [if_pos (by decide)]
      exact ⟨show _ = some 33 by decide +kernel, show _ = some 33 by decide +kernel, show _ = some 33 by decide +kernel⟩
  · decide +kernel
  · decide +kernel
  · intro a ha b hb _ h
    exact K a ha b hb h.1
  · intro m hm
    have em := r32 m hm
    by_cases q1 : m = 2871
    · rw [if_pos q1] at em
      refine ⟨[34], ?_, fun a => ?_⟩
      · rw [em]; exact ⟨rfl, show sI.2.2.1 34 7 = none by decide +kernel⟩
      · rw [mt]
        simp only [List.mem_cons, List.not_mem_nil, or_false]
        refine ⟨?_, ?_⟩
        · rintro rfl; exact ⟨by omega, (b34 hm).mpr q1⟩
        · rintro ⟨rfl | rfl | rfl | rfl, h⟩
          · have := (b37 hm).mp h; omega
          · have := (b36 hm).mp h; omega
          · have := (b35 hm).mp h; omega
          · rfl
    rw [if_neg q1] at em
    by_cases q2 : m = 1497
    · rw [if_pos q2] at em
      refine ⟨[35], ?_, fun a => ?_⟩
      · rw [em]; exact ⟨rfl, show sI.2.2.1 35 7 = none by decide +kernel⟩
      · rw [mt]
        simp only [List.mem_cons, List.not_mem_nil, or_false]
        refine ⟨?_, ?_⟩
        · rintro rfl; exact ⟨by omega, (b35 hm).mpr q2⟩
        · rintro ⟨rfl | rfl | rfl | rfl, h⟩
          · have := (b37 hm).mp h; omega
          · have := (b36 hm).mp h; omega
          · rfl
          · have := (b34 hm).mp h; omega
    rw [if_neg q2] at em
    by_cases q3 : m = 3699
    · rw [if_pos q3] at em
      refine ⟨[36], ?_, fun a => ?_⟩
      · rw [em]; exact ⟨rfl, show sI.2.2.1 36 7 = none by decide +kernel⟩
      · rw [mt]
        simp only [List.mem_cons, List.not_mem_nil, or_false]
        refine ⟨?_, ?_⟩
        · rintro rfl; exact ⟨by omega, (b36 hm).mpr q3⟩
        · rintro ⟨rfl | rfl | rfl | rfl, h⟩
          · have := (b37 hm).mp h; omega
          · rfl
          · have := (b35 hm).mp h; omega
          · have := (b34 hm).mp h; omega
    rw [if_neg q3] at em
    by_cases q4 : m = 3665
    · rw [if_pos q4] at em
      refine ⟨[37], ?_, fun a => ?_⟩
      · rw [em]; exact ⟨rfl, show sI.2.2.1 37 7 = none by decide +kernel⟩
      · rw [mt]
        simp only [List.mem_cons, List.not_mem_nil, or_false]
        refine ⟨?_, ?_⟩
        · rintro rfl; exact ⟨by omega, (b37 hm).mpr q4⟩
        · rintro ⟨rfl | rfl | rfl | rfl, h⟩
          · rfl
          · have := (b36 hm).mp h; omega
          · have := (b35 hm).mp h; omega
          · have := (b34 hm).mp h; omega
    rw [if_neg q4] at em
    refine ⟨[], ?_, fun a => ?_⟩
    · rw [em]; exact rfl
    · rw [mt]
      refine ⟨?_, ?_⟩
      · intro h; exact absurd h List.not_mem_nil
      · rintro ⟨rfl | rfl | rfl | rfl, h⟩
        · have := (b37 hm).mp h; omega
        · have := (b36 hm).mp h; omega
        · have := (b35 hm).mp h; omega
        · have := (b34 hm).mp h; omega
  · exact ⟨by decide +kernel, by decide +kernel, by decide +kernel, by decide +kernel, show sI.2.2.1 34 8 = none by decide +kernel⟩
  · decide +kernel
  · have U : ∀ x ∈ tsI, ∀ l : List Nat, (∀ u ∈ l, u ∈ tsI) → (∀ u ∈ tsI, (u ∈ l ↔ (sI.2.2.1 u 3 = some x ∨ sI.2.2.1 u 4 = some x ∨ sI.2.2.1 u 5 = some x))) → ∀ u, u ∈ l ↔ u ∈ tsI ∧ (sI.2.2.1 u 3 = some x ∨ sI.2.2.1 u 4 = some x ∨ sI.2.2.1 u 5 = some x) := fun x _ l h1 h2 u => ⟨fun q => ⟨h1 u q, (h2 u (h1 u q)).mp q⟩, fun q => (h2 u q.1).mpr q.2⟩
    refine m4 ⟨[], ?_, U 37 (by decide) [] (by decide) (by decide +kernel)⟩ ⟨[37], ?_, U 36 (by decide) [37] (by decide) (by decide +kernel)⟩ ⟨[36], ?_, U 35 (by decide) [36] (by decide) (by decide +kernel)⟩ ⟨[36], ?_, U 34 (by decide) [36] (by decide) (by decide +kernel)⟩
    · exact show sI.2.2.1 37 12 = none by decide +kernel
    · exact ⟨by decide +kernel, show nxU sI 36 37 = none by unfold nxU; decide +kernel⟩
    · exact ⟨by decide +kernel, show nxU sI 35 36 = none by unfold nxU; decide +kernel⟩
    · exact ⟨by decide +kernel, show nxU sI 34 36 = none by unfold nxU; decide +kernel⟩
theorem cI : CSt sI tsI := by
  have K1 : ∀ a ∈ tsI, sI.1 a 0 ≠ nI 1 := by decide +kernel
  have K2 : ∀ a ∈ tsI, sI.1 a 0 = nI 2 → sI.1 a 1 = nI 0 := by decide +kernel
  refine ⟨c0I, ?_, ?_, ?_⟩
  · intro a ha h; exact absurd h (K1 a ha)
  · intro a ha b _ n f h; exact absurd h (K1 a ha)
  · exact ⟨1, by decide +kernel, by decide, fun a ha h => ⟨0, by omega, K2 a ha h⟩⟩
theorem tlI (P : IniQ ρ) : TL sI ρ tsI tmI 4 := by
  have c4 : ∀ {P : Nat → Prop}, P 0 → P 1 → P 2 → P 3 → ∀ t, t < 4 → P t := fun {P} a b c d t ht => by
    rcases (show t = 0 ∨ t = 1 ∨ t = 2 ∨ t = 3 by omega) with rfl | rfl | rfl | rfl
    · exact a
    · exact b
    · exact c
    · exact d
  have KN : ∀ t, t < 4 → ∀ k, k < 10 → ρ.1 1 t = nI k → (t = 0 ∧ k = 2) ∨ (t = 1 ∧ k = 0) ∨ (t = 2 ∧ k = 9) ∨ (t = 3 ∧ k = 6) := fun t ht k hk h => by
    rcases (show t = 0 ∨ t = 1 ∨ t = 2 ∨ t = 3 by omega) with rfl | rfl | rfl | rfl
    · rw [P.k0] at h; have := (n_eq (by omega) (by omega)).mp h; omega
    · rw [P.k1] at h; have := (n_eq (by omega) (by omega)).mp h; omega
    · rw [P.k2] at h; have := (n_eq (by omega) (by omega)).mp h; omega
    · rw [P.k3] at h; have := (n_eq (by omega) (by omega)).mp h; omega
  refine ⟨?_, ?_, ?_, ?_, ?_, ?_, ?_, ?_, ?_, ?_, ?_⟩
  · exact c4 (by decide) (by decide) (by decide) (by decide)
  · intro t u _ _ h; unfold tmI at h; omega
  · refine c4 ?_ ?_ ?_ ?_
    · rw [P.k0]; decide +kernel
    · rw [P.k1]; decide +kernel
    · rw [P.k2]; decide +kernel
    · rw [P.k3]; decide +kernel
  · intro t ht h
    rcases KN t ht 0 (by omega) h with q | q | q | q
    · omega
    · obtain ⟨rfl, -⟩ := q
      rw [P.a1]; decide +kernel
    · omega
    · omega
  · intro t k a ht h2 hk h ha hN
    rcases KN t ht k hk h with q | q | q | q
    · omega
    · omega
    · obtain ⟨rfl, -⟩ := q
      rw [P.a2] at ha
      have := (n_eq (by omega) (by omega)).mp ha
      subst this
      decide +kernel
    · obtain ⟨rfl, -⟩ := q
      rw [P.a3] at ha
      have := (n_eq (by omega) (by omega)).mp ha
      subst this
      decide +kernel
  · intro t k a ht h2 hk k4 k6 h ha hN
    rcases KN t ht k hk h with q | q | q | q
    · omega
    · omega
    · obtain ⟨rfl, -⟩ := q
      rw [P.b2] at ha
      have := (n_eq (by omega) (by omega)).mp ha
      subst this
      decide +kernel
    · omega
  · intro t a ht h
    rcases KN t ht 8 (by omega) h with q | q | q | q <;> omega
  · intro t o l ht h
    rcases KN t ht 1 (by omega) h with q | q | q | q <;> omega
  · intro a ha h
    exact absurd h ((show ∀ a ∈ tsI, sI.1 a 0 ≠ nI 1 by decide +kernel) a ha)
  · refine c4 ?_ ?_ ?_ ?_
    · rw [P.s0]; exact ⟨by decide +kernel, Or.inl rfl⟩
    · rw [P.s1]; exact ⟨by decide +kernel, Or.inl rfl⟩
    · rw [P.s2]; exact ⟨by decide +kernel, Or.inl rfl⟩
    · rw [P.s3]; exact ⟨by decide +kernel, Or.inr rfl⟩
  · refine m4 (fun h => absurd rfl (h 3 (by omega))) (fun h => absurd rfl (h 2 (by omega))) (fun h => absurd rfl (h 1 (by omega))) (fun h => absurd rfl (h 0 (by omega)))
theorem teI (P : IniQ ρ) : TermR 112000 sI ρ tsI tmI 4 := by
  refine ⟨cI, P.Q, tlI P, ⟨by omega, rfl, rfl, rfl, P.f19, P.f20, P.f21⟩, Or.inl (by decide +kernel), ?_, ?_, ?_⟩
  · refine ⟨0, P.z0 14 (by decide) (by decide) (by decide) (by decide) (by decide) (by decide) (by decide) (by decide), ?_, Or.inl P.f15, Or.inl P.f16, ?_⟩
    · unfold cb cb cb cb cb
      rw [P.s0, P.s1, P.s2, P.s3]
      decide
    · intro h
      rw [P.f15] at h
      exact absurd h.symm (n_m1 (by omega))
  · intro t h1 h2
    unfold nbd at h1
    omega
  · intro h; omega
end Z2_FC
