section Z2_FB
variable {σ σ' : cl_S}
/-! LAYER 2: rows that stay empty, rows that stay as they are -/
def zr (σ : cl_S) : Prop := ∀ b, b = 2 ∨ b = 18 ∨ b = 40 → ∀ j, σ.1 b j = 0
theorem zr_nw {t n N : Nat} (h : zr σ) : zr (cl_nw σ t n N) := by
  intro b hb j
  show (if b = σ.2.2.2.2.1 then (0:Int32) else σ.1 b j) = 0
  split
  · rfl
  · exact h b hb j
theorem zr_nwm {m k : Nat} (h : zr σ) : zr (cl_nwm σ m k) := by
  intro b hb j
  show (if σ.2.2.2.2.1 ≤ b then (0:Int32) else σ.1 b j) = 0
  split
  · rfl
  · exact h b hb j
theorem zr_w {a k : Nat} {v : Int32} (ha : a ≠ 2 ∧ a ≠ 18 ∧ a ≠ 40) (h : zr σ) : zr (cl_w σ a k v) := by
  intro b hb j
  rw [r_w (show b ≠ a by omega)]; exact h b hb j
theorem zr_wr {a k : Nat} {v : Option Nat} (h : zr σ) : zr (cl_wr σ a k v) := h
theorem zr_se {a c : Nat} (h : zr σ) : zr (cl_seal σ a c) := h
theorem zr_iA {t n a f : Nat} (h : zr σ) : zr (iA σ t n a f) := zr_wr (zr_nw h)
theorem zr_nm {b n : Nat} (h : zr σ) : zr (iNm b n σ) := h
theorem zr_X4 {a : Nat} (h : zr σ) : zr (iX4 a σ) := zr_iA (zr_iA (zr_iA (zr_iA h)))
theorem zr_X7 {a : Nat} (h : zr σ) : zr (iX7 a σ) := zr_iA (zr_iA h)
theorem zr_X2 {a : Nat} (h : zr σ) : zr (iX2 a σ) := zr_iA (zr_iA h)
theorem zr_X1 {a : Nat} (h : zr σ) : zr (iX1 a σ) := zr_iA (zr_iA (zr_iA (zr_iA (zr_iA (zr_iA (zr_iA (zr_iA (zr_iA (zr_iA h)))))))))
theorem zr_X8 {a l s : Nat} {x : Option Nat} {y : Int32} (ha : a ≠ 2 ∧ a ≠ 18 ∧ a ≠ 40) (h : zr σ) : zr (iX8 a x l s y σ) := zr_iA (zr_iA (zr_w ha (zr_w ha (zr_wr h))))
theorem zr_X3 {a : Nat} {x : Option Nat} (h : zr σ) : zr (iX3 a x σ) := by
  intro b hb j
  unfold iX3
  rw [(iFill_r _ _ _ _).2.1]
  exact zr_wr (zr_iA (zr_iA h)) b hb j
theorem zr_X0 {a : Nat} {x : Option Nat} (ha : a ≠ 2 ∧ a ≠ 18 ∧ a ≠ 40) (h : zr σ) : zr (iX0 a x σ) := zr_nm (zr_wr (zr_iA (zr_w ha (zr_iA (zr_iA (zr_iA (zr_iA (zr_iA (zr_iA (zr_iA h)))))))))) 
theorem zr_X6 {a : Nat} {x : Int32} (ha : a ≠ 2 ∧ a ≠ 18 ∧ a ≠ 40) (hn : 40 < σ.2.2.2.2.1) (h : zr σ) : zr (iX6 a x σ) := by
  have hb : zr (iX6b a (some 31) x σ) := zr_w ha (zr_wr (zr_iA (zr_iA (zr_iA (zr_iA (zr_iA (zr_wr (zr_se (zr_X2 (zr_nw h))))))))))
  have e2 := x6b_r a (some 31) x σ
  refine zr_wr (zr_wr (zr_wr (zr_wr (zr_se (zr_X8 ?_ (zr_nw hb))))))
  rw [e2]
  show σ.2.2.2.2.1 + 3 + 5 ≠ 2 ∧ σ.2.2.2.2.1 + 3 + 5 ≠ 18 ∧ σ.2.2.2.2.1 + 3 + 5 ≠ 40
  omega
theorem iP_n (b p : Nat) (σ : cl_S) : (iP b p σ).2.2.2.2.1 = σ.2.2.2.2.1 + 12 := rfl
theorem zr_Ps {b : Nat} (hn : 40 < σ.2.2.2.2.1) (h : zr σ) : ∀ p, zr (iPs b p σ) ∧ 40 < (iPs b p σ).2.2.2.2.1 := by
  intro p
  induction p with
  | zero => exact ⟨h, hn⟩
  | succ p ih =>
    refine ⟨zr_wr (zr_se (zr_X6 (by omega) (by rw [nw_n]; omega) (zr_nw ih.1))), ?_⟩
    show 40 < (iP b p (iPs b p σ)).2.2.2.2.1
    rw [iP_n]; omega
theorem iX5c_n (a : Nat) (x : Option Nat) (y : Int32) (σ : cl_S) : (iX5c a x y σ).2.2.2.2.1 = σ.2.2.2.2.1 + 35 := rfl
theorem zr_X5 {a : Nat} {x : Option Nat} {y : Int32} (ha : a ≠ 2 ∧ a ≠ 18 ∧ a ≠ 40) (hn : 40 < σ.2.2.2.2.1) (h : zr σ) : zr (iX5 a x y σ) := by
  have hb : zr (iX5b a σ) := zr_iA (zr_wr (zr_se (zr_X1 (zr_nw h))))
  have hc : zr (iX5c a x y σ) := zr_w ha (zr_wr (zr_wr (zr_iA (zr_iA (zr_iA (zr_iA (zr_iA (zr_iA (zr_wr (zr_nwm hb))))))))))
  exact (zr_Ps (by rw [iX5c_n]; omega) hc 8).1
theorem zr_ad {m x y z a : Nat} {k n : Int32} (ha : a ≠ 2 ∧ a ≠ 18 ∧ a ≠ 40) (h : zr σ) : zr (iAdd m k n x y z a σ) := by
  have ht : zr (iTau m k n x y z a σ) := zr_wr (zr_wr (zr_wr (zr_wr (zr_wr (zr_wr (zr_se (zr_wr (zr_w ha (zr_w ha (zr_w ha (zr_w ha (zr_nw (zr_w (by omega) h)))))))))))))
  refine zr_w (by omega) ?_
  unfold iNote
  split
  · split
    · exact ht
    · exact ht
  · split
    · exact ht
    · exact ht
theorem zr_13 : zr s13 := by
  have h0 : zr s0 := zr_nw (fun _ _ _ => rfl)
  have h1 : zr s1 := zr_wr (zr_se (zr_X4 (zr_nw h0)))
  have h2 : zr s2 := zr_wr (zr_se (zr_X0 (by omega) (zr_nw h1)))
  have h3 : zr s3 := zr_wr (zr_se (zr_X7 (zr_nw h2)))
  have h6 : zr s6 := zr_iA (zr_wr (zr_nwm (zr_iA h3)))
  have k1 : zr t1 := zr_iA (zr_se (zr_nw h6))
  have k2 : zr t2 := zr_se (zr_wr (zr_w (by omega) (zr_w (by omega) (zr_w (by omega) (zr_w (by omega) (zr_nw k1))))))
  have k4 : zr t4 := k2
  have k5 : zr t5 := zr_ad (by omega) k4
  have k7 : zr t7 := zr_wr (zr_w (by omega) k5)
  have k8 : zr t8 := zr_ad (by omega) k7
  have k10 : zr t10 := zr_wr (zr_ad (by omega) k8)
  have k12 : zr t12 := zr_wr (zr_ad (by omega) k10)
  have h7 : zr s7 := zr_wr (zr_w (by omega) (zr_w (by omega) k12))
  have h8 : zr s8 := zr_wr (zr_se (zr_X8 (by omega) (zr_nw h7)))
  have h9 : zr s9 := zr_wr (zr_se (zr_X3 (zr_nw h8)))
  have h10 : zr s10 := zr_wr (zr_se (zr_X3 (zr_nw h9)))
  have h11 : zr s11 := zr_wr (zr_se (zr_X5 (by omega) (by rw [nw_n, n10]; omega) (zr_nw h10)))
  have h12a : zr s12a := zr_se (zr_X3 (zr_nw (zr_nw h11)))
  have h12 : zr s12 := zr_wr (zr_se (zr_X5 (by omega) (by rw [show s12a.2.2.2.2.1 = 183 by decide +kernel]; omega) h12a))
  exact zr_wr (zr_se (zr_X1 (zr_nw h12)))
end Z2_FB
