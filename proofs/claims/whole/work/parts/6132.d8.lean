section Z2_D8
variable {K : Bd} {W W' : Wd} {b : Bool} {k s p q : Nat} {σ σ' : cl_S} {ρ ρ' : rf_S} {N : Nat}
/-- the reference, about to run a boot again -/
def QBg (W : Wd) (fl : Nat → Bool) (len st : Nat → Nat) (ρ ρ' : rf_S) : Prop := (∀ c j, c ≠ 0 → ¬ S1 c j → ρ'.1 c j = ρ.1 c j) ∧ (∀ j, j ≠ 79 → ρ'.1 0 j = ρ.1 0 j) ∧ (ρ'.1 0 79 = 1) ∧ (ρ'.2 = ρ.2) ∧ (∀ c, 47 < c → c < 52 → ρ'.1 c 1 = 0) ∧ (∀ p r, p < 8 → r < 16 → ρ'.1 53 (16 * (8 + p) + r) = 0) ∧ (∀ c p, cnr c → c ≠ 55 → p < 8 → ρ'.1 c (8 + p) = 0) ∧ (∀ q, q < 8 → ρ'.1 55 (8 + q) = if q < W.np ∧ fl q = false then 1 else 0) ∧ (∀ p i, p < W.np → i < W.sz p → ρ'.1 52 (8192 + W.bs p + i) = if i < len p then ρ.1 12 (st p + i) else 0) ∧ (∀ c i, c < 16 → i < 16 → ρ'.1 71 (16 * (16 + c) + i) = 0) ∧ (∀ c, c < 16 → ρ'.1 72 (16 + c) = 0 ∧ ρ'.1 73 (16 + c) = -1) ∧ (∀ j, j < 64 → Emp W fl W.np j → ρ'.1 74 (64 + j) = 0 ∧ ρ'.1 75 (64 + j) = -1) ∧ (∀ j, j < 64 → ¬ Emp W fl W.np j → ρ'.1 74 (64 + j) = ρ.1 40 j ∧ ρ'.1 75 (64 + j) = ρ.1 41 j)
theorem QBg.o {W : Wd} {fl : Nat → Bool} {len st : Nat → Nat} {ρ ρ' : rf_S} (hS : QBg W fl len st ρ ρ') : ∀ c j, c ≠ 0 → ¬ S1 c j → ρ'.1 c j = ρ.1 c j := hS.1
theorem QBg.f {W : Wd} {fl : Nat → Bool} {len st : Nat → Nat} {ρ ρ' : rf_S} (hS : QBg W fl len st ρ ρ') : ∀ j, j ≠ 79 → ρ'.1 0 j = ρ.1 0 j := hS.2.1
theorem QBg.sd {W : Wd} {fl : Nat → Bool} {len st : Nat → Nat} {ρ ρ' : rf_S} (hS : QBg W fl len st ρ ρ') : ρ'.1 0 79 = 1 := hS.2.2.1
theorem QBg.l {W : Wd} {fl : Nat → Bool} {len st : Nat → Nat} {ρ ρ' : rf_S} (hS : QBg W fl len st ρ ρ') : ρ'.2 = ρ.2 := hS.2.2.2.1
theorem QBg.t {W : Wd} {fl : Nat → Bool} {len st : Nat → Nat} {ρ ρ' : rf_S} (hS : QBg W fl len st ρ ρ') : ∀ c, 47 < c → c < 52 → ρ'.1 c 1 = 0 := hS.2.2.2.2.1
theorem QBg.rg {W : Wd} {fl : Nat → Bool} {len st : Nat → Nat} {ρ ρ' : rf_S} (hS : QBg W fl len st ρ ρ') : ∀ p r, p < 8 → r < 16 → ρ'.1 53 (16 * (8 + p) + r) = 0 := hS.2.2.2.2.2.1
theorem QBg.n {W : Wd} {fl : Nat → Bool} {len st : Nat → Nat} {ρ ρ' : rf_S} (hS : QBg W fl len st ρ ρ') : ∀ c p, cnr c → c ≠ 55 → p < 8 → ρ'.1 c (8 + p) = 0 := hS.2.2.2.2.2.2.1
theorem QBg.h {W : Wd} {fl : Nat → Bool} {len st : Nat → Nat} {ρ ρ' : rf_S} (hS : QBg W fl len st ρ ρ') : ∀ q, q < 8 → ρ'.1 55 (8 + q) = if q < W.np ∧ fl q = false then 1 else 0 := hS.2.2.2.2.2.2.2.1
theorem QBg.me {W : Wd} {fl : Nat → Bool} {len st : Nat → Nat} {ρ ρ' : rf_S} (hS : QBg W fl len st ρ ρ') : ∀ p i, p < W.np → i < W.sz p → ρ'.1 52 (8192 + W.bs p + i) = if i < len p then ρ.1 12 (st p + i) else 0 := hS.2.2.2.2.2.2.2.2.1
theorem QBg.sn {W : Wd} {fl : Nat → Bool} {len st : Nat → Nat} {ρ ρ' : rf_S} (hS : QBg W fl len st ρ ρ') : ∀ c i, c < 16 → i < 16 → ρ'.1 71 (16 * (16 + c) + i) = 0 := hS.2.2.2.2.2.2.2.2.2.1
theorem QBg.ch {W : Wd} {fl : Nat → Bool} {len st : Nat → Nat} {ρ ρ' : rf_S} (hS : QBg W fl len st ρ ρ') : ∀ c, c < 16 → ρ'.1 72 (16 + c) = 0 ∧ ρ'.1 73 (16 + c) = -1 := hS.2.2.2.2.2.2.2.2.2.2.1
theorem QBg.d1 {W : Wd} {fl : Nat → Bool} {len st : Nat → Nat} {ρ ρ' : rf_S} (hS : QBg W fl len st ρ ρ') : ∀ j, j < 64 → Emp W fl W.np j → ρ'.1 74 (64 + j) = 0 ∧ ρ'.1 75 (64 + j) = -1 := hS.2.2.2.2.2.2.2.2.2.2.2.1
theorem QBg.d0 {W : Wd} {fl : Nat → Bool} {len st : Nat → Nat} {ρ ρ' : rf_S} (hS : QBg W fl len st ρ ρ') : ∀ j, j < 64 → ¬ Emp W fl W.np j → ρ'.1 74 (64 + j) = ρ.1 40 j ∧ ρ'.1 75 (64 + j) = ρ.1 41 j := hS.2.2.2.2.2.2.2.2.2.2.2.2
theorem bgq_S1 {c j : Nat} (h : bgq 1 c j) : S1 c j := by
  unfold bgq at h
  rcases h with ⟨a, b, d⟩ | ⟨a, b, -⟩ | ⟨a, b, -⟩ | ⟨a, b, -⟩ | ⟨a, b, -⟩ | ⟨a, b, -⟩
  · exact Or.inl ⟨a, b, d⟩
  · exact Or.inr (Or.inl ⟨a, by omega⟩)
  · exact Or.inr (Or.inr (Or.inl ⟨a, by omega⟩))
  · refine Or.inr (Or.inr (Or.inr (Or.inl ?_)))
    rcases a with rfl | rfl | rfl | rfl | rfl | rfl | rfl | rfl | rfl | rfl | rfl | rfl <;> exact ⟨by decide, by decide, by decide, by decide, by decide, by decide, by decide, by omega⟩
  · exact Or.inr (Or.inr (Or.inr (Or.inr (Or.inr (Or.inr (Or.inr (Or.inl ⟨a, by omega⟩)))))))
  · exact Or.inr (Or.inr (Or.inr (Or.inr (Or.inr (Or.inr (Or.inr (Or.inr (Or.inl ⟨a, by omega⟩))))))))
theorem S1_55 {c j : Nat} (h : c = 55 ∧ 8 ≤ j ∧ j < 16) : S1 c j := by
  refine Or.inr (Or.inr (Or.inr (Or.inl ?_)))
  obtain ⟨rfl, a, b⟩ := h
  exact ⟨by decide, by decide, by decide, by decide, by decide, by decide, by decide, a⟩
theorem S1_74 {c j : Nat} (h : (c = 74 ∨ c = 75) ∧ 64 ≤ j ∧ j < 128) : S1 c j := Or.inr (Or.inr (Or.inr (Or.inr (Or.inr (Or.inr (Or.inr (Or.inr (Or.inr ⟨h.1, h.2.1⟩))))))))
theorem q_again {len st tq : Nat → Nat} (hn0 : 0 < W.np) (C : CfgR W σ ρ) (hp : p < 8) (hb : ∀ p, p < W.np → len p ≤ W.sz p) (ht : ∀ p, p < W.np → tq p < 112000 ∧ ρ.1 38 p = nI (tq p) ∧ ρ.1 3 (tq p) = nI (len p) ∧ ρ.1 2 (tq p) = nI (st p) ∧ st p + len p ≤ 690000) : ∃ ρ', fq_prepare (nI p) (rf_w ρ 0 79 (1:Int32)) = some ρ' ∧ QBg W (flR W p 8) len st ρ ρ' := by
  have np8 := C.np.1
  have a0 : ∀ c, c ≠ 0 → (rf_w ρ 0 79 (1:Int32)).1 c = ρ.1 c := fun c hc => q_w hc
  have af : ∀ j, j ≠ 79 → (rf_w ρ 0 79 (1:Int32)).1 0 j = ρ.1 0 j := fun j hj => q_wk hj
  have as : (rf_w ρ 0 79 (1:Int32)).1 0 79 = nI 1 := q_ws
  have al : (rf_w ρ 0 79 (1:Int32)).2 = ρ.2 := rfl
  generalize rf_w ρ 0 79 (1:Int32) = ρa at a0 af as al
  obtain ⟨ρb, e1, B⟩ := q_begin (ρ := ρa) (s := 1) (np := W.np) (bs := W.bs) (sz := W.sz) (len := len) (st := st) (tq := tq) (by omega) as np8 (by rw [af 55 (by decide)]; exact C.np.2.2) (fun p hp => ⟨hb p hp, (C.pa p hp).1.2.2.1, by rw [a0 28 (by decide)]; exact (C.pa p hp).2.2.2.1⟩) C.dj (fun p hp => by rw [a0 38 (by decide), a0 3 (by decide), a0 2 (by decide)]; exact ht p hp)
  have bo : ∀ c j, (c < 48 ∨ 73 < c) → ρb.1 c j = ρa.1 c j := fun c j hc => B.o c j (fun w => by unfold bgq cnr at w; omega)
  obtain ⟨ρ1, ρ4, e2, P, o1, l1, d1⟩ := q_prep (W := W) (ρ := ρb) (p := p) (fl := flR W p 8) np8 hp (by rw [bo 0 55 (by omega), af 55 (by decide)]; exact C.np.2.2) (fun q hq => by rw [bo 37 _ (by omega), a0 37 (by decide)]; exact C.fl q p hq hp hn0) (fun q hq => by
    rw [bo 31 _ (by omega), bo 30 _ (by omega), a0 31 (by decide), a0 30 (by decide)]
    obtain ⟨c1, c2, c3, c4, c5, c6, c7, c8⟩ := C.pa q hq
    exact ⟨c8, c6, c1.2.2.2.2⟩)
  have o4 : ∀ c j, ¬ (c = 55 ∧ 8 ≤ j ∧ j < 16) → ¬ ((c = 74 ∨ c = 75) ∧ 64 ≤ j ∧ j < 128) → ρ4.1 c j = ρb.1 c j := fun c j h1 h2 => by rw [P.o c j h1 h2, o1 c j h2]
  refine ⟨ρ4, ?_, fun c j hc hS => ?_, fun j hj => ?_, ?_, by rw [P.l, l1, B.l, al], fun c h1 h2 => ?_, fun p r hp hr => ?_, fun c p hc h55 hp => ?_, fun q hq => ?_, fun p i hp hi => ?_, fun c i hc hi => ?_, fun c hc => ?_, fun j hj hE => P.d1 j hj hE, fun j hj hE => ?_⟩
  · unfold fq_prepare bq_prepare_0
    rw [e1, bd1n]; exact e2
  · rw [o4 c j (fun w => hS (S1_55 w)) (fun w => hS (S1_74 w)), B.o c j (fun w => hS (bgq_S1 w)), a0 c hc]
  · rw [o4 0 j (by omega) (by omega), bo 0 j (by omega), af j hj]
  · rw [o4 0 79 (by omega) (by omega), bo 0 79 (by omega)]; exact as
  · rw [o4 c 1 (by omega) (by omega)]; exact B.t c h1 h2
  · rw [o4 53 _ (by omega) (by omega)]; exact B.rg p r hp hr
  · rw [o4 c _ (by omega) (by unfold cnr at hc; omega)]; exact B.n c p hc hp
  · rw [P.h q hq, o1 55 _ (by omega)]
    rw [show ρb.1 55 (8 + q) = 0 from B.n 55 q (by unfold cnr; omega) hq]
  · rw [o4 52 _ (by omega) (by omega)]
    have := B.me p i hp hi
    rw [show 8192 * 1 + W.bs p + i = 8192 + W.bs p + i by omega, a0 12 (by decide)] at this
    exact this
  · rw [o4 71 _ (by omega) (by omega)]; exact B.sn c i hc hi
  · rw [o4 72 _ (by omega) (by omega), o4 73 _ (by omega) (by omega)]; exact B.ch c hc
  · obtain ⟨a1, a2⟩ := P.d0 j hj hE
    rw [a1, a2, (d1 j hj).1, (d1 j hj).2, bo 40 j (by omega), bo 41 j (by omega), a0 40 (by decide), a0 41 (by decide)]
    exact ⟨rfl, rfl⟩
/-- what is frozen -/
def frz (W : Wd) (ρ : rf_S) (i : Nat) : Nat := if i < 998 then W.ln i else if i = 998 then (ρ.1 0 78).toUInt32.toNat else if i = 999 then (ρ.1 0 110).toUInt32.toNat else (ρ.1 ((i - 1000) / 100000) ((i - 1000) % 100000)).toUInt32.toNat
theorem frz_n (x : Int32) : x = nI x.toUInt32.toNat := by
  have := u_nI x.toUInt32
  rw [← this]; rfl
theorem frz_ok {n1 : Nat} : Fz (W.pg (frz W ρ) n1) ρ := by
  refine ⟨fun c j h1 h2 h3 h4 => ?_, ?_, ?_⟩
  · show _ = nI (frz W ρ (1000 + (100000 * c + j)))
    unfold frz
    rw [if_neg (by omega), if_neg (by omega), if_neg (by omega), show (1000 + (100000 * c + j) - 1000) / 100000 = c by omega, show (1000 + (100000 * c + j) - 1000) % 100000 = j by omega]
    exact frz_n _
  · show _ = nI (frz W ρ 999)
    unfold frz
    rw [if_neg (by omega), if_neg (by omega), if_pos rfl]
    exact frz_n _
  · show _ = nI (frz W ρ 998)
    unfold frz
    rw [if_neg (by omega), if_pos rfl]
    exact frz_n _
end Z2_D8
