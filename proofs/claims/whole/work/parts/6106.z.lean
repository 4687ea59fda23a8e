section Z2_Z
/-! LAYER 2: ASSEMBLE. The tokens of a text x of n octets. -/
variable {σ σ' σ0 : cl_S} {ρ ρ' ρ0 : rf_S} {x : Nat → Nat} {n : Nat}
theorem w_w {a k : Nat} {v w : Int32} : cl_w (cl_w σ a k v) a k w = cl_w σ a k w := by
  refine Prod.ext (funext fun b => funext fun j => ?_) rfl
  rw [g_w, g_w, g_w]
  by_cases c : b = a ∧ j = k
  · rw [if_pos c, if_pos c]
  · rw [if_neg c, if_neg c, if_neg c]
theorem w_q {a k : Nat} {v w : Int32} : rf_w (rf_w ρ a k v) a k w = rf_w ρ a k w := by
  refine Prod.ext (funext fun b => funext fun j => ?_) rfl
  rw [g_q, g_q, g_q]
  by_cases c : b = a ∧ j = k
  · rw [if_pos c, if_pos c]
  · rw [if_neg c, if_neg c, if_neg c]
def blk (c : Nat) : Bool := c == 32 || c == 9 || c == 13
def ltr (c : Nat) : Bool := decide (97 ≤ c) && decide (c ≤ 122)
def fg (c : Nat) : Bool := decide (48 ≤ c) && decide (c ≤ 57)
def hx (c : Nat) : Bool := fg c || (decide (97 ≤ c) && decide (c ≤ 102))
/-- passing over blanks and remarks -/
def pv (x : Nat → Nat) (n : Nat) : Nat → Bool → Nat → Nat
  | 0, _, p => p
  | m + 1, r, p => if n ≤ p then p else if x p = 10 then p else if r || x p == 59 then pv x n m true (p + 1) else if blk (x p) then pv x n m false (p + 1) else p
theorem pv_ge : ∀ m r p, p ≤ pv x n m r p := by
  intro m
  induction m with
  | zero => intro r p; exact Nat.le_refl _
  | succ m ih =>
    intro r p
    unfold pv
    split
    · exact Nat.le_refl _
    split
    · exact Nat.le_refl _
    split
    · have := ih true (p + 1); omega
    split
    · have := ih false (p + 1); omega
    · exact Nat.le_refl _
theorem pv_le : ∀ m r p, p ≤ n → pv x n m r p ≤ n := by
  intro m
  induction m with
  | zero => intro r p h; exact h
  | succ m ih =>
    intro r p h
    unfold pv
    split
    · exact h
    split
    · exact h
    split
    · exact ih true (p + 1) (by omega)
    split
    · exact ih false (p + 1) (by omega)
    · exact h
/-- the text on both sides -/
def TxC (σ : cl_S) (x : Nat → Nat) (n : Nat) : Prop := (σ.1 1 1 = nI n) ∧ (n ≤ 6000) ∧ (∀ j, σ.1 2 j = nI (x j)) ∧ (∀ j, x j < 256)
theorem TxC.ln {σ : cl_S} {x : Nat → Nat} {n : Nat} (hS : TxC σ x n) : σ.1 1 1 = nI n := hS.1
theorem TxC.le {σ : cl_S} {x : Nat → Nat} {n : Nat} (hS : TxC σ x n) : n ≤ 6000 := hS.2.1
theorem TxC.ox {σ : cl_S} {x : Nat → Nat} {n : Nat} (hS : TxC σ x n) : ∀ j, σ.1 2 j = nI (x j) := hS.2.2.1
theorem TxC.b {σ : cl_S} {x : Nat → Nat} {n : Nat} (hS : TxC σ x n) : ∀ j, x j < 256 := hS.2.2.2
def TxQ (ρ : rf_S) (x : Nat → Nat) (n : Nat) : Prop := (ρ.1 0 26 = nI n) ∧ (n ≤ 6000) ∧ (∀ j, ρ.1 16 j &&& 255 = nI (x j)) ∧ (∀ j, x j < 256)
theorem TxQ.ln {ρ : rf_S} {x : Nat → Nat} {n : Nat} (hS : TxQ ρ x n) : ρ.1 0 26 = nI n := hS.1
theorem TxQ.le {ρ : rf_S} {x : Nat → Nat} {n : Nat} (hS : TxQ ρ x n) : n ≤ 6000 := hS.2.1
theorem TxQ.ox {ρ : rf_S} {x : Nat → Nat} {n : Nat} (hS : TxQ ρ x n) : ∀ j, ρ.1 16 j &&& 255 = nI (x j) := hS.2.2.1
theorem TxQ.b {ρ : rf_S} {x : Nat → Nat} {n : Nat} (hS : TxQ ρ x n) : ∀ j, x j < 256 := hS.2.2.2
theorem TxC.mv {p : Nat} (T : TxC σ x n) : TxC (cl_w σ 1 2 (nI p)) x n := ⟨by rw [r_wk (by decide)]; exact T.ln, T.le, fun j => by rw [r_w (by decide)]; exact T.ox j, T.b⟩
theorem TxQ.mv {p : Nat} (T : TxQ ρ x n) : TxQ (rf_w ρ 0 48 (nI p)) x n := ⟨by rw [q_wk (by decide)]; exact T.ln, T.le, fun j => by rw [q_w (by decide)]; exact T.ox j, T.b⟩
theorem oc_eq {a b : Nat} (ha : a < 256) (hb : b < 256) : nI a = nI b ↔ a = b := n_eq (by omega) (by omega)
theorem oc_lt {a b : Nat} (ha : a < 256) (hb : b < 256) : nI a < nI b ↔ a < b := n_lt (by omega) (by omega)
def oc (x : Nat → Nat) (n p : Nat) : Int32 := if p < n then nI (x p) else -1
theorem TxQ.oct {p : Nat} (T : TxQ ρ x n) (hp : p ≤ 6010) : fq_octet (nI p) ρ = some (oc x n p, ρ) := by
  have := T.le
  unfold fq_octet bq_octet_0 oc
  rw [T.ln]
  by_cases c : p < n
  · rw [if_neg (fun q => by have := (n_le (by omega) (by omega)).mp q; omega), n_ix (show p < 6000 by omega) (by omega), n_cl (by omega), T.ox, if_pos c]
  · rw [if_pos ((n_le (by omega) (by omega)).mpr (by omega)), if_neg c]
def bI (b : Bool) : Int32 := if b then 1 else 0
/-- the class passes over -/
theorem lx_pass (T : TxC σ x n) : ∀ m r p, n - p = m → p ≤ n → ∃ y, lp (fun z : (Int32 × cl_S) => lc_X4_passOver_2 1 z.1 z.2) (bI r, cl_w σ 1 2 (nI p)) = some y ∧ Sum.elim (fun z => some z) (fun z : Int32 × cl_S => ec_X4_passOver_2 1 z.1 z.2) y = some (cl_w σ 1 2 (nI (pv x n m r p))) := by
  have hn := T.le
  intro m
  induction m with
  | zero =>
    intro r p hm hp
    have e : p = n := by omega
    refine ⟨.inr (bI r, cl_w σ 1 2 (nI p)), lp_end (s := (bI r, cl_w σ 1 2 (nI p))) ?_, rfl⟩
    show lc_X4_passOver_2 1 (bI r) (cl_w σ 1 2 (nI p)) = _
    unfold lc_X4_passOver_2
    rw [T.mv.ln, r_ws, e, if_pos (Int32.le_refl _)]
  | succ m ih =>
    intro r p hm hp
    have lt : p < n := by omega
    have start : ∀ {w}, (if nI (x p) = (59:Int32) then bc_X4_passOver_31i2 1 (1:Int32) (nI (x p)) (cl_w σ 1 2 (nI p)) else bc_X4_passOver_31i2 1 (bI r) (nI (x p)) (cl_w σ 1 2 (nI p))) = w → lc_X4_passOver_2 1 (bI r) (cl_w σ 1 2 (nI p)) = w := by
      intro w h
      unfold lc_X4_passOver_2
      rw [T.mv.ln, r_ws, if_neg (fun q => by have := (n_le (by omega) (by omega)).mp q; omega), n_ix (show p < 6000 by omega) (by omega), vl_eq, n_cl (show p < 2147483648 by omega), T.mv.ox]
      exact h
    have bx := T.b p
    have l10 : nI (x p) = (10:Int32) ↔ x p = 10 := oc_eq (b := 10) bx (by omega)
    have l59 : nI (x p) = (59:Int32) ↔ x p = 59 := oc_eq (b := 59) bx (by omega)
    have l32 : nI (x p) = (32:Int32) ↔ x p = 32 := oc_eq (b := 32) bx (by omega)
    have l9 : nI (x p) = (9:Int32) ↔ x p = 9 := oc_eq (b := 9) bx (by omega)
    have l13 : nI (x p) = (13:Int32) ↔ x p = 13 := oc_eq (b := 13) bx (by omega)
    have b31 : ∀ r', bc_X4_passOver_31i2 1 (bI r') (nI (x p)) (cl_w σ 1 2 (nI p)) = if x p = 10 then some (.inr (.inl (cl_w σ 1 2 (nI p)))) else if r' = true ∨ blk (x p) = true then some (.inl (bI r', cl_w σ 1 2 (nI (p + 1)))) else some (.inr (.inl (cl_w σ 1 2 (nI p)))) := by
      intro r'
      have b54 : ∀ v0, bc_X4_passOver_54i2 1 (bI r') (nI (x p)) (bI v0) (cl_w σ 1 2 (nI p)) = if x p = 10 then some (.inr (.inl (cl_w σ 1 2 (nI p)))) else if r' = true ∨ v0 = true then some (.inl (bI r', cl_w σ 1 2 (nI (p + 1)))) else some (.inr (.inl (cl_w σ 1 2 (nI p)))) := by
        intro v0
        unfold bc_X4_passOver_54i2 bc_X4_passOver_70i2
        rw [vl_eq, r_ws, w_w, show nI p + (1:Int32) = nI (p + 1) from n_add p 1]
        by_cases c : x p = 10
        · rw [if_pos (l10.mpr c), if_pos c]
        · rw [if_neg (fun q => c (l10.mp q)), if_neg c]
          cases r' <;> cases v0 <;> rfl
      unfold bc_X4_passOver_31i2 bc_X4_passOver_49i2
      have e1 := b54 true
      have e0 := b54 false
      rw [show bI true = (1:Int32) from rfl] at e1
      rw [show bI false = (0:Int32) from rfl] at e0
      rw [e1, e0]
      have hb : blk (x p) = true ↔ (x p = 32 ∨ x p = 9 ∨ x p = 13) := by unfold blk; simp [or_assoc]
      by_cases c1 : x p = 32
      · rw [if_pos (l32.mpr c1), if_neg (show ¬ x p = 10 by omega), if_neg (show ¬ x p = 10 by omega), if_pos (show r' = true ∨ true = true from Or.inr rfl), if_pos (show r' = true ∨ blk (x p) = true from Or.inr (hb.mpr (Or.inl c1)))]
      rw [if_neg (fun q => c1 (l32.mp q))]
      by_cases c2 : x p = 9
      · rw [if_pos (l9.mpr c2), if_neg (show ¬ x p = 10 by omega), if_neg (show ¬ x p = 10 by omega), if_pos (show r' = true ∨ true = true from Or.inr rfl), if_pos (show r' = true ∨ blk (x p) = true from Or.inr (hb.mpr (Or.inr (Or.inl c2))))]
      rw [if_neg (fun q => c2 (l9.mp q))]
      by_cases c3 : x p = 13
      · rw [if_pos (l13.mpr c3), if_neg (show ¬ x p = 10 by omega), if_neg (show ¬ x p = 10 by omega), if_pos (show r' = true ∨ true = true from Or.inr rfl), if_pos (show r' = true ∨ blk (x p) = true from Or.inr (hb.mpr (Or.inr (Or.inr c3))))]
      rw [if_neg (fun q => c3 (l13.mp q))]
      have nb : ¬ blk (x p) = true := fun q => by have := hb.mp q; omega
      by_cases c4 : r' = true
      · rw [if_pos (Or.inl c4 : r' = true ∨ false = true), if_pos (Or.inl c4 : r' = true ∨ blk (x p) = true)]
      · rw [if_neg (show ¬ (r' = true ∨ false = true) from fun q => q.elim c4 (fun q => by cases q)), if_neg (show ¬ (r' = true ∨ blk (x p) = true) from fun q => q.elim c4 nb)]
    have st : lc_X4_passOver_2 1 (bI r) (cl_w σ 1 2 (nI p)) = if x p = 10 then some (.inr (.inl (cl_w σ 1 2 (nI p)))) else if (r || x p == 59) = true ∨ blk (x p) = true then some (.inl (bI (r || x p == 59), cl_w σ 1 2 (nI (p + 1)))) else some (.inr (.inl (cl_w σ 1 2 (nI p)))) := by
      apply start
      by_cases c : x p = 59
      · rw [if_pos (l59.mpr c)]
        have : (r || x p == 59) = true := by simp [c]
        rw [this]
        exact b31 true
      · rw [if_neg (fun q => c (l59.mp q))]
        have : (r || x p == 59) = r := by simp [c]
        rw [this]
        exact b31 r
    unfold pv
    rw [if_neg (show ¬ n ≤ p by omega)]
    by_cases c10 : x p = 10
    · rw [if_pos c10] at st ⊢
      exact ⟨_, lp_end (s := (bI r, cl_w σ 1 2 (nI p))) st, rfl⟩
    rw [if_neg c10] at st ⊢
    by_cases cr : (r || x p == 59) = true
    · rw [if_pos (Or.inl cr), cr] at st
      rw [if_pos cr]
      obtain ⟨y, e, f⟩ := ih true (p + 1) (by omega) (by omega)
      exact ⟨y, by rw [lp_next (s := (bI r, cl_w σ 1 2 (nI p))) st]; exact e, f⟩
    · have cf : (r || x p == 59) = false := by revert cr; cases (r || x p == 59) <;> simp
      rw [if_neg cr]
      by_cases cb : blk (x p) = true
      · rw [if_pos (Or.inr cb), cf] at st
        rw [if_pos cb]
        obtain ⟨y, e, f⟩ := ih false (p + 1) (by omega) (by omega)
        exact ⟨y, by rw [lp_next (s := (bI r, cl_w σ 1 2 (nI p))) st]; exact e, f⟩
      · rw [if_neg (fun q => q.elim cr cb)] at st
        rw [if_neg cb]
        exact ⟨_, lp_end (s := (bI r, cl_w σ 1 2 (nI p))) st, rfl⟩
theorem c_passOver {p : Nat} (T : TxC σ x n) (hp : p ≤ n) : fc_X4_passOver 1 (cl_w σ 1 2 (nI p)) = some (cl_w σ 1 2 (nI (pv x n (n - p) false p))) := by
  obtain ⟨y, e, f⟩ := lx_pass T (n - p) false p rfl hp
  unfold fc_X4_passOver bc_X4_passOver_0 bc_X4_passOver_2
  rw [show ((0:Int32), cl_w σ 1 2 (nI p)) = (bI false, cl_w σ 1 2 (nI p)) from rfl, e, Option.bind_some]
  exact f
end Z2_Z
