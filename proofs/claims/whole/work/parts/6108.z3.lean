section Z2_Z3
variable {σ σ' σ0 : cl_S} {ρ ρ' ρ0 : rf_S} {x : Nat → Nat} {n : Nat}
theorem wl_w {a k b j : Nat} {v : Int64} {w : Int32} : rf_wl (rf_w ρ b j w) a k v = rf_w (rf_wl ρ a k v) b j w := rfl
theorem wl_wl {a k : Nat} {v w : Int64} : rf_wl (rf_wl ρ a k v) a k w = rf_wl ρ a k w := by
  refine Prod.ext rfl (funext fun b => funext fun j => ?_)
  rw [g_ql, g_ql, g_ql]
  by_cases c : b = a ∧ j = k
  · rw [if_pos c, if_pos c]
  · rw [if_neg c, if_neg c, if_neg c]
theorem TxQ.wl {a k : Nat} {v : Int64} (T : TxQ ρ x n) : TxQ (rf_wl ρ a k v) x n := ⟨T.ln, T.le, T.ox, T.b⟩
theorem nI_64 {c : Nat} (h : c < 2147483648) : (nI c).toInt64 = Int64.ofNat c := by
  rw [← Int64.toInt_inj, Int32.toInt_toInt64, n_toInt h, L_toInt (by omega)]
/-! letters and figures -/
theorem ltr_iff {c : Nat} : ltr c = true ↔ (97 ≤ c ∧ c ≤ 122) := by unfold ltr; simp
theorem fg_iff {c : Nat} : fg c = true ↔ (48 ≤ c ∧ c ≤ 57) := by unfold fg; simp
theorem hx_iff {c : Nat} : hx c = true ↔ ((48 ≤ c ∧ c ≤ 57) ∨ (97 ≤ c ∧ c ≤ 102)) := by unfold hx; simp [fg_iff]
theorem i_lt {c a : Nat} (h : c < 256) (ha : a < 256) : (nI c < nI a) ↔ c < a := n_lt (by omega) (by omega)
theorem c_ltr {c : Nat} (h : c < 256) (σ : cl_S) : fc_X4_isLetter (nI c) σ = some (bI (ltr c), σ) := by
  unfold fc_X4_isLetter bc_X4_isLetter_0
  by_cases c1 : c < 97
  · rw [if_pos (show nI c < (97:Int32) from (i_lt (a := 97) h (by omega)).mpr c1), show ltr c = false by cases e : ltr c; rfl; have := ltr_iff.mp e; omega]; rfl
  rw [if_neg (show ¬ nI c < (97:Int32) from fun q => c1 ((i_lt (a := 97) h (by omega)).mp q))]
  by_cases c2 : 122 < c
  · rw [if_pos (show (122:Int32) < nI c from (i_lt (c := 122) (by omega) h).mpr c2), show ltr c = false by cases e : ltr c; rfl; have := ltr_iff.mp e; omega]; rfl
  rw [if_neg (show ¬ (122:Int32) < nI c from fun q => c2 ((i_lt (c := 122) (by omega) h).mp q)), ltr_iff.mpr (by omega)]; rfl
/-- what a figure is worth -/
def fv (c : Nat) : Int32 := if fg c then nI c - 48 else nI c - 97 + 10
def dgt (h : Bool) (c : Nat) : Bool := if h then hx c else fg c
def bs (h : Bool) : Int32 := if h then 16 else 10
theorem fv_nn {h : Bool} {c : Nat} (hd : dgt h c = true) : ¬ fv c < (0:Int32) ∧ ∃ m, m < 16 ∧ fv c = nI m := by
  have : ∃ m, m < 16 ∧ fv c = nI m := by
    unfold fv
    by_cases f : fg c = true
    · have q := fg_iff.mp f
      rw [if_pos f]
      exact ⟨c - 48, by omega, by rw [show (48:Int32) = nI 48 from rfl, n_sub (by omega)]⟩
    · rw [if_neg f]
      have hh : hx c = true := by
        cases h
        · exact absurd hd f
        · exact hd
      have q := hx_iff.mp hh
      have q' : ¬ (48 ≤ c ∧ c ≤ 57) := fun w => f (fg_iff.mpr w)
      exact ⟨c - 97 + 10, by omega, by rw [show (97:Int32) = nI 97 from rfl, n_sub (by omega), show (10:Int32) = nI 10 from rfl, n_add]⟩
  obtain ⟨m, hm, e⟩ := this
  exact ⟨by rw [e]; exact n_nneg (by omega), m, hm, e⟩
theorem c_fig {c : Nat} (h : c < 256) (hb : Bool) (σ : cl_S) : fc_X4_figure (nI c) (bs hb) σ = some (if dgt hb c then fv c else -1, σ) := by
  unfold fc_X4_figure bc_X4_figure_0 bc_X4_figure_17
  have f0 : ∀ {c : Nat}, ¬ (48 ≤ c ∧ c ≤ 57) → fg c = false := fun q => by cases e : fg _; rfl; exact absurd (fg_iff.mp e) q
  have rest : ¬ (48 ≤ c ∧ c ≤ 57) → (if bs hb = (16:Int32) then (if nI c < (97:Int32) then some ((-1:Int32), σ) else (if (102:Int32) < nI c then some ((-1:Int32), σ) else some (((nI c - (97:Int32)) + (10:Int32)), σ))) else some ((-1:Int32), σ)) = some (if dgt hb c then fv c else -1, σ) := by
    intro q
    cases hb with
    | false =>
      rw [if_neg (show ¬ bs false = (16:Int32) by decide)]
      rw [show dgt false c = false from f0 q]; rfl
    | true =>
      rw [if_pos (show bs true = (16:Int32) from rfl)]
      unfold dgt
      rw [if_pos rfl]
      by_cases c1 : c < 97
      · rw [if_pos (show nI c < (97:Int32) from (i_lt (a := 97) h (by omega)).mpr c1), if_neg (fun w => by have := hx_iff.mp w; omega)]
      rw [if_neg (show ¬ nI c < (97:Int32) from fun q => c1 ((i_lt (a := 97) h (by omega)).mp q))]
      by_cases c2 : 102 < c
      · rw [if_pos (show (102:Int32) < nI c from (i_lt (c := 102) (by omega) h).mpr c2), if_neg (fun w => by have := hx_iff.mp w; omega)]
      rw [if_neg (show ¬ (102:Int32) < nI c from fun q => c2 ((i_lt (c := 102) (by omega) h).mp q)), if_pos (hx_iff.mpr (by omega))]
      unfold fv
      rw [f0 q]; rfl
  by_cases c1 : c < 48
  · rw [if_pos (show nI c < (48:Int32) from (i_lt (a := 48) h (by omega)).mpr c1)]; exact rest (by omega)
  rw [if_neg (show ¬ nI c < (48:Int32) from fun q => c1 ((i_lt (a := 48) h (by omega)).mp q))]
  by_cases c2 : 57 < c
  · rw [if_pos (show (57:Int32) < nI c from (i_lt (c := 57) (by omega) h).mpr c2)]; exact rest (by omega)
  rw [if_neg (show ¬ (57:Int32) < nI c from fun q => c2 ((i_lt (c := 57) (by omega) h).mp q))]
  have f1 : fg c = true := fg_iff.mpr (by omega)
  have d1 : dgt hb c = true := by unfold dgt; cases hb; exact f1; exact hx_iff.mpr (by omega)
  rw [if_pos d1]
  unfold fv
  rw [if_pos f1]
theorem oc_in {p : Nat} (h : p < n) : oc x n p = nI (x p) := if_pos h
theorem oc_out {p : Nat} (h : ¬ p < n) : oc x n p = -1 := if_neg h
theorem q_ltr' {c : Nat} (h : c < 256) (ρ : rf_S) : fq_isLetter (nI c) ρ = some (bI (ltr c), ρ) := by
  unfold fq_isLetter bq_isLetter_0
  by_cases c1 : c < 97
  · rw [if_pos (show nI c < (97:Int32) from (i_lt (a := 97) h (by omega)).mpr c1), show ltr c = false by cases e : ltr c; rfl; have := ltr_iff.mp e; omega]; rfl
  rw [if_neg (show ¬ nI c < (97:Int32) from fun q => c1 ((i_lt (a := 97) h (by omega)).mp q))]
  by_cases c2 : 122 < c
  · rw [if_pos (show (122:Int32) < nI c from (i_lt (c := 122) (by omega) h).mpr c2), show ltr c = false by cases e : ltr c; rfl; have := ltr_iff.mp e; omega]; rfl
  rw [if_neg (show ¬ (122:Int32) < nI c from fun q => c2 ((i_lt (c := 122) (by omega) h).mp q)), ltr_iff.mpr (by omega)]; rfl
theorem q_fg' {c : Nat} (h : c < 256) (ρ : rf_S) : fq_isFigure (nI c) ρ = some (bI (fg c), ρ) := by
  unfold fq_isFigure bq_isFigure_0
  by_cases c1 : c < 48
  · rw [if_pos (show nI c < (48:Int32) from (i_lt (a := 48) h (by omega)).mpr c1), show fg c = false by cases e : fg c; rfl; have := fg_iff.mp e; omega]; rfl
  rw [if_neg (show ¬ nI c < (48:Int32) from fun q => c1 ((i_lt (a := 48) h (by omega)).mp q))]
  by_cases c2 : 57 < c
  · rw [if_pos (show (57:Int32) < nI c from (i_lt (c := 57) (by omega) h).mpr c2), show fg c = false by cases e : fg c; rfl; have := fg_iff.mp e; omega]; rfl
  rw [if_neg (show ¬ (57:Int32) < nI c from fun q => c2 ((i_lt (c := 57) (by omega) h).mp q)), fg_iff.mpr (by omega)]; rfl
theorem bI_0 {b : Bool} : bI b = 0 ↔ b = false := by cases b <;> decide
theorem q_hx' {c : Nat} (h : c < 256) (ρ : rf_S) : fq_hexOf (nI c) ρ = some (if hx c then fv c else -1, ρ) := by
  unfold fq_hexOf bq_hexOf_0
  rw [q_fg' h, bd2_eq]
  by_cases f : fg c = true
  · rw [if_neg (fun q => by rw [bI_0.mp q] at f; cases f), if_pos (hx_iff.mpr (Or.inl (fg_iff.mp f)))]
    unfold fv
    rw [if_pos f]
  · have f' : fg c = false := by cases e : fg c; rfl; exact absurd e f
    have nf : ¬ (48 ≤ c ∧ c ≤ 57) := fun q => f (fg_iff.mpr q)
    rw [if_pos (bI_0.mpr f')]
    by_cases c1 : c < 97
    · rw [if_pos (show nI c < (97:Int32) from (i_lt (a := 97) h (by omega)).mpr c1), if_neg (fun w => by have := hx_iff.mp w; omega)]
    rw [if_neg (show ¬ nI c < (97:Int32) from fun q => c1 ((i_lt (a := 97) h (by omega)).mp q))]
    by_cases c2 : 102 < c
    · rw [if_pos (show (102:Int32) < nI c from (i_lt (c := 102) (by omega) h).mpr c2), if_neg (fun w => by have := hx_iff.mp w; omega)]
    rw [if_neg (show ¬ (102:Int32) < nI c from fun q => c2 ((i_lt (c := 102) (by omega) h).mp q)), if_pos (hx_iff.mpr (by omega))]
    unfold fv
    rw [f']; rfl
theorem q_m1 (ρ : rf_S) : fq_isLetter (-1:Int32) ρ = some (0, ρ) ∧ fq_isFigure (-1:Int32) ρ = some (0, ρ) ∧ fq_hexOf (-1:Int32) ρ = some (-1, ρ) := ⟨rfl, rfl, rfl⟩
/-- letters and figures in a row -/
def an (c : Nat) : Bool := ltr c || fg c
def nl (x : Nat → Nat) (n : Nat) : Nat → Nat → List Nat
  | 0, _ => []
  | m + 1, p => if an (x p) = true then x p :: nl x n m (p + 1) else []
def dl (h : Bool) (x : Nat → Nat) (n : Nat) : Nat → Nat → List Nat
  | 0, _ => []
  | m + 1, p => if dgt h (x p) = true then x p :: dl h x n m (p + 1) else []
def encF (b v : Nat) (l : List Nat) : Nat := l.foldl (fun n c => n * b + c) v
def valF (h : Bool) (v : Int64) (l : List Nat) : Int64 := l.foldl (fun w c => w * (bs h).toInt64 + (fv c).toInt64) v
theorem nl_len : ∀ m p, (nl x n m p).length ≤ m := by
  intro m
  induction m with
  | zero => intro p; exact Nat.le_refl _
  | succ m ih =>
    intro p
    unfold nl
    split
    · rw [List.length_cons]; have := ih (p + 1); omega
    · exact Nat.zero_le _
theorem dl_len {h : Bool} : ∀ m p, (dl h x n m p).length ≤ m := by
  intro m
  induction m with
  | zero => intro p; exact Nat.le_refl _
  | succ m ih =>
    intro p
    unfold dl
    split
    · rw [List.length_cons]; have := ih (p + 1); omega
    · exact Nat.zero_le _
/-- the class reads a name -/
theorem c_name {f : Int32} (T : TxC σ x n) : ∀ m p v, n - p = m → p ≤ n → lp (fun z : (Int64 × cl_S) => lc_X4_readName_7 1 f z.1 z.2) (Int64.ofNat v, cl_w σ 1 2 (nI p)) = some (Int64.ofNat (encF 256 v (nl x n m p)), cl_w σ 1 2 (nI (p + (nl x n m p).length))) := by
  have hn := T.le
  intro m
  induction m with
  | zero =>
    intro p v hm hp
    refine lp_end (s := (Int64.ofNat v, cl_w σ 1 2 (nI p))) ?_
    show lc_X4_readName_7 1 f (Int64.ofNat v) (cl_w σ 1 2 (nI p)) = _
    unfold lc_X4_readName_7
    rw [T.mv.ln, r_ws, if_pos ((n_le (by omega) (by omega)).mpr (by omega))]
    rfl
  | succ m ih =>
    intro p v hm hp
    have b := T.b p
    have go : bc_X4_readName_50i7 1 f (Int64.ofNat v) (cl_w σ 1 2 (nI p)) = some (.inl (Int64.ofNat (v * 256 + x p), cl_w σ 1 2 (nI (p + 1)))) := by
      unfold bc_X4_readName_50i7
      rw [r_ws, n_ix (show p < 6000 by omega) (by omega), vl_eq, vl_eq, n_cl (show p < 2147483648 by omega), T.mv.ox, w_w, show nI p + (1:Int32) = nI (p + 1) from n_add p 1, nI_64 (by omega)]
      rw [show ((8:Int32).toInt64 &&& 63) = Int64.ofNat 8 by decide, L_sh (by omega) v (x p) (by omega)]
    have hd : lc_X4_readName_7 1 f (Int64.ofNat v) (cl_w σ 1 2 (nI p)) = if an (x p) = true then some (.inl (Int64.ofNat (v * 256 + x p), cl_w σ 1 2 (nI (p + 1)))) else some (.inr (Int64.ofNat v, cl_w σ 1 2 (nI p))) := by
      unfold lc_X4_readName_7
      rw [T.mv.ln, r_ws, if_neg (fun q => by have := (n_le (by omega) (by omega)).mp q; omega), n_ix (show p < 6000 by omega) (by omega), n_cl (show p < 2147483648 by omega), T.mv.ox, c_ltr b, bd2_eq]
      unfold an
      by_cases l : ltr (x p) = true
      · rw [if_neg (fun q => by rw [bI_0.mp q] at l; cases l), go, if_pos (by rw [l]; rfl)]
      · have l' : ltr (x p) = false := by cases e : ltr (x p); rfl; exact absurd e l
        rw [if_pos (bI_0.mpr l'), r_ws, n_ix (show p < 6000 by omega) (by omega), n_cl (show p < 2147483648 by omega), T.mv.ox, show (10:Int32) = bs false from rfl, c_fig b, bd2_eq, go, l']
        show (if (if fg (x p) = true then fv (x p) else -1) < 0 then _ else _) = _
        by_cases g : fg (x p) = true
        · rw [if_pos g, if_neg (fv_nn (h := false) g).1, if_pos (by rw [g]; rfl)]
        · rw [if_neg g, if_pos (by decide), if_neg (fun q => g (by simpa using q))]
    unfold nl
    by_cases a : an (x p) = true
    · rw [if_pos a] at hd
      rw [lp_next (s := (Int64.ofNat v, cl_w σ 1 2 (nI p))) hd, ih (p + 1) _ (by omega) (by omega), if_pos a, List.length_cons, show p + 1 + (nl x n m (p + 1)).length = p + ((nl x n m (p + 1)).length + 1) by omega]
      rfl
    · rw [if_neg a] at hd
      rw [if_neg a, lp_end (s := (Int64.ofNat v, cl_w σ 1 2 (nI p))) hd]
      rfl
/-- the reference reads a name -/
theorem q_name (T : TxQ ρ x n) : ∀ m p j v, n - p = m → p ≤ n → j + m ≤ 6000 → lp (fun z : (Int32 × rf_S) => lq_readName_12 z.1 z.2) (nI j, rf_w (rf_wl ρ 0 46 (Int64.ofNat v)) 0 48 (nI p)) = some (nI (j + (nl x n m p).length), rf_w (rf_wl ρ 0 46 (Int64.ofNat (encF 128 v ((nl x n m p).take (8 - j))))) 0 48 (nI (p + (nl x n m p).length))) := by
  have hn := T.le
  intro m
  induction m with
  | zero =>
    intro p j v hm hp hj
    have e : ¬ p < n := by omega
    refine lp_end (s := (nI j, rf_w (rf_wl ρ 0 46 (Int64.ofNat v)) 0 48 (nI p))) ?_
    show lq_readName_12 (nI j) (rf_w (rf_wl ρ 0 46 (Int64.ofNat v)) 0 48 (nI p)) = _
    unfold lq_readName_12
    rw [q_ws, T.wl.mv.oct (by omega), bd2_eq, oc_out e, (q_m1 _).1, bd2_eq, if_pos rfl, q_ws, T.wl.mv.oct (by omega), bd2_eq, oc_out e, (q_m1 _).2.1, bd2_eq, if_pos rfl]
    show _ = some (Sum.inr (nI (j + 0), rf_w (rf_wl ρ 0 46 (Int64.ofNat (encF 128 v (([] : List Nat).take (8 - j))))) 0 48 (nI (p + 0))))
    rw [List.take_nil]
    rfl
  | succ m ih =>
    intro p j v hm hp hj
    have b := T.b p
    have hpn : p < n := by omega
    have go : bq_readName_40i12 (nI j) (rf_w (rf_wl ρ 0 46 (Int64.ofNat v)) 0 48 (nI p)) = some (.inl (nI (j + 1), rf_w (rf_wl ρ 0 46 (Int64.ofNat (if j < 8 then v * 128 + x p else v))) 0 48 (nI (p + 1)))) ∨ 128 ≤ x p := by
      by_cases h7 : x p < 128
      rotate_left
      · exact Or.inr (by omega)
      refine Or.inl ?_
      unfold bq_readName_40i12 bq_readName_67i12
      by_cases c : j < 8
      · rw [if_neg (show ¬ (8:Int32) ≤ nI j from fun q => by have := (n_le (a := 8) (b := j) (by omega) (by omega)).mp q; omega), q_ws, T.wl.mv.oct (by omega), bd2_eq, vl_eq, vl_eq, vl_eq, oc_in hpn, nI_64 (by omega), wl_w, wl_wl]
        show some (Sum.inl (nI j + 1, rf_w (rf_w (rf_wl ρ 0 46 (((rf_wl ρ 0 46 (Int64.ofNat v)).2 0 46 <<< ((7:Int32).toInt64 &&& 63)) ||| Int64.ofNat (x p))) 0 48 (nI p)) 0 48 ((rf_w (rf_wl ρ 0 46 _) 0 48 (nI p)).1 0 48 + 1))) = _
        rw [q_ls, show ((7:Int32).toInt64 &&& 63) = Int64.ofNat 7 by decide, L_sh (by omega) v (x p) (by omega), q_ws, w_q, if_pos c, show nI p + (1:Int32) = nI (p + 1) from n_add p 1, show nI j + (1:Int32) = nI (j + 1) from n_add j 1]
      · rw [if_pos (show (8:Int32) ≤ nI j from (n_le (a := 8) (b := j) (by omega) (by omega)).mpr (by omega)), vl_eq, vl_eq, q_ws, w_q, if_neg c, show nI p + (1:Int32) = nI (p + 1) from n_add p 1, show nI j + (1:Int32) = nI (j + 1) from n_add j 1]
    have hd : an (x p) = true → lq_readName_12 (nI j) (rf_w (rf_wl ρ 0 46 (Int64.ofNat v)) 0 48 (nI p)) = bq_readName_40i12 (nI j) (rf_w (rf_wl ρ 0 46 (Int64.ofNat v)) 0 48 (nI p)) := by
      intro a
      unfold lq_readName_12
      rw [q_ws, T.wl.mv.oct (by omega), bd2_eq, oc_in hpn, q_ltr' b, bd2_eq]
      by_cases l : ltr (x p) = true
      · rw [if_neg (fun q => by rw [bI_0.mp q] at l; cases l)]
      · have l' : ltr (x p) = false := by cases e : ltr (x p); rfl; exact absurd e l
        have g : fg (x p) = true := by unfold an at a; rw [l'] at a; simpa using a
        rw [if_pos (bI_0.mpr l'), q_ws, T.wl.mv.oct (by omega), bd2_eq, oc_in hpn, q_fg' b, bd2_eq, if_neg (fun q => by rw [bI_0.mp q] at g; cases g)]
    unfold nl
    by_cases a : an (x p) = true
    · have h7 : x p < 128 := by
        unfold an at a
        rcases Bool.or_eq_true _ _ ▸ a with q | q
        · have := ltr_iff.mp q; omega
        · have := fg_iff.mp q; omega
      have st := (hd a).trans (go.resolve_right (by omega))
      rw [lp_next (s := (nI j, rf_w (rf_wl ρ 0 46 (Int64.ofNat v)) 0 48 (nI p))) st, ih (p + 1) (j + 1) _ (by omega) (by omega) (by omega), if_pos a, List.length_cons, show p + 1 + (nl x n m (p + 1)).length = p + ((nl x n m (p + 1)).length + 1) by omega, show j + 1 + (nl x n m (p + 1)).length = j + ((nl x n m (p + 1)).length + 1) by omega]
      by_cases c : j < 8
      · rw [if_pos c, show 8 - j = (8 - (j + 1)) + 1 by omega, List.take_succ_cons]
        rfl
      · rw [if_neg c, show 8 - j = 0 by omega, show 8 - (j + 1) = 0 by omega, List.take_zero, List.take_zero]
    · rw [if_neg a]
      refine lp_end (s := (nI j, rf_w (rf_wl ρ 0 46 (Int64.ofNat v)) 0 48 (nI p))) ?_
      show lq_readName_12 (nI j) (rf_w (rf_wl ρ 0 46 (Int64.ofNat v)) 0 48 (nI p)) = _
      have l' : ltr (x p) = false := by cases e : ltr (x p); rfl; exact absurd (by unfold an; rw [e]; rfl) a
      have g' : fg (x p) = false := by cases e : fg (x p); rfl; exact absurd (by unfold an; rw [e]; simp) a
      unfold lq_readName_12
      rw [q_ws, T.wl.mv.oct (by omega), bd2_eq, oc_in hpn, q_ltr' b, bd2_eq, if_pos (bI_0.mpr l'), q_ws, T.wl.mv.oct (by omega), bd2_eq, oc_in hpn, q_fg' b, bd2_eq, if_pos (bI_0.mpr g')]
      rw [List.take_nil]
      rfl
end Z2_Z3
