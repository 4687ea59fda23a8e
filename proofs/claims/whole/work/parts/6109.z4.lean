section Z2_Z4
variable {σ σ' σ0 : cl_S} {ρ ρ' ρ0 : rf_S} {x : Nat → Nat} {n : Nat}
/-- the class reads figures -/
theorem c_num {f1 f3 : Int32} {h : Bool} (T : TxC σ x n) : ∀ m p v, n - p = m → p ≤ n → lp (fun z : (Int64 × cl_S) => lc_X4_readNumber_106 1 f1 (bs h) f3 z.1 z.2) (v, cl_w σ 1 2 (nI p)) = some (valF h v (dl h x n m p), cl_w σ 1 2 (nI (p + (dl h x n m p).length))) := by
  have hn := T.le
  intro m
  induction m with
  | zero =>
    intro p v hm hp
    refine lp_end (s := (v, cl_w σ 1 2 (nI p))) ?_
    show lc_X4_readNumber_106 1 f1 (bs h) f3 v (cl_w σ 1 2 (nI p)) = _
    unfold lc_X4_readNumber_106
    rw [T.mv.ln, r_ws, if_pos ((n_le (by omega) (by omega)).mpr (by omega))]
    rfl
  | succ m ih =>
    intro p v hm hp
    have b := T.b p
    have hd : lc_X4_readNumber_106 1 f1 (bs h) f3 v (cl_w σ 1 2 (nI p)) = if dgt h (x p) = true then some (.inl (v * (bs h).toInt64 + (fv (x p)).toInt64, cl_w σ 1 2 (nI (p + 1)))) else some (.inr (v, cl_w σ 1 2 (nI p))) := by
      unfold lc_X4_readNumber_106
      rw [T.mv.ln, r_ws, if_neg (fun q => by have := (n_le (by omega) (by omega)).mp q; omega), n_ix (show p < 6000 by omega) (by omega), n_cl (show p < 2147483648 by omega), T.mv.ox, c_fig b, bd2_eq]
      by_cases g : dgt h (x p) = true
      · rw [if_pos g, if_neg (fv_nn g).1, r_ws, n_ix (show p < 6000 by omega) (by omega), n_cl (show p < 2147483648 by omega), T.mv.ox, c_fig b, bd2_eq, if_pos g, vl_eq, vl_eq, r_ws, w_w, show nI p + (1:Int32) = nI (p + 1) from n_add p 1, if_pos g]
      · rw [if_neg g, if_pos (by decide), if_neg g]
    unfold dl
    by_cases a : dgt h (x p) = true
    · rw [if_pos a] at hd
      rw [lp_next (s := (v, cl_w σ 1 2 (nI p))) hd, ih (p + 1) _ (by omega) (by omega), if_pos a, List.length_cons, show p + 1 + (dl h x n m (p + 1)).length = p + ((dl h x n m (p + 1)).length + 1) by omega]
      rfl
    · rw [if_neg a] at hd
      rw [if_neg a, lp_end (s := (v, cl_w σ 1 2 (nI p))) hd]
      rfl
/-- the reference reads figures -/
theorem q_num {h : Bool} (T : TxQ ρ x n) : ∀ m p j v, n - p = m → p ≤ n → j + m ≤ 6000 → lp (fun z : (Int32 × rf_S) => lq_readNumber_76 (bI h) z.1 z.2) (nI j, rf_w (rf_wl ρ 0 47 v) 0 48 (nI p)) = some (nI (j + (dl h x n m p).length), rf_w (rf_wl ρ 0 47 (valF h v ((dl h x n m p).take (12 - j)))) 0 48 (nI (p + (dl h x n m p).length))) := by
  have hn := T.le
  intro m
  induction m with
  | zero =>
    intro p j v hm hp hj
    have e : ¬ p < n := by omega
    refine lp_end (s := (nI j, rf_w (rf_wl ρ 0 47 v) 0 48 (nI p))) ?_
    show lq_readNumber_76 (bI h) (nI j) (rf_w (rf_wl ρ 0 47 v) 0 48 (nI p)) = some (Sum.inr (nI (j + 0), rf_w (rf_wl ρ 0 47 (valF h v (([] : List Nat).take (12 - j)))) 0 48 (nI (p + 0))))
    rw [List.take_nil]
    unfold lq_readNumber_76
    rw [q_ws, T.wl.mv.oct (by omega), bd2_eq, bd2_eq, oc_out e, (q_m1 _).2.1, (q_m1 _).2.2, bd2_eq, bd2_eq]
    cases h <;> rfl
  | succ m ih =>
    intro p j v hm hp hj
    have b := T.b p
    have hpn : p < n := by omega
    have g152 : ∀ w, bq_readNumber_152i76 (nI j) (bI h) (rf_w (rf_wl ρ 0 47 w) 0 48 (nI p)) = some (.inl (nI (j + 1), rf_w (rf_wl ρ 0 47 w) 0 48 (nI (p + 1)))) := by
      intro w
      unfold bq_readNumber_152i76
      rw [vl_eq, vl_eq, q_ws, w_q, show nI p + (1:Int32) = nI (p + 1) from n_add p 1, show nI j + (1:Int32) = nI (j + 1) from n_add j 1]
    have go : dgt h (x p) = true → bq_readNumber_111i76 (nI j) (bI h) (rf_w (rf_wl ρ 0 47 v) 0 48 (nI p)) = some (.inl (nI (j + 1), rf_w (rf_wl ρ 0 47 (if j < 12 then v * (bs h).toInt64 + (fv (x p)).toInt64 else v)) 0 48 (nI (p + 1)))) := by
      intro g
      have hh : hx (x p) = true := by
        cases h
        · exact hx_iff.mpr (Or.inl (fg_iff.mp g))
        · exact g
      unfold bq_readNumber_111i76
      by_cases c : j < 12
      · rw [if_neg (show ¬ (12:Int32) ≤ nI j from fun q => by have := (n_le (a := 12) (b := j) (by omega) (by omega)).mp q; omega), if_pos c]
        have t135 : ∀ B : Int64, bq_readNumber_135i76 (nI j) (bI h) ((rf_w (rf_wl ρ 0 47 v) 0 48 (nI p)).2 0 47) B (rf_w (rf_wl ρ 0 47 v) 0 48 (nI p)) = some (.inl (nI (j + 1), rf_w (rf_wl ρ 0 47 (v * B + (fv (x p)).toInt64)) 0 48 (nI (p + 1)))) := by
          intro B
          unfold bq_readNumber_135i76
          rw [q_ws, T.wl.mv.oct (by omega), bd2_eq, oc_in hpn, q_hx' b, bd2_eq, if_pos hh, vl_eq, wl_w, wl_wl, g152, q_wL, q_ls]
        cases h
        · rw [if_pos (show bI false = 0 from rfl), t135]; rfl
        · rw [if_neg (show ¬ bI true = 0 by decide), t135]; rfl
      · rw [if_pos (show (12:Int32) ≤ nI j from (n_le (a := 12) (b := j) (by omega) (by omega)).mpr (by omega)), if_neg c, g152]
    have hd : lq_readNumber_76 (bI h) (nI j) (rf_w (rf_wl ρ 0 47 v) 0 48 (nI p)) = if dgt h (x p) = true then bq_readNumber_111i76 (nI j) (bI h) (rf_w (rf_wl ρ 0 47 v) 0 48 (nI p)) else some (.inr (nI j, rf_w (rf_wl ρ 0 47 v) 0 48 (nI p))) := by
      unfold lq_readNumber_76
      rw [q_ws, T.wl.mv.oct (by omega), bd2_eq, oc_in hpn, q_fg' b, bd2_eq, bd2_eq, q_hx' b, bd2_eq]
      cases h
      · rw [if_pos (show bI false = 0 from rfl)]
        show (if bI (fg (x p)) = 0 then _ else _) = if fg (x p) = true then _ else _
        by_cases g : fg (x p) = true
        · rw [if_neg (fun q => by rw [bI_0.mp q] at g; cases g), if_pos g]
        · rw [if_pos (bI_0.mpr (by cases e : fg (x p); rfl; exact absurd e g)), if_neg g]
      · rw [if_neg (show ¬ bI true = 0 by decide)]
        show (if (if hx (x p) = true then fv (x p) else -1) < 0 then _ else _) = if hx (x p) = true then _ else _
        by_cases g : hx (x p) = true
        · rw [if_pos g, if_neg (fv_nn (h := true) g).1, if_pos g]
        · rw [if_neg g, if_pos (by decide), if_neg g]
    unfold dl
    by_cases a : dgt h (x p) = true
    · rw [if_pos a, go a] at hd
      rw [lp_next (s := (nI j, rf_w (rf_wl ρ 0 47 v) 0 48 (nI p))) hd, ih (p + 1) (j + 1) _ (by omega) (by omega) (by omega), if_pos a, List.length_cons, show p + 1 + (dl h x n m (p + 1)).length = p + ((dl h x n m (p + 1)).length + 1) by omega, show j + 1 + (dl h x n m (p + 1)).length = j + ((dl h x n m (p + 1)).length + 1) by omega]
      by_cases c : j < 12
      · rw [if_pos c, show 12 - j = (12 - (j + 1)) + 1 by omega, List.take_succ_cons]
        rfl
      · rw [if_neg c, show 12 - j = 0 by omega, show 12 - (j + 1) = 0 by omega, List.take_zero, List.take_zero]
    · rw [if_neg a] at hd
      rw [if_neg a, lp_end (s := (nI j, rf_w (rf_wl ρ 0 47 v) 0 48 (nI p))) hd, List.take_nil]
      rfl
/-! a token at a place p where something stands: its kind, name, value, end -/
def isHex (x : Nat → Nat) (n p : Nat) : Bool := decide (p + 2 < n) && (x p == 48) && (x (p + 1) == 120) && hx (x (p + 2))
def sgn (c : Nat) : Nat := if c = 10 then 1 else if c = 44 then 4 else if c = 58 then 5 else if c = 45 then 6 else 7
def tokN (x : Nat → Nat) (n p : Nat) : List Nat := nl x n (n - p) p
def tokF (x : Nat → Nat) (n p : Nat) : List Nat := if isHex x n p then dl true x n (n - (p + 2)) (p + 2) else dl false x n (n - p) p
def tokE (x : Nat → Nat) (n p : Nat) : Nat := if n ≤ p then p else if ltr (x p) then p + (tokN x n p).length else if fg (x p) then (if isHex x n p then p + 2 else p) + (tokF x n p).length else p + 1
def tokK (x : Nat → Nat) (n p : Nat) : Nat := if n ≤ p then 0 else if ltr (x p) then (if (tokN x n p).length ≤ 8 then 2 else 7) else if fg (x p) then (if (tokF x n p).length ≤ (if isHex x n p then 8 else 10) then 3 else 7) else sgn (x p)
def tokV (x : Nat → Nat) (n p : Nat) : Int64 := valF (isHex x n p) 0 (tokF x n p)
theorem tkE_le {p : Nat} (hp : p ≤ n) : tokE x n p ≤ n ∧ (p < n → p < tokE x n p) := by
  unfold tokE
  by_cases c : n ≤ p
  · rw [if_pos c]; omega
  rw [if_neg c]
  by_cases l : ltr (x p) = true
  · rw [if_pos l]
    have h1 : (tokN x n p).length ≤ n - p := nl_len _ _
    have h2 : 0 < (tokN x n p).length := by
      unfold tokN
      rw [show n - p = (n - p - 1) + 1 by omega]
      unfold nl
      rw [if_pos (show an (x p) = true by unfold an; rw [l]; rfl), List.length_cons]; omega
    omega
  rw [if_neg l]
  by_cases g : fg (x p) = true
  · rw [if_pos g]
    unfold tokF
    by_cases h : isHex x n p = true
    · rw [if_pos h, if_pos h]
      have : p + 2 < n := by unfold isHex at h; simp at h; omega
      have h1 : (dl true x n (n - (p + 2)) (p + 2)).length ≤ n - (p + 2) := dl_len _ _
      omega
    · rw [if_neg h, if_neg h]
      have h1 : (dl false x n (n - p) p).length ≤ n - p := dl_len _ _
      have h2 : 0 < (dl false x n (n - p) p).length := by
        rw [show n - p = (n - p - 1) + 1 by omega]
        unfold dl
        rw [if_pos (show dgt false (x p) = true from g), List.length_cons]; omega
      omega
  · rw [if_neg g]; omega
end Z2_Z4
