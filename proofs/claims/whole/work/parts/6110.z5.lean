section Z2_Z5
variable {σ σ' σ0 : cl_S} {ρ ρ' ρ0 : rf_S} {x : Nat → Nat} {n : Nat}
theorem w_id {a k : Nat} {v : Int32} (h : σ.1 a k = v) : cl_w σ a k v = σ := by
  refine Prod.ext (funext fun b => funext fun j => ?_) rfl
  rw [g_w]
  by_cases c : b = a ∧ j = k
  · rw [if_pos c, c.1, c.2, h]
  · rw [if_neg c]
theorem wq_id {a k : Nat} {v : Int32} (h : ρ.1 a k = v) : rf_w ρ a k v = ρ := by
  refine Prod.ext (funext fun b => funext fun j => ?_) rfl
  rw [g_q]
  by_cases c : b = a ∧ j = k
  · rw [if_pos c, c.1, c.2, h]
  · rw [if_neg c]
def TkC (σ σ' : cl_S) (x : Nat → Nat) (n p c : Nat) : Prop := (σ'.1 3 c = nI (tokK x n p)) ∧ (σ'.1 4 c = nI p) ∧ (tokK x n p = 2 → σ'.2.1 5 c = Int64.ofNat (enc 256 (tokN x n p))) ∧ (tokK x n p = 3 → σ'.2.1 5 c = tokV x n p) ∧ (σ'.1 1 2 = nI (tokE x n p)) ∧ (σ'.1 1 6 = nI (c + 1)) ∧ (∀ d j, ¬ (d = 3 ∧ j = c) → ¬ (d = 4 ∧ j = c) → ¬ (d = 1 ∧ (j = 2 ∨ j = 6)) → σ'.1 d j = σ.1 d j) ∧ (∀ d j, ¬ (d = 5 ∧ j = c) → σ'.2.1 d j = σ.2.1 d j) ∧ (σ'.2.2 = σ.2.2)
theorem TkC.k {σ σ' : cl_S} {x : Nat → Nat} {n p c : Nat} (hS : TkC σ σ' x n p c) : σ'.1 3 c = nI (tokK x n p) := hS.1
theorem TkC.pl {σ σ' : cl_S} {x : Nat → Nat} {n p c : Nat} (hS : TkC σ σ' x n p c) : σ'.1 4 c = nI p := hS.2.1
theorem TkC.v2 {σ σ' : cl_S} {x : Nat → Nat} {n p c : Nat} (hS : TkC σ σ' x n p c) : tokK x n p = 2 → σ'.2.1 5 c = Int64.ofNat (enc 256 (tokN x n p)) := hS.2.2.1
theorem TkC.v3 {σ σ' : cl_S} {x : Nat → Nat} {n p c : Nat} (hS : TkC σ σ' x n p c) : tokK x n p = 3 → σ'.2.1 5 c = tokV x n p := hS.2.2.2.1
theorem TkC.e {σ σ' : cl_S} {x : Nat → Nat} {n p c : Nat} (hS : TkC σ σ' x n p c) : σ'.1 1 2 = nI (tokE x n p) := hS.2.2.2.2.1
theorem TkC.cn {σ σ' : cl_S} {x : Nat → Nat} {n p c : Nat} (hS : TkC σ σ' x n p c) : σ'.1 1 6 = nI (c + 1) := hS.2.2.2.2.2.1
theorem TkC.I {σ σ' : cl_S} {x : Nat → Nat} {n p c : Nat} (hS : TkC σ σ' x n p c) : ∀ d j, ¬ (d = 3 ∧ j = c) → ¬ (d = 4 ∧ j = c) → ¬ (d = 1 ∧ (j = 2 ∨ j = 6)) → σ'.1 d j = σ.1 d j := hS.2.2.2.2.2.2.1
theorem TkC.L {σ σ' : cl_S} {x : Nat → Nat} {n p c : Nat} (hS : TkC σ σ' x n p c) : ∀ d j, ¬ (d = 5 ∧ j = c) → σ'.2.1 d j = σ.2.1 d j := hS.2.2.2.2.2.2.2.1
theorem TkC.r {σ σ' : cl_S} {x : Nat → Nat} {n p c : Nat} (hS : TkC σ σ' x n p c) : σ'.2.2 = σ.2.2 := hS.2.2.2.2.2.2.2.2
theorem sgn_le (c : Nat) : sgn c < 8 ∧ sgn c ≠ 0 ∧ sgn c ≠ 2 ∧ sgn c ≠ 3 := by
  unfold sgn
  split
  · omega
  split
  · omega
  split
  · omega
  split <;> omega
theorem c_sgn {c : Nat} (h : c < 256) (σ : cl_S) : fc_X4_signOf (nI c) σ = some (nI (sgn c), σ) := by
  unfold fc_X4_signOf bc_X4_signOf_0 sgn
  have l : ∀ d, d < 256 → (nI c = nI d ↔ c = d) := fun d hd => oc_eq h hd
  by_cases c1 : c = 10
  · rw [if_pos (show nI c = (10:Int32) from (l 10 (by omega)).mpr c1), if_pos c1]; rfl
  rw [if_neg (show ¬ nI c = (10:Int32) from fun q => c1 ((l 10 (by omega)).mp q)), if_neg c1]
  by_cases c2 : c = 44
  · rw [if_pos (show nI c = (44:Int32) from (l 44 (by omega)).mpr c2), if_pos c2]; rfl
  rw [if_neg (show ¬ nI c = (44:Int32) from fun q => c2 ((l 44 (by omega)).mp q)), if_neg c2]
  by_cases c3 : c = 58
  · rw [if_pos (show nI c = (58:Int32) from (l 58 (by omega)).mpr c3), if_pos c3]; rfl
  rw [if_neg (show ¬ nI c = (58:Int32) from fun q => c3 ((l 58 (by omega)).mp q)), if_neg c3]
  by_cases c4 : c = 45
  · rw [if_pos (show nI c = (45:Int32) from (l 45 (by omega)).mpr c4), if_pos c4]; rfl
  rw [if_neg (show ¬ nI c = (45:Int32) from fun q => c4 ((l 45 (by omega)).mp q)), if_neg c4]; rfl
/-- the end of a token in the class -/
theorem c_tkend {p c : Nat} {σ1 : cl_S} {k : Nat} (hc : c ≤ 6000) (hk : tokK x n p = k) (I : ∀ d j, ¬ (d = 3 ∧ j = c) → ¬ (d = 4 ∧ j = c) → ¬ (d = 1 ∧ j = 2) → σ1.1 d j = σ.1 d j) (h6 : σ.1 1 6 = nI c) (k3 : σ1.1 3 c = nI k) (pl : σ1.1 4 c = nI p) (e : σ1.1 1 2 = nI (tokE x n p)) (L : ∀ d j, ¬ (d = 5 ∧ j = c) → σ1.2.1 d j = σ.2.1 d j) (r : σ1.2.2 = σ.2.2) (v2 : k = 2 → σ1.2.1 5 c = Int64.ofNat (enc 256 (tokN x n p))) (v3 : k = 3 → σ1.2.1 5 c = tokV x n p) : ∃ σ', bc_X4_readToken_114 1 σ1 = some σ' ∧ TkC σ σ' x n p c := by
  unfold bc_X4_readToken_114
  rw [vl_eq, I 1 6 (by omega) (by omega) (by omega), h6, show nI c + (1:Int32) = nI (c + 1) from n_add c 1]
  refine ⟨_, rfl, ?_⟩
  subst hk
  refine ⟨by rw [r_w (by decide)]; exact k3, by rw [r_w (by decide)]; exact pl, v2, v3, by rw [r_wk (by decide)]; exact e, r_ws, fun d j a b d' => ?_, L, r⟩
  rw [g_w, if_neg (fun w => d' ⟨w.1, Or.inr w.2⟩)]
  exact I d j a b (fun w => d' ⟨w.1, Or.inl w.2⟩)
theorem c_n79 {p c len : Nat} {v : Int64} {σ1 : cl_S} (hc : c ≤ 6000) (hl : len ≤ 6000) (h6 : σ1.1 1 6 = nI c) (h2 : σ1.1 1 2 = nI (p + len)) : bc_X4_readName_79 1 (nI p) v σ1 = some (cl_w (cl_wl σ1 5 c v) 3 c (nI (if len ≤ 8 then 2 else 7))) := by
  unfold bc_X4_readName_79
  rw [h6, n_ix (show c < 6001 by omega) (by omega), vl_eq, n_cl (show c < 2147483648 by omega), show (1 + 4) = 5 from rfl, show (1 + 2) = 3 from rfl, r_lI, h2, h6, n_ix (show c < 6001 by omega) (by omega), n_ix (show c < 6001 by omega) (by omega), vl_eq, vl_eq, n_cl (show c < 2147483648 by omega), n_sub (by omega), show p + len - p = len by omega]
  by_cases c8 : len ≤ 8
  · rw [if_pos (show nI len ≤ (8:Int32) from (n_le (a := len) (b := 8) (by omega) (by omega)).mpr c8), if_pos c8]; rfl
  · rw [if_neg (show ¬ nI len ≤ (8:Int32) from fun q => c8 ((n_le (a := len) (b := 8) (by omega) (by omega)).mp q)), if_neg c8]; rfl
theorem c_n168 {h : Bool} {q c len : Nat} {v : Int64} {σ1 : cl_S} (hc : c ≤ 6000) (hl : len ≤ 6000) (h6 : σ1.1 1 6 = nI c) (h2 : σ1.1 1 2 = nI (q + len)) : bc_X4_readNumber_168 1 (bI h) (nI q) v σ1 = some (cl_w (cl_wl σ1 5 c v) 3 c (nI (if len ≤ (if h then 8 else 10) then 3 else 7))) := by
  unfold bc_X4_readNumber_168 bc_X4_readNumber_204
  rw [h6, n_ix (show c < 6001 by omega) (by omega), vl_eq, n_cl (show c < 2147483648 by omega), show (1 + 4) = 5 from rfl, show (1 + 2) = 3 from rfl, r_lI, h2, h6, n_ix (show c < 6001 by omega) (by omega), n_ix (show c < 6001 by omega) (by omega), vl_eq, vl_eq, n_cl (show c < 2147483648 by omega), n_sub (by omega), show q + len - q = len by omega]
  have t : ∀ m, m < 20 → (if nI len ≤ nI m then some (cl_w (cl_wl σ1 5 c v) 3 c (3:Int32)) else some (cl_w (cl_wl σ1 5 c v) 3 c (7:Int32))) = some (cl_w (cl_wl σ1 5 c v) 3 c (nI (if len ≤ m then 3 else 7))) := by
    intro m hm
    by_cases c8 : len ≤ m
    · rw [if_pos ((n_le (by omega) (by omega)).mpr c8), if_pos c8]; rfl
    · rw [if_neg (fun w => c8 ((n_le (by omega) (by omega)).mp w)), if_neg c8]; rfl
  cases h
  · exact t 10 (by omega)
  · exact t 8 (by omega)
/-- the class reads one token -/
theorem c_token {p c : Nat} (T : TxC σ x n) (hp : p ≤ n) (hc : c ≤ 6000) (h2 : σ.1 1 2 = nI p) (h6 : σ.1 1 6 = nI c) : ∃ σ', fc_X4_readToken 1 σ = some σ' ∧ TkC σ σ' x n p c := by
  have hn := T.le
  have ixc : ∀ {α : Type} (w : Option α), ix (nI c) 6001 w = w := fun w => n_ix (by omega) (by omega)
  have ncl : (nI c).toNatClampNeg = c := n_cl (by omega)
  have ncp : (nI p).toNatClampNeg = p := n_cl (by omega)
  have b := T.b p
  unfold fc_X4_readToken bc_X4_readToken_0
  rw [h6, ixc, vl_eq, ncl, h2]
  have T2 : TxC (cl_w σ 4 c (nI p)) x n := ⟨by rw [r_w (by decide)]; exact T.ln, T.le, fun j => by rw [r_w (by decide)]; exact T.ox j, T.b⟩
  have a2 : (cl_w σ 4 c (nI p)).1 1 2 = nI p := by rw [r_w (by decide)]; exact h2
  have a6 : (cl_w σ 4 c (nI p)).1 1 6 = nI c := by rw [r_w (by decide)]; exact h6
  rw [show (1 + 3) = 4 from rfl, show (1 + 2) = 3 from rfl, show (1 + 1) = 2 from rfl, a2, a6, T2.ln]
  have I4 : ∀ d j, ¬ (d = 4 ∧ j = c) → (cl_w σ 4 c (nI p)).1 d j = σ.1 d j := fun d j q => by rw [g_w, if_neg q]
  have p4 : (cl_w σ 4 c (nI p)).1 4 c = nI p := r_ws
  have l4 : (cl_w σ 4 c (nI p)).2 = σ.2 := rfl
  by_cases cn : n ≤ p
  · rw [if_neg (fun q => by have := (n_lt (by omega) (by omega)).mp q; omega), ixc, vl_eq, ncl]
    have eK : tokK x n p = 0 := by unfold tokK; rw [if_pos cn]
    have eE : tokE x n p = p := by unfold tokE; rw [if_pos cn]
    refine c_tkend (σ := σ) hc eK (fun d j q1 q2 _ => by rw [g_w, if_neg q1, I4 d j q2]) h6 (by rw [r_ws]; rfl) (by rw [r_w (by decide)]; exact p4) (by rw [r_w (by decide), eE]; exact a2) (fun d j _ => rfl) rfl (fun q => by cases q) (fun q => by cases q)
  have hpn : p < n := by omega
  rw [if_pos ((n_lt (by omega) (by omega)).mpr hpn), n_ix (show p < 6000 by omega) (by omega), ncp, T2.ox, c_ltr b, bd2_eq]
  by_cases l : ltr (x p) = true
  · rw [if_neg (fun q => by rw [bI_0.mp q] at l; cases l)]
    have eK : tokK x n p = if (tokN x n p).length ≤ 8 then 2 else 7 := by unfold tokK; rw [if_neg cn, if_pos l]
    have eE : tokE x n p = p + (tokN x n p).length := by unfold tokE; rw [if_neg cn, if_pos l]
    have hl : (tokN x n p).length ≤ n - p := nl_len _ _
    have rn : ∃ σ1, fc_X4_readName 1 (cl_w σ 4 c (nI p)) = some σ1 ∧ σ1.1 3 c = nI (tokK x n p) ∧ σ1.1 4 c = nI p ∧ σ1.1 1 2 = nI (tokE x n p) ∧ (∀ d j, ¬ (d = 3 ∧ j = c) → ¬ (d = 4 ∧ j = c) → ¬ (d = 1 ∧ j = 2) → σ1.1 d j = σ.1 d j) ∧ (∀ d j, ¬ (d = 5 ∧ j = c) → σ1.2.1 d j = σ.2.1 d j) ∧ σ1.2.2 = σ.2.2 ∧ σ1.2.1 5 c = Int64.ofNat (enc 256 (tokN x n p)) := by
      unfold fc_X4_readName bc_X4_readName_0 bc_X4_readName_7
      rw [vl_eq, a2]
      have := c_name (f := nI p) T2 (n - p) p 0 rfl hp
      rw [w_id a2] at this
      rw [show ((0:Int64), cl_w σ 4 c (nI p)) = (Int64.ofNat 0, cl_w σ 4 c (nI p)) from rfl, this, Option.bind_some]
      show ∃ σ1, bc_X4_readName_79 1 (nI p) (Int64.ofNat (enc 256 (tokN x n p))) (cl_w (cl_w σ 4 c (nI p)) 1 2 (nI (p + (tokN x n p).length))) = _ ∧ _
      rw [c_n79 (c := c) hc (by omega) (by rw [r_wk (by decide), a6]) r_ws, ← eK]
      refine ⟨_, rfl, r_ws, by rw [r_w (by decide), r_lI, r_w (by decide)]; exact p4, by rw [r_w (by decide), r_lI, r_ws, eE], fun d j q1 q2 q3 => by rw [g_w, if_neg q1, r_lI, g_w, if_neg q3, I4 d j q2], fun d j q => by rw [r_wL, g_l, if_neg q]; rfl, rfl, ?_⟩
      rw [r_wL, g_l, if_pos ⟨rfl, rfl⟩]
    obtain ⟨σ1, e1, k1, k2, k3, k4, k5, k6, k7⟩ := rn
    rw [e1, bd1_eq]
    refine c_tkend (σ := σ) hc rfl k4 h6 k1 k2 k3 k5 k6 (fun _ => k7) (fun q => ?_)
    rw [eK] at q
    split at q <;> cases q
  have l' : ltr (x p) = false := by cases e : ltr (x p); rfl; exact absurd e l
  rw [if_pos (bI_0.mpr l'), a2, n_ix (show p < 6000 by omega) (by omega), ncp, T2.ox, show (10:Int32) = bs false from rfl, c_fig b, bd2_eq]
  show ∃ σ', (if (if fg (x p) = true then fv (x p) else -1) < 0 then _ else _) = _ ∧ _
  by_cases g : fg (x p) = true
  · rw [if_pos g, if_neg (fv_nn (h := false) g).1]
    have eK : tokK x n p = if (tokF x n p).length ≤ (if isHex x n p then 8 else 10) then 3 else 7 := by unfold tokK; rw [if_neg cn, if_neg l, if_pos g]
    have eE : tokE x n p = (if isHex x n p then p + 2 else p) + (tokF x n p).length := by unfold tokE; rw [if_neg cn, if_neg l, if_pos g]
    have t67 : ∀ h, isHex x n p = h → ∃ σ1, bc_X4_readNumber_67 1 (bI h) (cl_w σ 4 c (nI p)) = some σ1 ∧ σ1.1 3 c = nI (tokK x n p) ∧ σ1.1 4 c = nI p ∧ σ1.1 1 2 = nI (tokE x n p) ∧ (∀ d j, ¬ (d = 3 ∧ j = c) → ¬ (d = 4 ∧ j = c) → ¬ (d = 1 ∧ j = 2) → σ1.1 d j = σ.1 d j) ∧ (∀ d j, ¬ (d = 5 ∧ j = c) → σ1.2.1 d j = σ.2.1 d j) ∧ σ1.2.2 = σ.2.2 ∧ σ1.2.1 5 c = tokV x n p := by
      intro h hh
      have e67 : bc_X4_readNumber_67 1 (bI h) (cl_w σ 4 c (nI p)) = bc_X4_readNumber_97 1 (bI h) (bs h) (nI (if h then p + 2 else p)) (cl_w σ 4 c (nI p)) := by
        unfold bc_X4_readNumber_67 bc_X4_readNumber_79
        rw [a2]
        cases h
        · rfl
        · show bc_X4_readNumber_97 1 1 16 (nI p + (2:Int32)) _ = _
          rw [show nI p + (2:Int32) = nI (p + 2) from n_add p 2]; rfl
      rw [e67]
      unfold bc_X4_readNumber_97 bc_X4_readNumber_106
      rw [vl_eq]
      have hp2 : (if h then p + 2 else p) ≤ n := by
        cases h
        · exact hp
        · have : p + 2 < n := by unfold isHex at hh; simp at hh; omega
          show p + 2 ≤ n; omega
      have eF : tokF x n p = dl h x n (n - (if h then p + 2 else p)) (if h then p + 2 else p) := by
        unfold tokF; rw [hh]; cases h <;> rfl
      have hl : (tokF x n p).length ≤ n - (if h then p + 2 else p) := by rw [eF]; exact dl_len _ _
      rw [c_num (f1 := bI h) (f3 := nI (if h then p + 2 else p)) (h := h) T2 _ _ 0 rfl hp2, Option.bind_some, ← eF]
      show ∃ σ1, bc_X4_readNumber_168 1 (bI h) (nI (if h then p + 2 else p)) (valF h 0 (tokF x n p)) (cl_w (cl_w σ 4 c (nI p)) 1 2 (nI ((if h then p + 2 else p) + (tokF x n p).length))) = _ ∧ _
      rw [hh] at eK
      rw [c_n168 (c := c) hc (by omega) (by rw [r_wk (by decide), a6]) r_ws, ← eK]
      refine ⟨_, rfl, r_ws, by rw [r_w (by decide), r_lI, r_w (by decide)]; exact p4, by rw [r_w (by decide), r_lI, r_ws, eE, hh], fun d j q1 q2 q3 => by rw [g_w, if_neg q1, r_lI, g_w, if_neg q3, I4 d j q2], fun d j q => by rw [r_wL, g_l, if_neg q]; rfl, rfl, ?_⟩
      rw [r_wL, g_l, if_pos ⟨rfl, rfl⟩]; unfold tokV; rw [hh]
    have rn : ∃ σ1, fc_X4_readNumber 1 (cl_w σ 4 c (nI p)) = some σ1 ∧ σ1.1 3 c = nI (tokK x n p) ∧ σ1.1 4 c = nI p ∧ σ1.1 1 2 = nI (tokE x n p) ∧ (∀ d j, ¬ (d = 3 ∧ j = c) → ¬ (d = 4 ∧ j = c) → ¬ (d = 1 ∧ j = 2) → σ1.1 d j = σ.1 d j) ∧ (∀ d j, ¬ (d = 5 ∧ j = c) → σ1.2.1 d j = σ.2.1 d j) ∧ σ1.2.2 = σ.2.2 ∧ σ1.2.1 5 c = tokV x n p := by
      unfold fc_X4_readNumber bc_X4_readNumber_0 bc_X4_readNumber_66
      rw [a2, T2.ln, show nI p + (2:Int32) = nI (p + 2) from n_add p 2, show nI p + (1:Int32) = nI (p + 1) from n_add p 1]
      by_cases d1 : n ≤ p + 2
      · rw [if_pos ((n_le (by omega) (by omega)).mpr d1)]
        exact t67 false (by unfold isHex; simp; omega)
      rw [if_neg (fun q => d1 ((n_le (by omega) (by omega)).mp q)), n_ix (show p < 6000 by omega) (by omega), show (1 + 1) = 2 from rfl, ncp, T2.ox]
      by_cases d2 : x p = 48
      rotate_left
      · rw [if_neg (show ¬ nI (x p) = (48:Int32) from fun q => d2 ((oc_eq (b := 48) b (by omega)).mp q))]
        exact t67 false (by unfold isHex; simp [d2])
      rw [if_pos (show nI (x p) = (48:Int32) from (oc_eq (b := 48) b (by omega)).mpr d2), n_ix (show p + 1 < 6000 by omega) (by omega), n_cl (show p + 1 < 2147483648 by omega), T2.ox]
      by_cases d3 : x (p + 1) = 120
      rotate_left
      · rw [if_neg (show ¬ nI (x (p + 1)) = (120:Int32) from fun q => d3 ((oc_eq (b := 120) (T.b _) (by omega)).mp q))]
        exact t67 false (by unfold isHex; simp [d3])
      rw [if_pos (show nI (x (p + 1)) = (120:Int32) from (oc_eq (b := 120) (T.b _) (by omega)).mpr d3), n_ix (show p + 2 < 6000 by omega) (by omega), n_cl (show p + 2 < 2147483648 by omega), T2.ox, show (16:Int32) = bs true from rfl, c_fig (T.b _), bd2_eq]
      show ∃ σ1, (if (if hx (x (p + 2)) = true then fv (x (p + 2)) else -1) < 0 then _ else _) = _ ∧ _
      by_cases d4 : hx (x (p + 2)) = true
      · rw [if_pos d4, if_neg (fv_nn (h := true) d4).1]
        exact t67 true (by unfold isHex; simp [d2, d3, d4]; omega)
      · rw [if_neg d4, if_pos (by decide)]
        exact t67 false (by unfold isHex; simp [d4])
    obtain ⟨σ1, e1, k1, k2, k3, k4, k5, k6, k7⟩ := rn
    rw [e1, bd1_eq]
    refine c_tkend (σ := σ) hc rfl k4 h6 k1 k2 k3 k5 k6 (fun q => ?_) (fun _ => k7)
    rw [eK] at q
    by_cases w : (tokF x n p).length ≤ (if isHex x n p then 8 else 10)
    · rw [if_pos w] at q; cases q
    · rw [if_neg w] at q; cases q
  · rw [if_neg g, if_pos (by decide), a2, n_ix (show p < 6000 by omega) (by omega), ncp, T2.ox, c_sgn b, bd2_eq, a6, ixc, vl_eq, vl_eq, ncl]
    have eK : tokK x n p = sgn (x p) := by unfold tokK; rw [if_neg cn, if_neg l, if_neg g]
    have eE : tokE x n p = p + 1 := by unfold tokE; rw [if_neg cn, if_neg l, if_neg g]
    obtain ⟨s8, s0, s2, s3⟩ := sgn_le (x p)
    rw [show (cl_w (cl_w σ 4 c (nI p)) 3 c (nI (sgn (x p)))).1 1 2 = nI p by rw [r_w (by decide)]; exact a2, show nI p + (1:Int32) = nI (p + 1) from n_add p 1]
    exact c_tkend (σ := σ) hc eK (fun d j q1 q2 q3 => by rw [g_w, if_neg q3, g_w, if_neg q1, I4 d j q2]) h6 (by rw [r_w (by decide), r_ws]) (by rw [r_w (by decide), r_w (by decide)]; exact p4) (by rw [r_ws, eE]) (fun d j _ => rfl) rfl (fun q => absurd q s2) (fun q => absurd q s3)
end Z2_Z5
