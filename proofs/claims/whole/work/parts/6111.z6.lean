section Z2_Z6
variable {σ σ' σ0 : cl_S} {ρ ρ' ρ0 : rf_S} {x : Nat → Nat} {n : Nat}
/-- the reference's number of a kind of token -/
def qk (k : Nat) : Nat := [0, 6, 1, 2, 3, 4, 5, 7].getD k 7
def TkQ (ρ ρ' : rf_S) (x : Nat → Nat) (n p : Nat) : Prop := (ρ'.1 0 44 = nI (qk (tokK x n p))) ∧ (ρ'.1 0 45 = nI p) ∧ (tokK x n p = 2 → ρ'.2 0 46 = Int64.ofNat (enc 128 (tokN x n p))) ∧ (tokK x n p = 3 → ρ'.2 0 47 = tokV x n p) ∧ (ρ'.1 0 48 = nI (tokE x n p)) ∧ (∀ j, j ≠ 44 → j ≠ 45 → j ≠ 48 → ρ'.1 0 j = ρ.1 0 j) ∧ (∀ c, c ≠ 0 → ρ'.1 c = ρ.1 c) ∧ (∀ c, c ≠ 0 → ρ'.2 c = ρ.2 c)
theorem TkQ.k {ρ ρ' : rf_S} {x : Nat → Nat} {n p : Nat} (hS : TkQ ρ ρ' x n p) : ρ'.1 0 44 = nI (qk (tokK x n p)) := hS.1
theorem TkQ.pl {ρ ρ' : rf_S} {x : Nat → Nat} {n p : Nat} (hS : TkQ ρ ρ' x n p) : ρ'.1 0 45 = nI p := hS.2.1
theorem TkQ.v2 {ρ ρ' : rf_S} {x : Nat → Nat} {n p : Nat} (hS : TkQ ρ ρ' x n p) : tokK x n p = 2 → ρ'.2 0 46 = Int64.ofNat (enc 128 (tokN x n p)) := hS.2.2.1
theorem TkQ.v3 {ρ ρ' : rf_S} {x : Nat → Nat} {n p : Nat} (hS : TkQ ρ ρ' x n p) : tokK x n p = 3 → ρ'.2 0 47 = tokV x n p := hS.2.2.2.1
theorem TkQ.e {ρ ρ' : rf_S} {x : Nat → Nat} {n p : Nat} (hS : TkQ ρ ρ' x n p) : ρ'.1 0 48 = nI (tokE x n p) := hS.2.2.2.2.1
theorem TkQ.f {ρ ρ' : rf_S} {x : Nat → Nat} {n p : Nat} (hS : TkQ ρ ρ' x n p) : ∀ j, j ≠ 44 → j ≠ 45 → j ≠ 48 → ρ'.1 0 j = ρ.1 0 j := hS.2.2.2.2.2.1
theorem TkQ.q {ρ ρ' : rf_S} {x : Nat → Nat} {n p : Nat} (hS : TkQ ρ ρ' x n p) : ∀ c, c ≠ 0 → ρ'.1 c = ρ.1 c := hS.2.2.2.2.2.2.1
theorem TkQ.l {ρ ρ' : rf_S} {x : Nat → Nat} {n p : Nat} (hS : TkQ ρ ρ' x n p) : ∀ c, c ≠ 0 → ρ'.2 c = ρ.2 c := hS.2.2.2.2.2.2.2
theorem qk_sgn (c : Nat) : (if c = 44 then 3 else if c = 58 then 4 else if c = 45 then 5 else if c = 10 then 6 else 7) = qk (sgn c) := by
  by_cases h1 : c = 44
  · subst h1; rfl
  by_cases h2 : c = 58
  · subst h2; rfl
  by_cases h3 : c = 45
  · subst h3; rfl
  by_cases h4 : c = 10
  · subst h4; rfl
  unfold sgn
  rw [if_neg h1, if_neg h2, if_neg h3, if_neg h4, if_neg h4, if_neg h1, if_neg h2, if_neg h3]
  rfl
theorem q_next {p : Nat} (T : TxQ ρ x n) (hp : p ≤ n) (h48 : ρ.1 0 48 = nI p) : ∃ ρ', fq_next ρ = some ρ' ∧ TkQ ρ ρ' x n (pv x n (n - p) false p) := by
  have hn := T.le
  have e0 := q_passOver T hp
  rw [wq_id h48] at e0
  have hp' := pv_le (x := x) (n - p) false p hp
  generalize pv x n (n - p) false p = s at *
  unfold fq_next bq_next_0
  rw [e0, bd1_eq, vl_eq, q_ws]
  have T2 : TxQ (rf_w (rf_w ρ 0 48 (nI s)) 0 45 (nI s)) x n := ⟨by rw [q_wk (by decide), q_wk (by decide)]; exact T.ln, T.le, fun j => by rw [q_w (by decide), q_w (by decide)]; exact T.ox j, T.b⟩
  have a48 : (rf_w (rf_w ρ 0 48 (nI s)) 0 45 (nI s)).1 0 48 = nI s := by rw [q_wk (by decide), q_ws]
  have a45 : (rf_w (rf_w ρ 0 48 (nI s)) 0 45 (nI s)).1 0 45 = nI s := q_ws
  have af : ∀ j, j ≠ 45 → j ≠ 48 → (rf_w (rf_w ρ 0 48 (nI s)) 0 45 (nI s)).1 0 j = ρ.1 0 j := fun j h1 h2 => by rw [q_wk h1, q_wk h2]
  have aq : ∀ c, c ≠ 0 → (rf_w (rf_w ρ 0 48 (nI s)) 0 45 (nI s)).1 c = ρ.1 c := fun c h => by rw [q_w h, q_w h]
  have al : (rf_w (rf_w ρ 0 48 (nI s)) 0 45 (nI s)).2 = ρ.2 := rfl
  generalize rf_w (rf_w ρ 0 48 (nI s)) 0 45 (nI s) = ρ2 at *
  have b := T.b s
  rw [a48, T2.oct (by omega), bd2_eq]
  by_cases cn : n ≤ s
  · rw [oc_out (by omega), if_neg (by decide), vl_eq]
    have eK : tokK x n s = 0 := by unfold tokK; rw [if_pos cn]
    have eE : tokE x n s = s := by unfold tokE; rw [if_pos cn]
    refine ⟨_, rfl, by rw [q_ws, eK]; rfl, by rw [q_wk (by decide)]; exact a45, fun q => (by rw [eK] at q; cases q), fun q => (by rw [eK] at q; cases q), by rw [q_wk (by decide), eE]; exact a48, fun j h1 h2 h3 => by rw [q_wk h1]; exact af j h2 h3, fun c h => by rw [q_w h]; exact aq c h, fun c h => by rw [q_wL, al]⟩
  have hs : s < n := by omega
  rw [oc_in hs, if_pos (show (0:Int32) ≤ nI (x s) from (n_le (a := 0) (b := x s) (by omega) (by omega)).mpr (by omega)), q_ltr' b, bd2_eq]
  by_cases l : ltr (x s) = true
  · rw [if_neg (fun q => by rw [bI_0.mp q] at l; cases l)]
    have eK : tokK x n s = if (tokN x n s).length ≤ 8 then 2 else 7 := by unfold tokK; rw [if_neg cn, if_pos l]
    have eE : tokE x n s = s + (tokN x n s).length := by unfold tokE; rw [if_neg cn, if_pos l]
    have hl : (tokN x n s).length ≤ n - s := nl_len _ _
    unfold fq_readName bq_readName_0 bq_readName_12
    rw [vl_eq, vl_eq]
    have T3 : TxQ (rf_w ρ2 0 44 (1:Int32)) x n := ⟨by rw [q_wk (by decide)]; exact T2.ln, T2.le, fun j => by rw [q_w (by decide)]; exact T2.ox j, T2.b⟩
    have b48 : (rf_wl (rf_w ρ2 0 44 (1:Int32)) 0 46 (0:Int64)).1 0 48 = nI s := by rw [q_lI, q_wk (by decide)]; exact a48
    have := q_name T3 (n - s) s 0 0 rfl hp' (by omega)
    rw [show rf_w (rf_wl (rf_w ρ2 0 44 (1:Int32)) 0 46 (Int64.ofNat 0)) 0 48 (nI s) = rf_wl (rf_w ρ2 0 44 (1:Int32)) 0 46 (0:Int64) from wq_id b48] at this
    rw [show ((0:Int32), rf_wl (rf_w ρ2 0 44 (1:Int32)) 0 46 (0:Int64)) = (nI 0, rf_wl (rf_w ρ2 0 44 (1:Int32)) 0 46 (0:Int64)) from rfl, this, Option.bind_some, Nat.zero_add]
    show ∃ ρ', bd1 (if nI (tokN x n s).length ≤ (8:Int32) then some (rf_w (rf_wl (rf_w ρ2 0 44 (1:Int32)) 0 46 (Int64.ofNat (encF 128 0 ((tokN x n s).take 8)))) 0 48 (nI (s + (tokN x n s).length))) else vl (rf_w (rf_w (rf_wl (rf_w ρ2 0 44 (1:Int32)) 0 46 (Int64.ofNat (encF 128 0 ((tokN x n s).take 8)))) 0 48 (nI (s + (tokN x n s).length))) 0 44 (7:Int32)) (fun ρ_16 => some ρ_16)) (fun ρ_12 => some ρ_12) = some ρ' ∧ _
    by_cases c8 : (tokN x n s).length ≤ 8
    · rw [if_pos (show nI (tokN x n s).length ≤ (8:Int32) from (n_le (a := (tokN x n s).length) (b := 8) (by omega) (by omega)).mpr c8), bd1_eq, List.take_of_length_le c8]
      rw [if_pos c8] at eK
      refine ⟨_, rfl, by rw [q_wk (by decide), q_lI, q_ws, eK]; rfl, by rw [q_wk (by decide), q_lI, q_wk (by decide)]; exact a45, fun _ => by rw [q_wL, q_ls]; rfl, fun q => (by rw [eK] at q; cases q), by rw [q_ws, eE], fun j h1 h2 h3 => by rw [q_wk h3, q_lI, q_wk h1]; exact af j h2 h3, fun c h => by rw [q_w h, q_lI, q_w h]; exact aq c h, fun c h => by rw [q_wL, q_l h, q_wL, al]⟩
    · rw [if_neg (show ¬ nI (tokN x n s).length ≤ (8:Int32) from fun q => c8 ((n_le (a := (tokN x n s).length) (b := 8) (by omega) (by omega)).mp q)), vl_eq, bd1_eq]
      rw [if_neg c8] at eK
      refine ⟨_, rfl, by rw [q_ws, eK]; rfl, by rw [q_wk (by decide), q_wk (by decide), q_lI, q_wk (by decide)]; exact a45, fun q => (by rw [eK] at q; cases q), fun q => (by rw [eK] at q; cases q), by rw [q_wk (by decide), q_ws, eE], fun j h1 h2 h3 => by rw [q_wk h1, q_wk h3, q_lI, q_wk h1]; exact af j h2 h3, fun c h => by rw [q_w h, q_w h, q_lI, q_w h]; exact aq c h, fun c h => by rw [q_wL, q_wL, q_l h, q_wL, al]⟩
  have l' : ltr (x s) = false := by cases e : ltr (x s); rfl; exact absurd e l
  rw [if_pos (bI_0.mpr l'), q_fg' b, bd2_eq]
  by_cases g : fg (x s) = true
  · rw [if_neg (fun q => by rw [bI_0.mp q] at g; cases g)]
    have eK : tokK x n s = if (tokF x n s).length ≤ (if isHex x n s then 8 else 10) then 3 else 7 := by unfold tokK; rw [if_neg cn, if_neg l, if_pos g]
    have eE : tokE x n s = (if isHex x n s then s + 2 else s) + (tokF x n s).length := by unfold tokE; rw [if_neg cn, if_neg l, if_pos g]
    unfold fq_readNumber bq_readNumber_0
    rw [vl_eq, vl_eq]
    have T3 : TxQ (rf_w ρ2 0 44 (2:Int32)) x n := ⟨by rw [q_wk (by decide)]; exact T2.ln, T2.le, fun j => by rw [q_w (by decide)]; exact T2.ox j, T2.b⟩
    have b48 : (rf_wl (rf_w ρ2 0 44 (2:Int32)) 0 47 (0:Int64)).1 0 48 = nI s := by rw [q_lI, q_wk (by decide)]; exact a48
    have T4 : TxQ (rf_wl (rf_w ρ2 0 44 (2:Int32)) 0 47 (0:Int64)) x n := T3.wl
    have t61 : ∀ h, isHex x n s = h → ∃ ρ', bq_readNumber_61 (0:Int32) (bI h) (rf_wl (rf_w ρ2 0 44 (2:Int32)) 0 47 (0:Int64)) = some ρ' ∧ TkQ ρ ρ' x n s := by
      intro h hh
      have hp2 : (if h then s + 2 else s) ≤ n := by
        cases h
        · exact hp'
        · have : s + 2 < n := by unfold isHex at hh; simp at hh; omega
          show s + 2 ≤ n; omega
      have eF : tokF x n s = dl h x n (n - (if h then s + 2 else s)) (if h then s + 2 else s) := by
        unfold tokF; rw [hh]; cases h <;> rfl
      have hl : (tokF x n s).length ≤ n - (if h then s + 2 else s) := by rw [eF]; exact dl_len _ _
      have e61 : bq_readNumber_61 (0:Int32) (bI h) (rf_wl (rf_w ρ2 0 44 (2:Int32)) 0 47 (0:Int64)) = bq_readNumber_76 (0:Int32) (bI h) (rf_w (rf_wl (rf_w ρ2 0 44 (2:Int32)) 0 47 (0:Int64)) 0 48 (nI (if h then s + 2 else s))) := by
        unfold bq_readNumber_61
        cases h
        · rw [if_pos (show bI false = 0 from rfl), show (if (false : Bool) = true then s + 2 else s) = s from rfl, wq_id b48]
        · rw [if_neg (show ¬ bI true = 0 by decide), vl_eq, b48, show nI s + (2:Int32) = nI (s + 2) from n_add s 2]; rfl
      rw [e61]
      unfold bq_readNumber_76
      have := q_num (h := h) T3 (n - (if h then s + 2 else s)) (if h then s + 2 else s) 0 (0:Int64) rfl hp2 (by omega)
      rw [show ((0:Int32), rf_w (rf_wl (rf_w ρ2 0 44 (2:Int32)) 0 47 (0:Int64)) 0 48 (nI (if h then s + 2 else s))) = (nI 0, rf_w (rf_wl (rf_w ρ2 0 44 (2:Int32)) 0 47 (0:Int64)) 0 48 (nI (if h then s + 2 else s))) from rfl, this, Option.bind_some, ← eF, Nat.zero_add]
      show ∃ ρ', bq_readNumber_168 (nI (tokF x n s).length) (bI h) (rf_w (rf_wl (rf_w ρ2 0 44 (2:Int32)) 0 47 (valF h 0 ((tokF x n s).take 12))) 0 48 (nI ((if h then s + 2 else s) + (tokF x n s).length))) = some ρ' ∧ _
      rw [hh] at eK eE
      have t : ∀ m, m < 12 → (tokK x n s = if (tokF x n s).length ≤ m then 3 else 7) → ∃ ρ', bq_readNumber_180 (nI (tokF x n s).length) (nI m) (rf_w (rf_wl (rf_w ρ2 0 44 (2:Int32)) 0 47 (valF h 0 ((tokF x n s).take 12))) 0 48 (nI ((if h then s + 2 else s) + (tokF x n s).length))) = some ρ' ∧ TkQ ρ ρ' x n s := by
        intro m hm em
        unfold bq_readNumber_180
        by_cases c8 : (tokF x n s).length ≤ m
        · rw [if_pos ((n_le (by omega) (by omega)).mpr c8), List.take_of_length_le (by omega)]
          rw [if_pos c8] at em
          refine ⟨_, rfl, by rw [q_wk (by decide), q_lI, q_ws, em]; rfl, by rw [q_wk (by decide), q_lI, q_wk (by decide)]; exact a45, fun q => (by rw [em] at q; cases q), fun _ => by rw [q_wL, q_ls]; unfold tokV; rw [hh], by rw [q_ws, eE], fun j h1 h2 h3 => by rw [q_wk h3, q_lI, q_wk h1]; exact af j h2 h3, fun c h => by rw [q_w h, q_lI, q_w h]; exact aq c h, fun c h => by rw [q_wL, q_l h, q_wL, al]⟩
        · rw [if_neg (fun w => c8 ((n_le (by omega) (by omega)).mp w)), vl_eq]
          rw [if_neg c8] at em
          refine ⟨_, rfl, by rw [q_ws, em]; rfl, by rw [q_wk (by decide), q_wk (by decide), q_lI, q_wk (by decide)]; exact a45, fun q => (by rw [em] at q; cases q), fun q => (by rw [em] at q; cases q), by rw [q_wk (by decide), q_ws, eE], fun j h1 h2 h3 => by rw [q_wk h1, q_wk h3, q_lI, q_wk h1]; exact af j h2 h3, fun c h => by rw [q_w h, q_w h, q_lI, q_w h]; exact aq c h, fun c h => by rw [q_wL, q_wL, q_l h, q_wL, al]⟩
      unfold bq_readNumber_168
      cases h
      · exact t 10 (by omega) eK
      · exact t 8 (by omega) eK
    have rn : ∃ ρ', (bd2 (some (nI (x s), rf_wl (rf_w ρ2 0 44 (2:Int32)) 0 47 (0:Int64))) (fun r_4 ρ_3 => (if r_4 = (48:Int32) then bd2 (fq_octet ((ρ_3.1 0 48) + (1:Int32)) ρ_3) (fun r_23 ρ_22 => (if r_23 = (120:Int32) then bd2 (fq_octet ((ρ_22.1 0 48) + (2:Int32)) ρ_22) (fun r_25 ρ_24 => bd2 (fq_hexOf r_25 ρ_24) (fun r_27 ρ_26 => (if r_27 < 0 then bq_readNumber_60 (0:Int32) ρ_26 else bq_readNumber_61 (0:Int32) (1:Int32) ρ_26))) else bq_readNumber_60 (0:Int32) ρ_22)) else bq_readNumber_60 (0:Int32) ρ_3))) = some ρ' ∧ TkQ ρ ρ' x n s := by
      rw [bd2_eq, b48, show nI s + (1:Int32) = nI (s + 1) from n_add s 1, T4.oct (show s + 1 ≤ 6010 by omega), bd2_eq]
      unfold bq_readNumber_60
      by_cases d2 : x s = 48
      rotate_left
      · rw [if_neg (show ¬ nI (x s) = (48:Int32) from fun q => d2 ((oc_eq (b := 48) b (by omega)).mp q))]
        exact t61 false (by unfold isHex; simp [d2])
      rw [if_pos (show nI (x s) = (48:Int32) from (oc_eq (b := 48) b (by omega)).mpr d2)]
      by_cases d3 : s + 1 < n ∧ x (s + 1) = 120
      rotate_left
      · rw [if_neg (show ¬ oc x n (s + 1) = (120:Int32) from fun q => d3 ((oc_or (s + 1) 120 (T.b _) (by omega)).mp q))]
        refine t61 false ?_
        cases e : isHex x n s
        · rfl
        · exfalso; apply d3; unfold isHex at e; simp at e; exact ⟨by omega, e.1.2⟩
      rw [if_pos (show oc x n (s + 1) = (120:Int32) from (oc_or (s + 1) 120 (T.b _) (by omega)).mpr d3), b48, show nI s + (2:Int32) = nI (s + 2) from n_add s 2, T4.oct (show s + 2 ≤ 6010 by omega), bd2_eq]
      by_cases d1 : s + 2 < n
      · rw [oc_in d1, q_hx' (T.b _), bd2_eq]
        by_cases d4 : hx (x (s + 2)) = true
        · rw [if_pos d4, if_neg (fv_nn (h := true) d4).1]
          exact t61 true (by unfold isHex; simp [d2, d3.2, d4]; omega)
        · rw [if_neg d4, if_pos (by decide)]
          exact t61 false (by unfold isHex; simp [d4])
      · rw [oc_out d1, (q_m1 _).2.2, bd2_eq, if_pos (by decide)]
        exact t61 false (by unfold isHex; simp; omega)
    obtain ⟨ρ', e', k'⟩ := rn
    refine ⟨ρ', ?_, k'⟩
    rw [b48, T4.oct (by omega), oc_in hs, e', bd1_eq]
  · rw [if_pos (bI_0.mpr (by cases e : fg (x s); rfl; exact absurd e g))]
    have eK : tokK x n s = sgn (x s) := by unfold tokK; rw [if_neg cn, if_neg l, if_neg g]
    have eE : tokE x n s = s + 1 := by unfold tokE; rw [if_neg cn, if_neg l, if_neg g]
    obtain ⟨s8, s0, s2, s3⟩ := sgn_le (x s)
    have t105 : ∀ v : Int32, v = nI (qk (sgn (x s))) → ∃ ρ', bq_next_105 v ρ2 = some ρ' ∧ TkQ ρ ρ' x n s := by
      intro v hv
      unfold bq_next_105
      rw [vl_eq, vl_eq, q_wk (show (48:Nat) ≠ 44 by decide), a48, show nI s + (1:Int32) = nI (s + 1) from n_add s 1]
      refine ⟨_, rfl, by rw [q_wk (by decide), q_ws, eK, hv], by rw [q_wk (by decide), q_wk (by decide)]; exact a45, fun q => absurd (eK.symm.trans q) s2, fun q => absurd (eK.symm.trans q) s3, by rw [q_ws, eE], fun j h1 h2 h3 => by rw [q_wk h3, q_wk h1]; exact af j h2 h3, fun c h => by rw [q_w h, q_w h]; exact aq c h, fun c h => by rw [q_wL, q_wL, al]⟩
    have eq := qk_sgn (x s)
    have l : ∀ d, d < 256 → (nI (x s) = nI d ↔ x s = d) := fun d hd => oc_eq b hd
    by_cases c1 : x s = 44
    · rw [if_pos (show nI (x s) = (44:Int32) from (l 44 (by omega)).mpr c1)]
      rw [if_pos c1] at eq; exact t105 _ (by rw [← eq]; rfl)
    rw [if_neg (show ¬ nI (x s) = (44:Int32) from fun q => c1 ((l 44 (by omega)).mp q))]
    rw [if_neg c1] at eq
    by_cases c2 : x s = 58
    · rw [if_pos (show nI (x s) = (58:Int32) from (l 58 (by omega)).mpr c2)]
      rw [if_pos c2] at eq; exact t105 _ (by rw [← eq]; rfl)
    rw [if_neg (show ¬ nI (x s) = (58:Int32) from fun q => c2 ((l 58 (by omega)).mp q))]
    rw [if_neg c2] at eq
    by_cases c3 : x s = 45
    · rw [if_pos (show nI (x s) = (45:Int32) from (l 45 (by omega)).mpr c3)]
      rw [if_pos c3] at eq; exact t105 _ (by rw [← eq]; rfl)
    rw [if_neg (show ¬ nI (x s) = (45:Int32) from fun q => c3 ((l 45 (by omega)).mp q))]
    rw [if_neg c3] at eq
    by_cases c4 : x s = 10
    · rw [if_pos (show nI (x s) = (10:Int32) from (l 10 (by omega)).mpr c4)]
      rw [if_pos c4] at eq; exact t105 _ (by rw [← eq]; rfl)
    rw [if_neg (show ¬ nI (x s) = (10:Int32) from fun q => c4 ((l 10 (by omega)).mp q))]
    rw [if_neg c4] at eq; exact t105 _ (by rw [← eq]; rfl)
end Z2_Z6
