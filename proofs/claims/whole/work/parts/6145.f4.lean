section Z2_F4
variable {ρ ρ' : rf_S}
/-! LAYER 2: the reference's constructor -/
theorem nmq_st : ∀ op, op < 42 → ∀ j, j < (opN op).length → rn_tab.getD (nfr op + j) 0 ≠ (32:Int32) ∧ ((Int64.ofNat (enc 128 ((opN op).take j)) <<< ((7:Int32).toInt64 &&& 63)) ||| ((rn_tab.getD (nfr op + j) 0).toInt64)) = Int64.ofNat (enc 128 ((opN op).take (j + 1))) := by decide +kernel
theorem nmq_en : ∀ op, op < 42 → nfr op + (opN op).length < 188 ∧ (0 < op → rn_tab.getD (nfr op + (opN op).length) 0 = (32:Int32)) ∧ (opN op).length ≤ 6 := by decide +kernel
theorem nmq_nx : ∀ op, op < 41 → 0 < op → nfr (op + 1) = nfr op + (opN op).length + 1 := by decide +kernel
theorem q_nm1 {l : List Nat} {u : Nat} {x2 : Int32} (hu : u + l.length < 188) (hs : ∀ j, j < l.length → rn_tab.getD (u + j) 0 ≠ (32:Int32) ∧ ((Int64.ofNat (enc 128 (l.take j)) <<< ((7:Int32).toInt64 &&& 63)) ||| ((rn_tab.getD (u + j) 0).toInt64)) = Int64.ofNat (enc 128 (l.take (j + 1)))) (he : rn_tab.getD (u + l.length) 0 = (32:Int32)) :
    ∀ n j, j + n = l.length → lp (fun z : (Int32 × Int64 × rf_S) => lq_init_718i703 x2 z.1 z.2.1 z.2.2) (nI (u + j), Int64.ofNat (enc 128 (l.take j)), ρ) = some (nI (u + l.length), Int64.ofNat (enc 128 l), ρ) := by
  intro n
  induction n with
  | zero =>
    intro j hj
    have hj' : j = l.length := by omega
    subst hj'
    refine lp_end ?_
    show lq_init_718i703 x2 (nI (u + l.length)) _ ρ = _
    unfold lq_init_718i703
    rw [n_ix (show u + l.length < 188 from hu) (by omega), vln, n_cl (show u + l.length < 2147483648 by omega), if_pos he, List.take_length]
  | succ n ih =>
    intro j hj
    obtain ⟨h1, h2⟩ := hs j (by omega)
    refine (lp_next (s' := (nI (u + (j + 1)), Int64.ofNat (enc 128 (l.take (j + 1))), ρ)) ?_).trans (ih (j + 1) (by omega))
    show lq_init_718i703 x2 (nI (u + j)) _ ρ = _
    unfold lq_init_718i703
    rw [n_ix (show u + j < 188 by omega) (by omega), vln, n_cl (show u + j < 2147483648 by omega), if_neg h1, n_ix (show u + j < 188 by omega) (by omega), vln, vln, vln, h2, show nI (u + j) + (1:Int32) = nI (u + (j + 1)) from n_add (u + j) 1]
/-- what the names' loop has done so far -/
def NmI (ρ ρ' : rf_S) (n : Nat) : Prop := (∀ c, c ≠ 14 → c ≠ 15 → ρ'.1 c = ρ.1 c) ∧ (∀ c, c ≠ 13 → ρ'.2 c = ρ.2 c) ∧ (∀ op, 0 < op → op < n → ρ'.2 13 op = Int64.ofNat (enc 128 (opN op)) ∧ ρ'.1 14 op = nI (nfr op) ∧ ρ'.1 15 op = nI (nfr op + (opN op).length))
theorem NmI.o {ρ ρ' : rf_S} {n : Nat} (hS : NmI ρ ρ' n) : ∀ c, c ≠ 14 → c ≠ 15 → ρ'.1 c = ρ.1 c := hS.1
theorem NmI.l {ρ ρ' : rf_S} {n : Nat} (hS : NmI ρ ρ' n) : ∀ c, c ≠ 13 → ρ'.2 c = ρ.2 c := hS.2.1
theorem NmI.d {ρ ρ' : rf_S} {n : Nat} (hS : NmI ρ ρ' n) : ∀ op, 0 < op → op < n → ρ'.2 13 op = Int64.ofNat (enc 128 (opN op)) ∧ ρ'.1 14 op = nI (nfr op) ∧ ρ'.1 15 op = nI (nfr op + (opN op).length) := hS.2.2
theorem NmI.step {u op : Nat} {e : Int64} {v : Nat} (h : NmI ρ ρ' op) (hu : u = nfr op) (he : e = Int64.ofNat (enc 128 (opN op))) (hv : v = nfr op + (opN op).length) : NmI ρ (rf_wl (rf_w (rf_w ρ' 14 op (nI u)) 15 op (nI v)) 13 op e) (op + 1) := by
  refine ⟨?_, ?_, ?_⟩
  · intro c h1 h2
    show (rf_w (rf_w ρ' 14 op (nI u)) 15 op (nI v)).1 c = _
    rw [q_w h2, q_w h1]; exact h.o c h1 h2
  · intro c hc
    funext j
    show up2 ρ'.2 13 op e c j = _
    unfold up2
    rw [if_neg (fun q => hc q.1), h.l c hc]
  · intro o h1 h2
    show up2 ρ'.2 13 op e 13 o = _ ∧ (rf_w (rf_w ρ' 14 op (nI u)) 15 op (nI v)).1 14 o = _ ∧ (rf_w (rf_w ρ' 14 op (nI u)) 15 op (nI v)).1 15 o = _
    by_cases q : o = op
    · subst q
      refine ⟨?_, ?_, ?_⟩
      · unfold up2; rw [if_pos ⟨rfl, rfl⟩]; exact he
      · rw [q_w (by decide), q_ws, hu]
      · rw [q_ws, hv]
    · obtain ⟨a, b, d⟩ := h.d o h1 (by omega)
      refine ⟨?_, ?_, ?_⟩
      · unfold up2; rw [if_neg (fun w => q w.2)]; exact a
      · rw [q_w (by decide), q_wk q]; exact b
      · rw [q_wk q, q_w (by decide)]; exact d
theorem q_nms : ∀ n op (x1 : Int32) (ρ' : rf_S), op + n = 42 → 0 < op → (op < 42 → x1 = nI (nfr op)) → NmI ρ ρ' op → ∃ z, lp (fun z : (Int32 × Int32 × rf_S) => lq_init_703 z.1 z.2.1 z.2.2) (x1, nI op, ρ') = some z ∧ NmI ρ z.2.2 42 := by
  intro n
  induction n with
  | zero =>
    intro op x1 ρ' hn ho hx h
    have ho' : op = 42 := by omega
    subst ho'
    refine ⟨(x1, nI 42, ρ'), lp_end ?_, h⟩
    show lq_init_703 x1 (nI 42) ρ' = _
    unfold lq_init_703
    rw [if_pos (show (41:Int32) < nI 42 by decide)]
  | succ n ih =>
    intro op x1 ρ' hn ho hx h
    have hop : op < 42 := by omega
    have ex := hx hop
    obtain ⟨e1, e2, e3⟩ := nmq_en op hop
    have S := nmq_st op hop
    have e2' := e2 ho
    have nx : op < 41 → nI (nfr op + (opN op).length + 1) = nI (nfr (op + 1)) := fun q => by rw [nmq_nx op q ho]
    have st : ∀ {v : Nat} {e : Int64}, e = Int64.ofNat (enc 128 (opN op)) → v = nfr op + (opN op).length → NmI ρ (rf_wl (rf_w (rf_w ρ' 14 op (nI (nfr op))) 15 op (nI v)) 13 op e) (op + 1) := fun he hv => h.step rfl he hv
    generalize nfr op = u at *
    generalize opN op = l at *
    obtain ⟨z, hz, hz'⟩ := ih (op + 1) (nI (u + l.length + 1)) (rf_wl (rf_w (rf_w ρ' 14 op (nI u)) 15 op (nI (u + l.length))) 13 op (Int64.ofNat (enc 128 l))) (by omega) (by omega) (fun q => nx (by omega)) (st rfl rfl)
    refine ⟨z, (lp_next ?_).trans hz, hz'⟩
    show lq_init_703 x1 (nI op) ρ' = _
    unfold lq_init_703 bq_init_718i703
    rw [if_neg (show ¬ (41:Int32) < nI op from fun w => by have := (n_lt (a := 41) (b := op) (by omega) (by omega)).mp w; omega), n_ix hop (by omega), vln, n_cl (show op < 2147483648 by omega), ex]
    have E := q_nm1 (ρ := rf_w ρ' 14 op (nI u)) (x2 := nI op) e1 S e2' l.length 0 (by omega)
    rw [show lp (fun z : (Int32 × Int64 × rf_S) => lq_init_718i703 (nI op) z.1 z.2.1 z.2.2) (nI u, (0:Int64), rf_w ρ' 14 op (nI u)) = _ from E, Option.bind_some]
    show eq_init_718i703 (nI op) (nI (u + l.length)) (Int64.ofNat (enc 128 l)) (rf_w ρ' 14 op (nI u)) = _
    unfold eq_init_718i703
    rw [n_ix hop (by omega), vln, n_cl (show op < 2147483648 by omega), n_ix hop (by omega), vln, vln, vln, show nI (u + l.length) + (1:Int32) = nI (u + l.length + 1) from n_add (u + l.length) 1, show nI op + (1:Int32) = nI (op + 1) from n_add op 1]
/-- rows of -1 -/
def qF (ρ : rf_S) (c n : Nat) : rf_S := (fun b j => if b = c ∧ j < n then (-1:Int32) else ρ.1 b j, ρ.2)
theorem qF_0 (ρ : rf_S) (c : Nat) : qF ρ c 0 = ρ := by
  refine Prod.ext ?_ rfl
  funext b j
  exact if_neg (fun q => by omega)
theorem qF_s (ρ : rf_S) (c n : Nat) : rf_w (qF ρ c n) c n (-1) = qF ρ c (n + 1) := by
  refine Prod.ext ?_ rfl
  funext b j
  show up2 (qF ρ c n).1 c n (-1) b j = if b = c ∧ j < n + 1 then (-1:Int32) else ρ.1 b j
  unfold up2
  show (if b = c ∧ j = n then (-1:Int32) else if b = c ∧ j < n then (-1:Int32) else ρ.1 b j) = _
  by_cases q1 : b = c ∧ j = n
  · rw [if_pos q1, if_pos ⟨q1.1, by omega⟩]
  · rw [if_neg q1]
    by_cases q2 : b = c ∧ j < n
    · rw [if_pos q2, if_pos ⟨q2.1, by omega⟩]
    · rw [if_neg q2, if_neg (fun w => by
        by_cases q3 : j = n
        · exact q1 ⟨w.1, q3⟩
        · exact q2 ⟨w.1, by omega⟩)]
theorem qF_o {c n b : Nat} (h : b ≠ c) : (qF ρ c n).1 b = ρ.1 b := by
  funext j
  exact if_neg (fun q => h q.1)
theorem qF_i {c n j : Nat} (h : j < n) : (qF ρ c n).1 c j = -1 := if_pos ⟨rfl, h⟩
theorem q_f11 (ρ : rf_S) : lp (fun z : (Int32 × rf_S) => lq_init_679 z.1 z.2) ((0:Int32), ρ) = some (nI 16384, qF ρ 11 16384) := by
  obtain ⟨τ', e, H⟩ := lp_cnt (S := rf_S) (f := fun x ρ => lq_init_679 x ρ) (n := 16384) (fun i τ' => τ' = qF ρ 11 i) (by
    rintro i _ hi rfl
    refine ⟨_, ?_, rfl⟩
    show lq_init_679 (nI i) _ = _
    unfold lq_init_679
    rw [if_neg (show ¬ (16384:Int32) ≤ nI i from fun w => by have := (n_le (a := 16384) (b := i) (by omega) (by omega)).mp w; omega), n_ix hi (by omega), vln, n_cl (show i < 2147483648 by omega), vln, qF_s, show nI i + (1:Int32) = nI (i + 1) from n_add i 1]) (by
    rintro _ rfl
    show lq_init_679 (nI 16384) _ = _
    unfold lq_init_679
    rw [if_pos (show (16384:Int32) ≤ nI 16384 from Int32.le_refl _)]) 16384 0 ρ (by omega) (by omega) (qF_0 ρ 11).symm
  exact e.trans (by rw [H])
theorem q_f75 (ρ : rf_S) : lp (fun z : (Int32 × rf_S) => lq_init_775 z.1 z.2) ((0:Int32), ρ) = some (nI 128, qF ρ 75 128) := by
  obtain ⟨τ', e, H⟩ := lp_cnt (S := rf_S) (f := fun x ρ => lq_init_775 x ρ) (n := 128) (fun i τ' => τ' = qF ρ 75 i) (by
    rintro i _ hi rfl
    refine ⟨_, ?_, rfl⟩
    show lq_init_775 (nI i) _ = _
    unfold lq_init_775
    rw [if_neg (show ¬ (128:Int32) ≤ nI i from fun w => by have := (n_le (a := 128) (b := i) (by omega) (by omega)).mp w; omega), n_ix hi (by omega), vln, n_cl (show i < 2147483648 by omega), vln, qF_s, show nI i + (1:Int32) = nI (i + 1) from n_add i 1]) (by
    rintro _ rfl
    show lq_init_775 (nI 128) _ = _
    unfold lq_init_775
    rw [if_pos (show (128:Int32) ≤ nI 128 from Int32.le_refl _)]) 128 0 ρ (by omega) (by omega) (qF_0 ρ 75).symm
  exact e.trans (by rw [H])
/-- a term of a kind that was not there -/
theorem q_tnew {N k : Nat} {a b c : Int32} (Q : RSt0 ρ N) (hN : N < 100) (hk : k < 10) (k1 : k ≠ 1) (hs : ∀ E, rsh E N k a b c) (hn : ∀ t, t < N → ρ.1 1 t ≠ nI k) : ∃ ρ' m, fq_term (nI k) a b c ρ = some (nI N, ρ') ∧ AddQ ρ ρ' N (nI k) a b c m ∧ RSt0 ρ' (N + 1) := by
  have hk' : nI k ≠ nI 1 := fun q => k1 ((n_eq (by omega) (by omega)).mp q)
  have no : ∀ t, t < N → ¬ kyQ ρ t (nI k) a b c := fun t ht q => hn t ht q.1
  obtain ⟨m, hm, em⟩ := hQ_lt (nI k) a b c
  rcases q_peek Q (nI k) a b c hk' with ⟨t, ht, q, -⟩ | ⟨-, v, hv, e⟩
  · exact absurd q (no t ht)
  · obtain ⟨ρ', e', A⟩ := q_add Q.n.1 (show N < 112000 by omega) hk a b c hm
    refine ⟨ρ', m, ?_, A, q_add_st Q (by omega) hk (fun E _ _ => hs E) hm (Or.inl ⟨k1, em⟩) (fun _ => no) A⟩
    unfold fq_term bq_term_0
    rw [e, bd2n, if_pos hv, q_hash, bd2n, em, e', bd2n]
end Z2_F4
