section Z2_GP
variable {K : Bd} {W W' : Wd} {b : Bool} {k s p : Nat} {σ σ' : cl_S} {ρ ρ' : rf_S}
theorem OthA.fr0 (h : OthA σ ρ) (hI : ∀ b, b ≠ 0 → b < 31 → σ'.1 b = σ.1 b) (h0 : σ'.1 0 4 = σ.1 0 4) (hq : ∀ c, 12 < c → c < 28 → ρ'.1 c = ρ.1 c) (hf : ∀ j, j = 26 ∨ j = 28 ∨ j = 41 ∨ j = 43 → ρ'.1 0 j = ρ.1 0 j) : OthA σ' ρ' := by
  refine ⟨?_, ?_, ?_, ?_, ?_⟩
  · rw [hI 1 (by omega) (by omega), hI 2 (by omega) (by omega), hq 16 (by omega) (by omega), hf 26 (by omega)]; exact h.tx
  · rw [h0, hI 18 (by omega) (by omega), hq 17 (by omega) (by omega), hf 28 (by omega)]; exact h.rw
  · intro i hi; rw [hI 30 (by omega) (by omega), hI (20 + i) (by omega) (by omega), hq 26 (by omega) (by omega), hq 27 (by omega) (by omega)]; exact h.kp i hi
  · rw [hI 6 (by omega) (by omega), hI 14 (by omega) (by omega), hq 25 (by omega) (by omega), hf 43 (by omega)]; exact h.sh
  · rw [hI 6 (by omega) (by omega), hf 41 (by omega)]; exact h.pl
/-- a boot that is not refused -/
theorem bt_ok {sp n m t : Nat} {bs sz ar fr to ln who stp len : Nat → Nat} (h : Rel (KB k 0) W false k σ ρ) (hk : k < 64) (off : ρ.1 0 51 = 0) (esp : sp = 362 - W.cf) (hn1 : 1 ≤ n) (hn8 : n ≤ 8) (hm : m ≤ 16) (ht1 : 1 ≤ t) (ht : t ≤ 32) (c0 : σ.1 sp 0 = nI n) (c5 : σ.1 sp 5 = nI m) (c9 : σ.1 sp 9 = nI t) (q6 : ρ.1 79 196 = nI n) (q7 : ρ.1 79 197 = nI m) (q8 : ρ.1 79 198 = nI t) (P : PI sp n bs sz ar σ ρ) (C : CI sp m n fr to ln σ ρ) (S : SI sp t n who stp σ ρ) (hl : ∀ i, i < 10 → len i ≤ kap i ∧ σ.1 30 i = nI (len i) ∧ ρ.1 27 i = nI (len i) ∧ ∀ j, j < len i → σ.1 (20 + i) j = ρ.1 26 (kat i + j)) (im : ∀ q, q < n → 0 < len q ∧ len q ≤ sz q) (x y : Int32) : CO k (ec_X11_boot_66 0 x σ) (eq_boot_47 y ρ) := by
  have hcf := h.cf.cf
  have hsp : sp = 48 ∨ sp = 314 := by omega
  obtain ⟨nb, b1, b2, b3, E, b4, b5⟩ := h.oB.bt
  rw [off, if_pos rfl] at b3
  have B := h.bd
  have Bn := B.n
  have Bl := B.l
  have Bc := B.c
  have Bs := B.s
  rw [if_neg (by decide)] at Bn Bl
  rw [KB_n] at Bn
  rw [KB_l] at Bl
  rw [KB_c] at Bc
  rw [KB_s] at Bs
  have l8 : len 8 ≤ 256 := (hl 8 (by omega)).1
  have l9 : len 9 ≤ 200 := (hl 9 (by omega)).1
  have lq : ∀ q, q < 8 → len q ≤ 2048 := fun q hq => by have := (hl q (by omega)).1; unfold kap at this; rw [if_pos hq] at this; exact this
  have as8 : asum len n ≤ 2048 * n := by
    have : ∀ i, i ≤ 8 → asum len i ≤ 2048 * i := by
      intro i
      induction i with
      | zero => intro _; exact Nat.le_refl _
      | succ i ih =>
        intro hi
        have := ih (by omega)
        have := lq i (by omega)
        show asum len i + len i ≤ _
        omega
    exact this n hn8
  -- the class: the disk, the machine
  obtain ⟨σ3, e3, i3, v3, L3, T3, r3, w3⟩ := c_cpd (σ := cl_w σ 0 14 (nI (nb + 1))) (a := 44) (d := 41) (by omega)
  have I3 : ∀ d, d ≠ 0 → d ≠ 45 → σ3.1 d = σ.1 d := fun d h1 h2 => by rw [i3 d h2, r_w h1]
  have R3 : ∀ d, d ≠ 46 → σ3.2.2.1 d = σ.2.2.1 d := fun d h1 => r3 d h1
  have T3' : σ3.2.2.2 = σ.2.2.2 := T3
  have L3' : σ3.2.1 = σ.2.1 := L3
  have St3 : Stc σ3 := h.st.fr (R3 19 (by decide)) (fun s' hs' => ⟨R3 _ (by omega), R3 _ (by omega), by rw [R3 _ (by omega)]⟩) (fun a _ => by rw [T3']) (fun s' p' hs' hp' => ⟨by rw [I3 _ (by omega) (by omega)], fun j hj => by rw [I3 _ (by omega) (by omega)]⟩) (by rw [I3 179 (by decide) (by decide)]; exact h.st.re)
  obtain ⟨σ4, e4, G⟩ := c_begin (σ := σ3) (s := 0) (cf := sp) (np := n) (sz := sz) St3 (by omega) hsp hn8 (by rw [I3 sp (by omega) (by omega)]; exact c0) (fun p hp => by rw [I3 (sp + 2) (by omega) (by omega)]; exact (P.v p hp).2.2.1)
  have I5 : ∀ d, d ≠ 0 → d ≠ 45 → d ≠ 47 → (d < 61 ∨ 77 < d) → (d < 83 ∨ 179 ≤ d) → σ4.1 d = σ.1 d := fun d h1 h2 h3 h4 h5 => by rw [G.o d (by omega) (by omega) (by omega), I3 d h1 h2]
  have R5 : ∀ d, d ≠ 0 → d ≠ 46 → d ≠ 47 → d ≠ 78 → (cl_wr σ4 0 13 (some W.cf)).2.2.1 d = σ.2.2.1 d := fun d h1 h2 h3 h4 => by rw [r_r h1, G.r d (by omega) (by omega), R3 d h2]
  have T5 : (cl_wr σ4 0 13 (some W.cf)).2.2.2 = σ.2.2.2 := by show σ4.2.2.2 = _; rw [G.T, T3']
  have L5 : (cl_wr σ4 0 13 (some W.cf)).2.1 = σ.2.1 := by show σ4.2.1 = _; rw [G.L, L3']
  have J5 : ∀ d, (cl_wr σ4 0 13 (some W.cf)).1 d = σ4.1 d := fun d => rfl
  -- the reference: the config
  obtain ⟨ρ2, eq2, q2, l2, f2, cfg⟩ := tk_all (σ := σ) (ρ := ρ) hsp hn1 hn8 hm ht1 ht c0 c5 c9 q6 q7 q8 P C S
  have T5' : TermR W.n0 (cl_wr σ4 0 13 (some W.cf)) ρ2 W.ts W.tm W.N := h.T.sm ⟨fun d hd => ⟨by rw [J5]; exact I5 d (by omega) (by omega) (by omega) (by omega) (by omega), R5 d (by omega) (by omega) (by omega) (by omega)⟩, T5⟩ (fun c h1 h2 => q2 c (by omega) (by omega)) (fun j hj => f2 j (by omega) (by omega) (by omega))
  have n55 : ρ2.1 0 55 = nI n := (cfg W).np.2.2
  -- the boot's own term
  obtain ⟨σ6, ρ6, ts6, tm6, N6, tb, eH, qH, htb, S6⟩ := ms_head (n8 := len 8) (n9 := len 9) (E := E) T5' (h.n0 rfl) (fun i hi => by rw [R5 19 (by decide) (by decide) (by decide) (by decide), T5]; exact h.st.kp i hi) l8 l9 (by rw [J5, I5 30 (by decide) (by decide) (by decide) (by omega) (by omega)]; exact (hl 8 (by omega)).2.1) (by rw [J5, I5 30 (by decide) (by decide) (by decide) (by omega) (by omega)]; exact (hl 9 (by omega)).2.1) (by rw [q2 27 (by decide) (by omega)]; exact (hl 8 (by omega)).2.2.1) (by rw [q2 27 (by decide) (by omega)]; exact (hl 9 (by omega)).2.2.1) (fun j hj => by rw [J5, I5 28 (by decide) (by decide) (by decide) (by omega) (by omega), q2 26 (by decide) (by omega)]; exact (hl 8 (by omega)).2.2.2 j hj) (fun j hj => by rw [J5, I5 29 (by decide) (by decide) (by decide) (by omega) (by omega), q2 26 (by decide) (by omega)]; exact (hl 9 (by omega)).2.2.2 j hj) (by rw [f2 18 (by decide) (by decide) (by decide)]; exact b4) (by omega) ⟨by omega, by rw [show (cl_wr σ4 0 13 (some W.cf)).2.2.2.2.2.1 = σ.2.2.2.2.2.1 from by rw [T5]]; omega, by rw [show (cl_wr σ4 0 13 (some W.cf)).2.2.2.2.2.2 = σ.2.2.2.2.2.2 from by rw [T5]]; omega⟩
  have S6' := S6 (fun _ => False) (fun _ => False) (fun _ => False)
  have Rm6 : Rm σ6 N6 (6 * n) (8 * n) (112 * n + asum len n) := Rm.go (e0 := 6) (g := 6) (c := 2) (d := len 8 + len 9) ⟨by omega, by rw [show (cl_wr σ4 0 13 (some W.cf)).2.2.2.2.2.1 = σ.2.2.2.2.2.1 from by rw [T5]]; omega, by rw [show (cl_wr σ4 0 13 (some W.cf)).2.2.2.2.2.2 = σ.2.2.2.2.2.2 from by rw [T5]]; omega⟩ S6'
  obtain ⟨E6, e18, hE6⟩ := S6'.e E (by rw [f2 18 (by decide) (by decide) (by decide)]; exact b4)
  have I6 : ∀ d, (d < 31 ∨ 37 < d) → d < 325 → σ6.1 d = σ4.1 d := fun d h1 h2 => S6'.F.I d (fun q => q) h1 h2
  have R6 : ∀ d, (d < 31 ∨ 37 < d) → d < 325 → σ6.2.2.1 d = (cl_wr σ4 0 13 (some W.cf)).2.2.1 d := fun d h1 h2 => S6'.F.R d (fun q => q) h1 h2
  have tp5 := T5'.C.top
  have cp4 : σ4.2.2.1 47 3 = some sp := G.rm 3
  obtain ⟨σ7, ρ7, ts7, tm7, N7, eA, qA, A⟩ := ms_all (tb := tb) (cf := sp) (np := n) (E := E6) (len := len) S6'.T (h.n0 rfl) htb hsp (by rw [R6 47 (by omega) (by omega), r_r (by decide)]; exact cp4) (by rw [I6 sp (by omega) (by omega), I5 sp (by omega) (by omega) (by omega) (by omega) (by omega)]; exact c0) (by rw [S6'.f 55 (by decide) (by decide) (by decide) (by decide) (by decide) (by decide) (by decide)]; exact n55) hn8 (fun p hp => by rw [R6 59 (by omega) (by omega), R5 59 (by decide) (by decide) (by decide) (by decide)]; exact (h.st.pp 0 p (by omega) hp).trans (congrArg some (by omega))) (fun p hp => by rw [R6 19 (by omega) (by omega), R5 19 (by decide) (by decide) (by decide) (by decide), S6'.F.T (20 + p) (by omega), T5]; exact h.st.kp p hp) (fun p hp => by
      obtain ⟨z1, z2, z3, z4⟩ := hl p (by omega)
      unfold kat at z4
      rw [if_pos hp] at z4
      rw [I6 30 (by omega) (by omega), I5 30 (by decide) (by decide) (by decide) (by omega) (by omega), S6'.q 27 (by omega) (by omega) (by omega), q2 27 (by decide) (by omega), I6 (20 + p) (by omega) (by omega), I5 (20 + p) (by omega) (by omega) (by omega) (by omega) (by omega), S6'.q 26 (by omega) (by omega) (by omega), q2 26 (by decide) (by omega)]
      exact ⟨lq p hp, z2, z3, z4⟩) e18 (by omega) Rm6
  have T7 := A.S.T
  -- the images in the reference
  have imf : ∀ p, p < n → ∃ u o, u < N7 ∧ ρ7.1 38 p = nI u ∧ ρ7.1 3 u = nI (len p) ∧ ρ7.1 2 u = nI o ∧ o + len p ≤ 690000 ∧ ∀ j, j < 2048 → σ7.1 (85 + 12 * p) j = if j < len p then ρ7.1 12 (o + j) else 0 := by
    intro p hp
    obtain ⟨f, M, v⟩ := A.M p hp
    obtain ⟨u, h1, h2, h3, h4, h5⟩ := M.im
    have k1 : ρ7.1 1 u = nI 1 := by rw [← T7.L.kd u h1]; exact h4
    obtain ⟨E0, -, hE0, kd⟩ := T7.Q.e
    obtain ⟨kk, hkk, ek, rs⟩ := kd u h1
    have kk1 : kk = 1 := (n_eq (by omega) (by omega)).mp (ek.symm.trans k1)
    subst kk1
    unfold rsh at rs
    rw [if_neg (by omega), if_pos rfl] at rs
    obtain ⟨o, l, f2', f3', f4', hol, hl'⟩ := rs
    obtain ⟨el, eg⟩ := (T7.L.rw u o l h1 k1 f2' f3' (by omega) (by omega)).un h5
    subst el
    refine ⟨u, o, h1, h2, f3', f2', by omega, fun j hj => ?_⟩
    rw [v j]
    by_cases c : j < len p
    · rw [if_pos c, if_pos c]; exact (eg j c).symm
    · rw [if_neg c, if_neg c, I6 _ (by omega) (by omega)]
      have := (G.pa p hp).r85 j hj
      rw [show 85 + 135 * 0 + 12 * p = 85 + 12 * p by omega] at this
      exact this
  have hN7 : N7 ≤ 112000 := T7.Q.n.2
  -- the reference begins
  have fb : ∀ c, c ≠ 0 → (rf_w (rf_w (rf_w (rf_w (rf_w ρ7 0 52 (ρ7.1 0 52 + 1)) 0 51 1) 0 54 0) 0 78 0) 0 79 0).1 c = ρ7.1 c := fun c hc => by rw [q_w hc, q_w hc, q_w hc, q_w hc, q_w hc]
  have fb0 : ∀ j, j ≠ 51 → j ≠ 52 → j ≠ 54 → j ≠ 78 → j ≠ 79 → (rf_w (rf_w (rf_w (rf_w (rf_w ρ7 0 52 (ρ7.1 0 52 + 1)) 0 51 1) 0 54 0) 0 78 0) 0 79 0).1 0 j = ρ7.1 0 j := fun j h1 h2 h3 h4 h5 => by rw [q_wk h5, q_wk h4, q_wk h3, q_wk h1, q_wk h2]
  have b51 : (rf_w (rf_w (rf_w (rf_w (rf_w ρ7 0 52 (ρ7.1 0 52 + 1)) 0 51 1) 0 54 0) 0 78 0) 0 79 0).1 0 51 = 1 := by rw [q_wk (by decide), q_wk (by decide), q_wk (by decide), q_ws]
  have b52 : (rf_w (rf_w (rf_w (rf_w (rf_w ρ7 0 52 (ρ7.1 0 52 + 1)) 0 51 1) 0 54 0) 0 78 0) 0 79 0).1 0 52 = ρ7.1 0 52 + 1 := by rw [q_wk (by decide), q_wk (by decide), q_wk (by decide), q_wk (by decide), q_ws]
  have b54 : (rf_w (rf_w (rf_w (rf_w (rf_w ρ7 0 52 (ρ7.1 0 52 + 1)) 0 51 1) 0 54 0) 0 78 0) 0 79 0).1 0 54 = 0 := by rw [q_wk (by decide), q_wk (by decide), q_ws]
  have b78 : (rf_w (rf_w (rf_w (rf_w (rf_w ρ7 0 52 (ρ7.1 0 52 + 1)) 0 51 1) 0 54 0) 0 78 0) 0 79 0).1 0 78 = 0 := by rw [q_wk (by decide), q_ws]
  have b79 : (rf_w (rf_w (rf_w (rf_w (rf_w ρ7 0 52 (ρ7.1 0 52 + 1)) 0 51 1) 0 54 0) 0 78 0) 0 79 0).1 0 79 = 0 := q_ws
  have bl : (rf_w (rf_w (rf_w (rf_w (rf_w ρ7 0 52 (ρ7.1 0 52 + 1)) 0 51 1) 0 54 0) 0 78 0) 0 79 0).2 = ρ7.2 := rfl
  have eqt : eq_boot_47 y ρ = bd1 (fq_begin (rf_w (rf_w (rf_w (rf_w (rf_w ρ7 0 52 (ρ7.1 0 52 + 1)) 0 51 1) 0 54 0) 0 78 0) 0 79 0)) (fun ρ_11 => bq_boot_154 (0:Int32) ρ_11) := by
    unfold eq_boot_47
    rw [b2, if_neg (show ¬ nI nb = (40:Int32) from fun q => by have := (n_eq (a := nb) (b := 40) (by omega) (by omega)).mp q; omega), eq2, bd1n, qH, qA, bd1n, vln, vln, vln, vln, vln]
  generalize (rf_w (rf_w (rf_w (rf_w (rf_w ρ7 0 52 (ρ7.1 0 52 + 1)) 0 51 1) 0 54 0) 0 78 0) 0 79 0) = ρb at fb fb0 b51 b52 b54 b78 b79 bl eqt
  have p7 : ∀ c, 12 < c → c ≠ 38 → c ≠ 39 → ρ7.1 c = ρ2.1 c := fun c h1 h2 h3 => by rw [A.S.q c h1 h2 h3, S6'.q c h1 h2 h3]
  have f7 : ∀ j, j ≠ 10 → j ≠ 12 → j ≠ 13 → j ≠ 14 → j ≠ 15 → j ≠ 16 → j ≠ 18 → ρ7.1 0 j = ρ2.1 0 j := fun j a1 a2 a3 a4 a5 a6 a7 => by rw [A.S.f j a1 a2 a3 a4 a5 a6 a7, S6'.f j a1 a2 a3 a4 a5 a6 a7]
  have cW := cfg W
  obtain ⟨ρ8, eB, BQ⟩ := q_begin (ρ := ρb) (s := 0) (np := n) (bs := bs) (sz := sz) (len := len) (st := fun p => (ρ7.1 2 (ρ7.1 38 p).toNatClampNeg).toNatClampNeg) (tq := fun p => (ρ7.1 38 p).toNatClampNeg) (by omega) b79 hn8 (by rw [fb0 55 (by decide) (by decide) (by decide) (by decide) (by decide), f7 55 (by decide) (by decide) (by decide) (by decide) (by decide) (by decide) (by decide)]; exact n55) (fun p hp => ⟨(im p hp).2, (P.bd p hp).2.2.1, by rw [fb 28 (by decide), p7 28 (by omega) (by omega) (by omega)]; exact (cW.pa p hp).2.2.2.1⟩) (fun p q hp hq hpq => cW.dj p q hp hq hpq) (fun p hp => by
    obtain ⟨u, o, h1, h2, h3, h4, h5, h6⟩ := imf p hp
    have e1 : (ρ7.1 38 p).toNatClampNeg = u := by rw [h2, n_cl (by omega)]
    have e2 : (ρ7.1 2 u).toNatClampNeg = o := by rw [h4, n_cl (by omega)]
    show (ρ7.1 38 p).toNatClampNeg < 112000 ∧ ρb.1 38 p = nI (ρ7.1 38 p).toNatClampNeg ∧ ρb.1 3 (ρ7.1 38 p).toNatClampNeg = nI (len p) ∧ ρb.1 2 (ρ7.1 38 p).toNatClampNeg = nI (ρ7.1 2 (ρ7.1 38 p).toNatClampNeg).toNatClampNeg ∧ (ρ7.1 2 (ρ7.1 38 p).toNatClampNeg).toNatClampNeg + len p ≤ 690000
    rw [e1, e2, fb 38 (by decide), fb 3 (by decide), fb 2 (by decide)]
    exact ⟨by omega, h2, h3, h4, h5⟩)
  obtain ⟨ρ9, eE, o9, l9', z9, d9⟩ := q_btend (ρ := ρ8)
  have bgo : ∀ c j, (c < 48 ∨ 73 < c) → ρ8.1 c j = ρb.1 c j := fun c j hc => BQ.o c j (fun q => by unfold bgq cnr at q; omega)
  have p9 : ∀ c, c ≠ 0 → (c < 40 ∨ c = 42 ∨ (43 < c ∧ c < 48) ∨ 73 < c) → ρ9.1 c = ρ7.1 c := fun c h1 h2 => by
    rw [o9 c (by omega) (by omega) (by omega), funext (fun j => bgo c j (by omega)), fb c h1]
  have g9 : ∀ j, j ≠ 51 → j ≠ 52 → j ≠ 54 → j ≠ 78 → j ≠ 79 → ρ9.1 0 j = ρ7.1 0 j := fun j h1 h2 h3 h4 h5 => by rw [o9 0 (by decide) (by decide) (by decide), bgo 0 j (by omega), fb0 j h1 h2 h3 h4 h5]
  have h9 : ∀ j, ρ9.1 0 j = ρb.1 0 j := fun j => by rw [o9 0 (by decide) (by decide) (by decide), bgo 0 j (by omega)]
  have r9 : ∀ c, 12 < c → (c < 28 ∨ c = 42 ∨ (43 < c ∧ c < 48) ∨ 73 < c) → ρ9.1 c = ρ.1 c := fun c h1 h2 => by rw [p9 c (by omega) (by omega), p7 c h1 (by omega) (by omega), q2 c (by omega) (by omega)]
  have s9 : ∀ j, j ≠ 51 → j ≠ 52 → j ≠ 54 → j ≠ 78 → j ≠ 79 → j ≠ 10 → j ≠ 12 → j ≠ 13 → j ≠ 14 → j ≠ 15 → j ≠ 16 → j ≠ 18 → j ≠ 55 → j ≠ 60 → j ≠ 64 → ρ9.1 0 j = ρ.1 0 j := fun j a1 a2 a3 a4 a5 a6 a7 a8 a9 a10 a11 a12 a13 a14 a15 => by rw [g9 j a1 a2 a3 a4 a5, f7 j a6 a7 a8 a9 a10 a11 a12, f2 j a13 a14 a15]
  -- the class's end
  have sb : fc_X11_startBoot 0 (cl_w σ 0 14 (nI (nb + 1))) = some (cl_w σ7 47 8 (1:Int32)) := by
    unfold fc_X11_startBoot bc_X11_startBoot_0
    rw [vln, show (cl_w σ 0 14 (nI (nb + 1))).2.2.1 47 3 = some W.cf from h.m0.cp, e3, bd1n, vln, show σ3.2.2.1 0 13 = some sp from by rw [R3 0 (by decide), esp]; exact h.oB.sp, show fc_X5_begin 47 (some sp) σ3 = some σ4 from e4, bd1n, vln]
    exact (eH (fun r σ => bc_X11_startBoot_171 0 r (0:Int32) σ)).trans eA
  have SS := (S6 (fun b => ∃ q, q < n ∧ b = 85 + 12 * q) (fun b => ∃ q, q < n ∧ b = 83 + 12 * q) (fun j => j < n)).trans A.S
  have i8 : ∀ d, d ≠ 47 → (∀ q, q < n → d ≠ 85 + 12 * q) → (d < 31 ∨ 37 < d) → d < 325 → (cl_w σ7 47 8 (1:Int32)).1 d = σ4.1 d := fun d h1 h2 h3 h4 => by rw [r_w h1, SS.F.I d (fun ⟨q, a1, a2⟩ => h2 q a1 a2) h3 h4, J5]
  have i47 : ∀ j, j ≠ 8 → (cl_w σ7 47 8 (1:Int32)).1 47 j = σ4.1 47 j := fun j hj => by rw [r_wk hj, SS.F.I 47 (fun ⟨q, a1, a2⟩ => by omega) (by omega) (by omega), J5]
  have r8 : ∀ d, (∀ q, q < n → d ≠ 83 + 12 * q) → (d < 31 ∨ 37 < d) → d < 325 → (cl_w σ7 47 8 (1:Int32)).2.2.1 d = (cl_wr σ4 0 13 (some W.cf)).2.2.1 d := fun d h2 h3 h4 => SS.F.R d (fun ⟨q, a1, a2⟩ => h2 q a1 a2) h3 h4
  have t8 : ∀ d, d < 325 → (cl_w σ7 47 8 (1:Int32)).2.2.2.1 d = σ.2.2.2.1 d := fun d hd => by
    show σ7.2.2.2.1 d = _
    rw [SS.F.T d (by omega), T5]
  have l7 : ∀ d, d < 325 → (cl_w σ7 47 8 (1:Int32)).2.1 d = σ.2.1 d := fun d hd => by
    show σ7.2.1 d = _
    rw [SS.F.L d hd, L5]
  have lo : ∀ a, pt W.ts a → (30 < a ∧ a < 38) ∨ 324 < a := by
    intro a ha
    rcases ha with rfl | ha
    · omega
    · have := h.T.C.mem a ha; omega
  have le1 : W.le ((ts7, tm7, N7, W.2.2.2) : Wd) := ⟨SS.F.sub, SS.mt, SS.nn, rfl, rfl, rfl, rfl, rfl, rfl, rfl, rfl, rfl, rfl, rfl, rfl, rfl, rfl⟩
  have G1 : TGo W ((ts7, tm7, N7, W.2.2.2) : Wd) σ (cl_w σ7 47 8 (1:Int32)) := ⟨le1, fun a ha j hj => by
      have := lo a ha
      rw [r_w (by omega), SS.F.fI a ha j hj, J5, I5 a (by omega) (by omega) (by omega) (by omega) (by omega)], fun a ha j h1 h2 => by
      have := lo a ha
      show σ7.2.2.1 a j = _
      rw [SS.F.fR a ha j h1 h2, R5 a (by omega) (by omega) (by omega) (by omega)], h.T.L.inm, fun a ha => by
      show σ7.2.2.2.1 a = _
      rw [SS.F.T a (by rw [T5]; exact ha), T5], by
      show _ ≤ σ7.2.2.2.2.1
      have := SS.F.n
      rw [T5] at this; exact this⟩
  have hNN : W.N ≤ N7 := SS.nn
  have hmt : ∀ u, u < W.N → tm7 u = W.tm u := SS.mt
  have a0 : ∀ q, 83 + 135 * 0 + 12 * q = 83 + 12 * q := fun q => by omega
  have st8 : Stc (cl_w σ7 47 8 (1:Int32)) := by
    refine h.st.fr (by rw [r8 19 (fun q _ => by omega) (by omega) (by omega), R5 19 (by decide) (by decide) (by decide) (by decide)]) (fun s' hs' => ?_) t8 (fun s' p' hs' hp' => ?_) (by rw [i8 179 (by decide) (fun q _ => by omega) (by omega) (by omega), I5 179 (by decide) (by decide) (by decide) (by omega) (by omega)]; exact h.st.re)
    · have s01 : s' = 0 ∨ s' = 1 := by omega
      refine ⟨by rw [r8 _ (fun q _ => by omega) (by omega) (by omega), R5 _ (by omega) (by omega) (by omega) (by omega)], by rw [r8 _ (fun q _ => by omega) (by omega) (by omega), R5 _ (by omega) (by omega) (by omega) (by omega)], ?_⟩
      rw [r8 _ (fun q _ => by omega) (by omega) (by omega)]
      rcases s01 with rfl | rfl
      · rw [r_r (by omega), G.rm 1, if_neg (by decide), R3 _ (by omega)]
      · rw [R5 _ (by omega) (by omega) (by omega) (by omega)]
    · have s01 : s' = 0 ∨ s' = 1 := by omega
      rcases s01 with rfl | rfl
      · rw [i8 _ (by omega) (fun q _ => by omega) (by omega) (by omega)]
        by_cases c : p' < n
        · refine ⟨by rw [(G.pa p' c).r83 3, if_neg (by omega), I3 _ (by omega) (by omega)], fun j hj => ?_⟩
          rw [i8 _ (by omega) (fun q _ => by omega) (by omega) (by omega), (G.pa p' c).r92 j, if_neg (by omega), I3 _ (by omega) (by omega)]
        · have g1 := G.po p' 0 hp' (by omega) (by omega)
          have g2 := G.po p' 9 hp' (by omega) (by omega)
          rw [show 83 + 135 * 0 + 12 * p' + 9 = 92 + 135 * 0 + 12 * p' by omega] at g2
          rw [Nat.add_zero] at g1
          refine ⟨by rw [g1, I3 _ (by omega) (by omega)], fun j hj => ?_⟩
          rw [i8 _ (by omega) (fun q _ => by omega) (by omega) (by omega), g2, I3 _ (by omega) (by omega)]
      · exact ⟨by rw [i8 _ (by omega) (fun q _ => by omega) (by omega) (by omega), I5 _ (by omega) (by omega) (by omega) (by omega) (by omega)], fun j hj => by rw [i8 _ (by omega) (fun q _ => by omega) (by omega) (by omega), I5 _ (by omega) (by omega) (by omega) (by omega) (by omega)]⟩
  have T9 : TermR W.n0 (cl_w σ7 47 8 (1:Int32)) ρ9 ts7 tm7 N7 := T7.sm ⟨fun d hd => ⟨r_w (by omega), rfl⟩, rfl⟩ (fun c h1 h2 => p9 c (by omega) (by omega)) (fun j hj => g9 j (by omega) (by omega) (by omega) (by omega) (by omega))
  refine ⟨nI n, cl_w σ7 47 8 (1:Int32), ρ9, ?_, ?_, ?_⟩
  · unfold ec_X11_boot_66
    rw [b1, if_pos (show nI nb < (40:Int32) from (n_lt (a := nb) (b := 40) (by omega) (by omega)).mpr (by omega)), show nI nb + (1:Int32) = nI (nb + 1) from n_add nb 1, vln, sb, bd1n, vln, show (cl_w σ7 47 8 (1:Int32)).2.2.1 47 3 = some sp from by rw [r8 47 (fun q _ => by omega) (by omega) (by omega), r_r (by decide)]; exact cp4, nnn, i8 sp (by omega) (fun q _ => by omega) (by omega) (by omega), I5 sp (by omega) (by omega) (by omega) (by omega) (by omega), c0]
  · rw [eqt, eB, bd1n, eE, g9 55 (by decide) (by decide) (by decide) (by decide) (by decide), f7 55 (by decide) (by decide) (by decide) (by decide) (by decide) (by decide) (by decide), n55]
  have o51 : onF ρ9 = 1 := by unfold onF; rw [h9, b51, if_neg (by decide)]
  refine ⟨Wd.cfg ((ts7, tm7, N7, W.2.2.2) : Wd) sp n m t bs sz ar fr to ln who stp, ?_⟩
  rw [o51]
  have cn : ∀ c p, cnr c → p < 8 → ρ9.1 c p = 0 := fun c p hc hp => by
    have := BQ.n c p hc hp
    rw [show 8 * 0 + p = p by omega] at this
    rw [o9 c (by unfold cnr at hc; omega) (by unfold cnr at hc; omega) (by unfold cnr at hc; omega)]; exact this
  have cfF : CfgR (Wd.cfg ((ts7, tm7, N7, W.2.2.2) : Wd) sp n m t bs sz ar fr to ln who stp) (cl_w σ7 47 8 (1:Int32)) ρ9 := (cfg ((ts7, tm7, N7, W.2.2.2) : Wd)).fr (Wd.le.refl _) (fun i hi => by
      show (cl_w σ7 47 8 (1:Int32)).1 (sp + i) = σ.1 (sp + i)
      rw [i8 _ (by omega) (fun q _ => by omega) (by omega) (by omega), I5 _ (by omega) (by omega) (by omega) (by omega) (by omega)]) (fun c h1 h2 => by rw [p9 c (by omega) (by omega), p7 c (by omega) (by omega) (by omega)]) (fun j hj => by rw [g9 j (by omega) (by omega) (by omega) (by omega) (by omega), f7 j (by omega) (by omega) (by omega) (by omega) (by omega) (by omega) (by omega)])
  have s1 := (S 0 (by omega)).2.2.2.2
  have M0 : MRel (Wd.cfg ((ts7, tm7, N7, W.2.2.2) : Wd) sp n m t bs sz ar fr to ln who stp) 0 (cl_w σ7 47 8 (1:Int32)) ρ9 := by
    have z47 : ∀ j, (8 < j ∧ j < 14) ∨ j = 15 → (cl_w σ7 47 8 (1:Int32)).1 47 j = 0 := fun j hj => by
      rw [i47 j (by omega)]
      have := G.m j
      rw [if_pos hj] at this
      exact this
    have t0 : ∀ c, 47 < c → c < 52 → ρ9.1 c 0 = 0 := fun c h1 h2 => by rw [o9 c (by omega) (by omega) (by omega)]; exact BQ.t c h1 h2
    refine ⟨fun p hp => ?_, ?_, ?_, ⟨0, by omega, z47 9 (by omega), t0 48 (by omega) (by omega)⟩, ⟨0, 0, by omega, by omega, z47 10 (by omega), t0 49 (by omega) (by omega), z47 11 (by omega), t0 50 (by omega) (by omega), fun _ => ⟨ht1, s1.2.1⟩⟩, ?_, ⟨0, by omega, z47 13 (by omega), fun _ => by rw [h9]; exact b54, fun e => absurd e (by omega)⟩, fun c i hc hi => ?_, fun c hc => ?_, fun c hc _ => ?_, fun d hd => ?_, fun e => absurd e (by omega)⟩
    · have hp : p < n := hp
      have Pp := G.pa p hp
      have e83 : (cl_w σ7 47 8 (1:Int32)).1 (83 + 12 * p) = σ4.1 (83 + 135 * 0 + 12 * p) := (i8 (83 + 12 * p) (by omega) (fun q _ => by omega) (by omega) (by omega)).trans (congrArg σ4.1 (by omega))
      have e84 : (cl_w σ7 47 8 (1:Int32)).1 (84 + 12 * p) = σ4.1 (84 + 135 * 0 + 12 * p) := (i8 (84 + 12 * p) (by omega) (fun q _ => by omega) (by omega) (by omega)).trans (congrArg σ4.1 (by omega))
      have e86 : (cl_w σ7 47 8 (1:Int32)).1 (86 + 12 * p) = σ4.1 (86 + 135 * 0 + 12 * p) := (i8 (86 + 12 * p) (by omega) (fun q _ => by omega) (by omega) (by omega)).trans (congrArg σ4.1 (by omega))
      have e92 : (cl_w σ7 47 8 (1:Int32)).1 (92 + 12 * p) = σ4.1 (92 + 135 * 0 + 12 * p) := (i8 (92 + 12 * p) (by omega) (fun q _ => by omega) (by omega) (by omega)).trans (congrArg σ4.1 (by omega))
      have e94 : (cl_w σ7 47 8 (1:Int32)).1 (94 + 12 * p) = σ4.1 (94 + 135 * 0 + 12 * p) := (i8 (94 + 12 * p) (by omega) (fun q _ => by omega) (by omega) (by omega)).trans (congrArg σ4.1 (by omega))
      have sti := st8.pi 0 p (by omega) (by omega)
      rw [a0, show 92 + 135 * 0 + 12 * p = 92 + 12 * p by omega] at sti
      refine pr_new (by omega) sti ?_ ?_ ?_ ?_ ?_ ?_ (fun c hc => cn c p hc (by omega)) (fun r hr => ?_) (z9 p (by omega)) (fun i hi => ?_) ?_
      · rw [e84]; exact Pp.r84.1
      · rw [e84]; exact Pp.r84.2
      · rw [e86]; exact Pp.r86
      · intro j hj
        rw [e83, Pp.r83 j, if_pos hj]
      · rw [e92, Pp.r92 5, if_pos rfl]
      · rw [e94]; exact Pp.r94
      · have := BQ.rg p r (by omega) hr
        rw [show 16 * (8 * 0 + p) + r = 16 * p + r by omega] at this
        rw [o9 53 (by decide) (by decide) (by decide)]; exact this
      · have hi : i < sz p := hi
        obtain ⟨u, o, h1, h2, h3, h4, h5, h6⟩ := imf p hp
        have := BQ.me p i hp hi
        rw [show 8192 * 0 + bs p + i = bs p + i by omega] at this
        show _ = ρ9.1 52 (bs p + i)
        rw [r_w (by omega), h6 i (by have := (P.bd p hp).2.1; omega), o9 52 (by decide) (by decide) (by decide), this]
        show _ = if i < len p then ρb.1 12 ((ρ7.1 2 (ρ7.1 38 p).toNatClampNeg).toNatClampNeg + i) else 0
        rw [h2, n_cl (show u < 2147483648 by omega), h4, n_cl (show o < 2147483648 by omega), fb 12 (by decide)]
      · obtain ⟨f, Mq, -⟩ := A.M p hp
        obtain ⟨u, h1, h2, h3, h4, h5⟩ := Mq.im
        obtain ⟨v, g1, g2, g3⟩ := Mq.ms
        obtain ⟨a, k1, k2, k3, k4, k5⟩ := Mq.sk
        have r83 : ∀ j, (cl_w σ7 47 8 (1:Int32)).2.2.1 (83 + 135 * 0 + 12 * p) j = σ7.2.2.1 (83 + 12 * p) j := fun j => by rw [a0]; rfl
        have ma := T7.C.mem a k1
        have mu := T7.C.mem _ (T7.L.inm u h1)
        obtain ⟨ww, w1, w2, w3, w4, -⟩ := h5
        refine ⟨⟨⟨u, h1, ?_, ?_⟩, ⟨tm7 u, ?_, ?_, ⟨ww, w1, w3, by show (σ7.2.2.2.1 ww).2 ≤ sz p; rw [w4]; exact (im p hp).2⟩⟩⟩, ⟨v, g1, ?_, ?_⟩, ⟨a, k1, ?_, ?_, ?_, ?_⟩⟩
        · rw [p9 38 (by omega) (by omega)]; exact h2
        · rw [r83]; exact h3
        · rw [r83]; exact h3
        · rw [r_w (by omega)]; exact h4
        · rw [p9 39 (by omega) (by omega)]; exact g2
        · rw [r83]; exact g3
        · rw [r83]; exact k2
        · rw [r_w (by omega)]; exact k3
        · exact k4
        · rw [r83]; exact k5
    · show (cl_w σ7 47 8 (1:Int32)).2.2.1 47 3 = some sp
      rw [r8 47 (fun q _ => by omega) (by omega) (by omega), r_r (by decide)]; exact cp4
    · show (cl_w σ7 47 8 (1:Int32)).1 47 2 = nI 1
      rw [i47 2 (by decide)]
      have := G.m 2
      rw [if_neg (by omega), I3 _ (by omega) (by omega)] at this
      exact this.trans h.m0.re
    · show (cl_w σ7 47 8 (1:Int32)).1 47 12 = ρ9.1 51 0
      rw [z47 12 (by omega), t0 51 (by omega) (by omega)]
    · rw [i8 _ (by omega) (fun q _ => by omega) (by omega) (by omega), G.sn c i hc hi, o9 71 (by decide) (by decide) (by decide), BQ.sn c i hc hi]
    · rw [i8 _ (by omega) (fun q _ => by omega) (by omega) (by omega), G.ur c hc, o9 72 (by decide) (by decide) (by decide), (BQ.ch c hc).1]
      exact ⟨rfl, Or.inl rfl⟩
    · left
      refine ⟨?_, by rw [o9 73 (by decide) (by decide) (by decide)]; exact (BQ.ch c hc).2⟩
      rw [r8 _ (fun q _ => by omega) (by omega) (by omega), r_r (by omega), G.rt c hc, R3 31 (by decide)]
      exact h.T.C.tms.2.2.1
    · obtain ⟨d1, d2, d3⟩ := h.m0.dk d hd
      rw [i8 _ (by omega) (fun q _ => by omega) (by omega) (by omega), I5 _ (by omega) (by omega) (by omega) (by omega) (by omega), r8 _ (fun q _ => by omega) (by omega) (by omega), R5 _ (by omega) (by omega) (by omega) (by omega), r9 74 (by omega) (by omega), r9 75 (by omega) (by omega)]
      exact ⟨d1, d2.mt hNN hmt, d3⟩
  have O9 : OthB (Wd.cfg ((ts7, tm7, N7, W.2.2.2) : Wd) sp n m t bs sz ar fr to ln who stp) (k + 1) (cl_w σ7 47 8 (1:Int32)) ρ9 := by
    have O := h.oB
    refine ⟨?_, ?_, fun d hd _ => ?_, ⟨0, by omega, ?_, by rw [h9]; exact b78, fun j hj => absurd hj (by omega), fun i j _ hj => absurd hj (by omega)⟩, ⟨by rw [r_ws, h9, b51], Or.inr (by rw [h9]; exact b51), fun _ => hn1⟩, ⟨nb + 1, ?_, ?_, ?_, ?_⟩, ?_, ?_⟩
    · obtain ⟨hh, Bt⟩ := O.ou
      have := Bt.fr (W' := ((ts7, tm7, N7, W.2.2.2) : Wd)) (σ' := cl_w σ7 47 8 (1:Int32)) (tb' := ρ9.1 76) (cnt' := ρ9.1 0 110) G1 (by rw [i8 38 (by decide) (fun q _ => by omega) (by omega) (by omega), I5 38 (by decide) (by decide) (by decide) (by omega) (by omega)]) (by rw [r8 39 (fun q _ => by omega) (by omega) (by omega), R5 39 (by decide) (by decide) (by decide) (by decide)]) (by rw [i8 40 (by decide) (fun q _ => by omega) (by omega) (by omega), I5 40 (by decide) (by decide) (by decide) (by omega) (by omega)]) (fun j _ => by rw [r9 76 (by omega) (by omega)]) (s9 110 (by decide) (by decide) (by decide) (by decide) (by decide) (by decide) (by decide) (by decide) (by decide) (by decide) (by decide) (by decide) (by decide) (by decide) (by decide))
      exact ⟨hh, this⟩
    · rw [i8 38 (by decide) (fun q _ => by omega) (by omega) (by omega), I5 38 (by decide) (by decide) (by decide) (by omega) (by omega)]; exact O.of
    · obtain ⟨d1, d2, d3⟩ := h.m0.dk d hd
      rw [show 64 * 0 + d = d by omega] at d1 d2 d3
      have z40 := (d9 d hd).1
      have z41 := (d9 d hd).2
      rw [bgo 74 d (by omega), fb 74 (by decide), p7 74 (by omega) (by omega) (by omega), q2 74 (by decide) (by omega)] at z40
      rw [bgo 75 d (by omega), fb 75 (by decide), p7 75 (by omega) (by omega) (by omega), q2 75 (by decide) (by omega)] at z41
      have y45 : (cl_w σ7 47 8 (1:Int32)).1 45 d = σ.1 42 d := by
        rw [i8 45 (by decide) (fun q _ => by omega) (by omega) (by omega), G.o 45 (by omega) (by omega) (by omega)]
        have := v3 d
        rw [if_pos hd] at this
        exact this.trans (by rw [r_w (by decide)])
      have y46 : (cl_w σ7 47 8 (1:Int32)).2.2.1 46 d = σ.2.2.1 43 d := by
        rw [r8 46 (fun q _ => by omega) (by omega) (by omega), r_r (by decide), G.r 46 (by omega) (by omega)]
        have := w3 d
        rw [if_pos hd] at this
        exact this
      rw [y45, y46, z40, z41]
      exact ⟨d1, d2.mt hNN hmt, d3⟩
    · rw [i47 15 (by decide)]
      have := G.m 15
      rw [if_pos (Or.inr rfl)] at this
      exact this
    · rw [i8 0 (by decide) (fun q _ => by omega) (by omega) (by omega), G.o 0 (by omega) (by omega) (by omega), i3 0 (by decide), r_ws]
    · rw [h9, b52, f7 52 (by decide) (by decide) (by decide) (by decide) (by decide) (by decide) (by decide), f2 52 (by decide) (by decide) (by decide), b2]
      exact n_add nb 1
    · rw [h9, b51, if_neg (by decide)]; omega
    · obtain ⟨E7, z1, z2⟩ := A.S.e E6 e18
      refine ⟨E7, by rw [g9 18 (by decide) (by decide) (by decide) (by decide) (by decide)]; exact z1, ?_⟩
      omega
    · rw [i47 14 (by decide)]
      have := G.m 14
      rw [if_neg (by omega), I3 _ (by omega) (by omega)] at this
      rw [s9 53 (by decide) (by decide) (by decide) (by decide) (by decide) (by decide) (by decide) (by decide) (by decide) (by decide) (by decide) (by decide) (by decide) (by decide) (by decide)]
      exact this.trans O.wr
    · show _ = some (362 - sp)
      rw [r8 0 (fun q _ => by omega) (by omega) (by omega), r_rs]
      exact congrArg some (by omega)
  have ph : phi 0 ρ9 = 3200 := phi_new (fun p hp => cn 61 p (by unfold cnr; omega) hp) (fun p hp => cn 69 p (by unfold cnr; omega) hp)
  have c1 := SS.ne
  have c2 := SS.ll
  have c3 := SS.F.rc
  have c4 := SS.F.rs
  rw [T5] at c3 c4
  refine ⟨T9, st8, cfF, M0, fun e => Bool.noConfusion e, h.oA.fr0 (fun a ha0 ha => ?_) ?_ (fun c h1 h2 => r9 c h1 (by omega)) (fun j hj => s9 j (by omega) (by omega) (by omega) (by omega) (by omega) (by omega) (by omega) (by omega) (by omega) (by omega) (by omega) (by omega) (by omega) (by omega) (by omega)), O9, ⟨?_, ?_, ?_, ?_⟩, fun _ => h.n0 rfl, h.nm.fr (l7 7 (by omega)) ?_ (r9 14 (by omega) (by omega)) (r9 15 (by omega) (by omega)), fun e => (by cases e)⟩
  · rw [i8 a (by omega) (fun q _ => by omega) (by omega) (by omega), I5 a (by omega) (by omega) (by omega) (by omega) (by omega)]
  · rw [i8 0 (by decide) (fun q _ => by omega) (by omega) (by omega), G.o 0 (by omega) (by omega) (by omega), i3 0 (by decide), r_wk (by decide)]
  · rw [ph, if_neg (by decide), KB_n]
    show N7 + 3200 + 0 ≤ _
    omega
  · rw [ph, if_neg (by decide), KB_l]
    show ts7.length + 3200 + 0 ≤ _
    omega
  · rw [KB_c]
    show _ ≤ σ7.2.2.2.2.2.1 + ts7.length
    omega
  · rw [KB_s]
    show _ ≤ σ7.2.2.2.2.2.2 + 16 * ts7.length
    omega
  · rw [l9', BQ.l, bl, A.S.l, S6'.l, l2]
end Z2_GP
