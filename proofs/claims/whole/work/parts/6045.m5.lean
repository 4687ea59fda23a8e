section Z2_M5
variable {K : Bd} {W W' : Wd} {b : Bool} {k s p : Nat} {σ σ' : cl_S} {ρ ρ' : rf_S}
theorem CO.part (h : RC k σ ρ) (hk : k < 64) (R : Rel (KB k (onF ρ)) W false k σ ρ) {t kk : Nat} (ht : t < W.N) {r : Option Nat} {v : Int32} (hv : ρ.1 1 t = nI kk → TV W r v) : CO k (bd2 (fc_X11_takePart 0 (some (W.tm t)) (nI kk) r σ) (fun r_24 σ_23 => some (r_24, σ_23))) (if ρ.1 1 t = nI kk then bd2 (fq_shows v ρ) (fun r ρ => some (r, ρ)) else some (-3, ρ)) := by
  unfold fc_X11_takePart bc_X11_takePart_0
  rw [nnn, R.T.L.kd t ht]
  by_cases c : ρ.1 1 t = nI kk
  · rw [if_pos c, if_pos c]
    have A := CO.shows h hk 0 ⟨W, R, hv c⟩
    obtain ⟨q, σ', ρ', e1, e2, e3⟩ := A
    exact ⟨q, σ', ρ', by rw [e1]; rfl, e2, e3⟩
  · rw [if_neg c, if_neg c, bd2n]; exact CO.same h hk _
theorem call_take (h : RC k σ ρ) (hk : k < 64) (x y z : Int32) : CO k (fc_X11_take 0 x y z σ) (fq_take x y z ρ) := by
  obtain ⟨W, R⟩ := id h
  have T := R.T
  have hN := T.Q.n.2
  have z1 : ¬ (1:Int32) = 0 := by decide
  unfold fc_X11_take bc_X11_take_0 fq_take bq_take_0
  rcases R.ohd x with ⟨j, t, hj, ht, e1, e2, e3, e4, e5, e6, e7⟩ | ⟨e4, e5, e6⟩
  rotate_left
  · rw [e4, e5, bd2n, bd2n, if_pos rfl, if_pos rfl]; exact CO.same h hk _
  rw [e4, e5, bd2n, bd2n, if_neg z1, if_neg z1]
  have it : ∀ {α : Type} (z : Option α), ix (nI t) 112000 z = z := fun z => n_ix (by omega) (by omega)
  have ct : (nI t).toNatClampNeg = t := n_cl (by omega)
  by_cases y4 : y = 4
  · subst y4
    rw [if_pos rfl, if_pos rfl]
    rcases R.ohd z with ⟨j', t', hj', ht', f1, f2, f3, f4, f5, f6, f7⟩ | ⟨f4, f5, f6⟩
    rotate_left
    · rw [f4, f5, bd2n, bd2n, if_pos rfl, if_pos rfl]; exact CO.same h hk _
    rw [f4, f5, bd2n, bd2n, if_neg z1, if_neg z1]
    unfold bc_X11_take_29 bq_take_23 bq_take_152
    rw [e6, bd2n, if_neg (show ¬ (4:Int32) = 0 by decide), if_neg (show ¬ (4:Int32) = 1 by decide), if_neg (show ¬ (4:Int32) = 2 by decide), if_neg (show ¬ (4:Int32) = 3 by decide), if_pos rfl, nnn, vln, f6, bd2n, if_neg (show ¬ (4:Int32) < 0 by decide), if_pos (show (4:Int32) ≤ 4 by decide), e7, bd2n, it, ct, vln (ρ.1 1 t), if_pos (show (2:Int32) ≤ 4 by decide), if_neg (show ¬ (4:Int32) = 2 by decide)]
    by_cases c8 : ρ.1 1 t = (8:Int32)
    · obtain ⟨a, ha, ea, ra⟩ := T.prA (kk := 8) ht (by omega) c8
      obtain ⟨c, hc, ec, rc⟩ := T.prC ht c8
      rw [if_pos c8, if_pos rfl, it, f7, bd2n, ea, ra]
      by_cases q : a = t'
      · subst q
        rw [if_pos rfl, if_pos rfl, vln, if_neg (show ¬ (4:Int32) = 3 by decide), it]
        have A := CO.part h hk R (kk := 8) ht (r := σ.2.2.1 (W.tm t) 5) (v := ρ.1 4 t) (fun _ => ⟨c, hc, ec, rc⟩)
        rw [if_pos (show ρ.1 1 t = nI 8 from c8)] at A
        exact A
      · rw [if_neg (fun w => q (T.L.inj a t' ha ht' (Option.some.inj w))), if_neg (fun w => q ((n_eq (by omega) (by omega)).mp w))]
        exact CO.same h hk _
    · rw [if_neg c8]
      -- not closed: the class looks at the key first
      by_cases q : σ.2.2.1 (W.tm t) 3 = some (W.tm t')
      · rw [if_pos q, vln]
        have A := CO.part h hk R (kk := 8) ht (r := σ.2.2.1 (W.tm t) 5) (v := 0) (fun w => absurd w c8)
        rw [if_neg (show ¬ ρ.1 1 t = nI 8 from c8)] at A
        exact A
      · rw [if_neg q]; exact CO.same h hk _
  · rw [if_neg y4, if_neg y4]
    unfold bc_X11_take_29 bq_take_23 bq_take_152 bq_take_84
    rw [e6, bd2n]
    by_cases y0 : y = 0
    · subst y0
      rw [if_pos rfl, nnn, vln, if_neg (show ¬ (0:Int32) < 0 by decide), if_pos (show (0:Int32) ≤ 4 by decide), e7, bd2n, it, ct, vln (ρ.1 1 t), if_neg (show ¬ (2:Int32) ≤ 0 by decide), if_pos rfl, it]
      have A := CO.part h hk R (kk := 3) ht (r := σ.2.2.1 (W.tm t) 3) (v := ρ.1 2 t) (fun w => by
        obtain ⟨a, ha, ea, ra⟩ := T.prA (kk := 3) ht (by omega) w
        exact ⟨a, ha, ea, ra⟩)
      exact A
    rw [if_neg y0]
    by_cases y1 : y = 1
    · subst y1
      rw [if_pos rfl, nnn, vln, if_neg (show ¬ (1:Int32) < 0 by decide), if_pos (show (1:Int32) ≤ 4 by decide), e7, bd2n, it, ct, vln (ρ.1 1 t), if_neg (show ¬ (2:Int32) ≤ 1 by decide), if_neg z1, it]
      have A := CO.part h hk R (kk := 3) ht (r := σ.2.2.1 (W.tm t) 4) (v := ρ.1 3 t) (fun w => by
        obtain ⟨a, ha, ea, ra⟩ := T.prB (kk := 3) ht (by omega) (by omega) (by omega) w
        exact ⟨a, ha, ea, ra⟩)
      exact A
    rw [if_neg y1]
    by_cases y2 : y = 2
    · subst y2
      rw [if_pos rfl, nnn, vln, if_neg (show ¬ (2:Int32) < 0 by decide), if_pos (show (2:Int32) ≤ 4 by decide), e7, bd2n, it, ct, vln (ρ.1 1 t), if_pos (show (2:Int32) ≤ 2 by decide), if_pos rfl, it]
      have A := CO.part h hk R (kk := 7) ht (r := σ.2.2.1 (W.tm t) 4) (v := ρ.1 3 t) (fun w => by
        obtain ⟨a, ha, ea, ra⟩ := T.prB (kk := 7) ht (by omega) (by omega) (by omega) w
        exact ⟨a, ha, ea, ra⟩)
      exact A
    rw [if_neg y2]
    by_cases y3 : y = 3
    · subst y3
      rw [if_pos rfl, nnn, vln, if_neg (show ¬ (3:Int32) < 0 by decide), if_pos (show (3:Int32) ≤ 4 by decide), e7, bd2n, it, ct, vln (ρ.1 1 t), if_pos (show (2:Int32) ≤ 3 by decide), if_neg (show ¬ (3:Int32) = 2 by decide), if_neg (show ¬ (3:Int32) = 4 by decide), if_pos rfl, it]
      have A := CO.part h hk R (kk := 8) ht (r := σ.2.2.1 (W.tm t) 4) (v := ρ.1 3 t) (fun w => by
        obtain ⟨a, ha, ea, ra⟩ := T.prB (kk := 8) ht (by omega) (by omega) (by omega) w
        exact ⟨a, ha, ea, ra⟩)
      exact A
    rw [if_neg y3, if_neg y4]
    by_cases c0 : y < 0
    · rw [if_pos c0]; exact CO.same h hk _
    · rw [if_neg c0, if_neg]
      · exact CO.same h hk _
      · intro q
        rcases n_cases y with hy | ⟨u, hu, rfl⟩
        · exact c0 hy
        have : u ≤ 4 := (n_le (a := u) (b := 4) hu (by omega)).mp q
        have : u = 0 ∨ u = 1 ∨ u = 2 ∨ u = 3 ∨ u = 4 := by omega
        rcases this with rfl | rfl | rfl | rfl | rfl
        · exact y0 rfl
        · exact y1 rfl
        · exact y2 rfl
        · exact y3 rfl
        · exact y4 rfl
/-- a TERM is made for the OUTSIDE -/
theorem CO.make (h : RC k σ ρ) (hk : k < 64) (R : Rel (KB k (onF ρ)) W false k σ ρ) {kk : Nat} {n : Int32} {x y z : Nat} {a1 b1 c1 : Int32} (hkk : kk < 10) (k1 : kk ≠ 1) (k2 : kk ≠ 2) (ha : argR W.tm W.N kk n x y z a1 b1 c1) : CO k (fc_X8_comeInMade 38 (nI kk) n (some x) (some y) (some z) σ) (fq_makes (nI kk) a1 b1 c1 ρ) := by
  have R1 := R.next
  have T := R1.T
  have e33 := T.C.tms.2.2.1
  have hN0 := T.Q.n.2
  have v := KB_v (k := k) (n := onF ρ) (by omega) (onF_le ρ)
  have bn := R1.bd.n
  have bl := R1.bd.l
  have bc := R1.bd.c
  have bs := R1.bd.s
  unfold KV at v
  obtain ⟨hh, B⟩ := R1.oB.ou
  have hl := B.hl
  have hN : W.N < 112000 := by omega
  have r1 : 1 ≤ σ.2.2.2.2.2.1 := by omega
  have r16 : 16 ≤ σ.2.2.2.2.2.2 := by omega
  have e110 : ρ.1 0 110 = nI hh := B.cq
  have fin : ∀ {W' : Wd} {σ1 : cl_S} {ρ1 : rf_S} {t : Nat}, Rel ((KB k (onF ρ)).up 1) W' false (k + 1) σ1 ρ1 → t < W'.N → CO k (fc_X8_comeIn 38 (some (W'.tm t)) σ1) (fq_shows (nI t) ρ1) := by
    intro W' σ1 ρ1 t R' ht
    obtain ⟨r, σ2, ρ2, e1, e2, R2⟩ := R'.shows ht
    have u1 : ((KB k (onF ρ)).up 1).kn = (KB k (onF ρ)).kn + 1 := rfl
    have u2 : ((KB k (onF ρ)).up 1).kl = (KB k (onF ρ)).kl + 1 := rfl
    have u3 : ((KB k (onF ρ)).up 1).kc = (KB k (onF ρ)).kc := rfl
    have u4 : ((KB k (onF ρ)).up 1).ks = (KB k (onF ρ)).ks := rfl
    exact ⟨r, σ2, ρ2, e1, e2, RC.of R2 hk (onF_le ρ) (by omega) (by omega) (by omega) (by omega)⟩
  have wr : ∀ {x : Option (Int32 × cl_S)} {y : Option (Int32 × rf_S)}, CO k x y → CO k (bd2 x (fun r σ => some (r, σ))) (bd2 y (fun r ρ => some (r, ρ))) := by
    rintro x y ⟨r, a, b, rfl, rfl, q⟩
    exact ⟨r, a, b, rfl, rfl, q⟩
  have up : ∀ {W' : Wd} {σ1 : cl_S} {ρ1 : rf_S}, TFr σ σ1 W.ts W'.ts 0 0 → QFr ρ ρ1 → W.le W' → TermR W'.n0 σ1 ρ1 W'.ts W'.tm W'.N → W'.N ≤ W.N + 1 → W'.ts.length ≤ W.ts.length + 1 → Rel ((KB k (onF ρ)).up 1) W' false (k + 1) σ1 ρ1 := by
    intro W' σ1 ρ1 F Q le T' q1 q2
    have u1 : ((KB k (onF ρ)).up 1).kn = (KB k (onF ρ)).kn + 1 := rfl
    have u2 : ((KB k (onF ρ)).up 1).kl = (KB k (onF ρ)).kl + 1 := rfl
    exact R1.tms F Q le T' (by omega) (by omega) (Nat.le_refl _) (Nat.le_refl _)
  have ne : ∀ {u : Nat}, u ∈ W.ts → ¬ (some u = some 33) := fun hu q => by have := T.C.mem _ hu; have := Option.some.inj q; omega
  unfold fc_X8_comeInMade bc_X8_comeInMade_0 bc_X8_comeInMade_54 fq_makes bq_makes_0 bq_makes_29
  rcases t_mk T hkk k1 k2 ha with ⟨t, ht, e1, e2⟩ | ⟨w, hw, ew, ⟨e, he, h33, hni, e1, add⟩ | ⟨e1, add⟩⟩
  · have l0 : (0:Int32) ≤ nI t := by rw [i32_0, n_le (by omega) (by omega)]; omega
    rw [e1, e2, bd2n, bd2n, vln, e33, if_neg (ne (T.L.inm t ht)), if_pos l0, if_neg (n_nneg (show t < 2147483648 by omega))]
    exact wr (fin (up (TFr.refl _ _) (QFr.refl _) (Wd.le.refl W) T (by omega) (by omega)) ht)
  · obtain ⟨ρ', ea, F, T'⟩ := add hN
    have l0 : ¬ (0:Int32) ≤ w := Int32.not_le.mpr hw
    have R' : Rel ((KB k (onF ρ)).up 1) (W.add W.ts e) false (k + 1) σ ρ' := up (TFr.refl _ _) F (Wd.le_add (fun _ q => q)) T' (Nat.le_refl _) (Nat.le_succ _)
    have tmN : (W.add W.ts e).tm W.N = e := up_s
    rw [e1, ew, bd2n, bd2n, vln, e33, if_neg (ne he), if_neg l0, e110]
    by_cases cf : hh = 600
    · subst cf
      rw [if_pos (show nI 600 = (600:Int32) from rfl)]
      obtain ⟨hh', B'⟩ := R'.oB.ou
      have eh : hh' = 600 := (n_eq (by have := B'.hl; omega) (by omega)).mp (B'.cc.symm.trans B.cc)
      subst eh
      have hN' : (W.add W.ts e).N = W.N + 1 := rfl
      rcases c_comeIn B' R'.far R'.T.L.inj (by rw [hN']; omega) (t := W.N) (by rw [hN']; omega) with ⟨j, hj, ej, -⟩ | ⟨-, ⟨-, ec⟩ | ⟨q, -⟩⟩
      · exfalso
        obtain ⟨t, ht, et, -⟩ := B.en j hj
        rw [F.o 76 (by omega), et] at ej
        have := (n_eq (by omega) (by omega)).mp ej
        omega
      · rw [tmN] at ec
        rw [ec, bd2n]; exact CO.same h hk _
      · omega
    · rw [if_neg (show ¬ nI hh = (600:Int32) from fun q => cf ((n_eq (a := hh) (b := 600) (by omega) (by omega)).mp q)), if_pos hw, q_term_a hw ew ea, bd2n]
      have A := fin R' (t := W.N) (Nat.lt_succ_self _)
      rw [tmN] at A
      exact wr A
  · have l0 : ¬ (0:Int32) ≤ w := Int32.not_le.mpr hw
    have full : fc_X8_isFull 38 σ = some (if hh = 600 then 1 else 0, σ) := by
      unfold fc_X8_isFull bc_X8_isFull_0
      rw [B.cc, B.lm]
      by_cases cf : hh = 600
      · rw [if_neg (fun q => by have := (n_lt (by omega) (by omega)).mp q; omega), if_pos cf]
      · rw [if_pos ((n_lt (by omega) (by omega)).mpr (by omega)), if_neg cf]
    rw [e1, ew, bd2n, bd2n, vln, e33, if_pos rfl, full, bd2n, if_neg l0, e110]
    by_cases cf : hh = 600
    · subst cf
      rw [if_pos rfl, if_neg (by decide), if_pos (show nI 600 = (600:Int32) from rfl)]
      exact CO.same h hk _
    · obtain ⟨σ', ρ', ec, ea, F, F', T'⟩ := add hN r1 r16
      rw [if_neg cf, if_pos rfl, ec, bd2n, if_neg (show ¬ nI hh = (600:Int32) from fun q => cf ((n_eq (a := hh) (b := 600) (by omega) (by omega)).mp q)), if_pos hw, q_term_a hw ew ea, bd2n]
      have tmN : (W.add (σ.2.2.2.2.1 :: W.ts) σ.2.2.2.2.1).tm W.N = σ.2.2.2.2.1 := up_s
      have R' : Rel ((KB k (onF ρ)).up 1) (W.add (σ.2.2.2.2.1 :: W.ts) σ.2.2.2.2.1) false (k + 1) σ' ρ' := up F' F (Wd.le_add (fun _ q => List.mem_cons_of_mem _ q)) T' (Nat.le_refl _) (by show (σ.2.2.2.2.1 :: W.ts).length ≤ _; rw [List.length_cons]; omega)
      have A := fin R' (t := W.N) (Nat.lt_succ_self _)
      rw [tmN] at A
      exact wr A
end Z2_M5
