section Z2_M
variable {K : Bd} {W W' : Wd} {b : Bool} {k s p : Nat} {σ σ' : cl_S} {ρ ρ' : rf_S}
/-! LAYER 2: the calls -/
/-- is the power on -/
def onF (ρ : rf_S) : Nat := if ρ.1 0 51 = 0 then 0 else 1
/-- the room behind k calls -/
def KB (k o : Nat) : Bd := (3204 + 1627 * (k + o) + k, 3300 * (k + 1), 590000 - 10 * k, 4700000 - 17000 * k)
def RC (k : Nat) (σ : cl_S) (ρ : rf_S) : Prop := ∃ W, Rel (KB k (onF ρ)) W false k σ ρ
theorem onF_le (ρ : rf_S) : onF ρ ≤ 1 := by unfold onF; split <;> omega
theorem KB_n (k n : Nat) : (KB k n).kn = 3204 + 1627 * (k + n) + k := rfl
theorem KB_l (k n : Nat) : (KB k n).kl = 3300 * (k + 1) := rfl
theorem KB_c (k n : Nat) : (KB k n).kc = 590000 - 10 * k := rfl
theorem KB_s (k n : Nat) : (KB k n).ks = 4700000 - 17000 * k := rfl
theorem KB_v {k n : Nat} (hk : k ≤ 64) (hn : n ≤ 1) : KV (KB k n) := by
  unfold KV
  rw [KB_n, KB_l, KB_c, KB_s]
  omega
theorem OthB.mono {k' : Nat} (h : OthB W k σ ρ) (hk : k ≤ k') : OthB W k' σ ρ := by
  obtain ⟨a1, a2, a3, ⟨n, n1, n2⟩, a5, ⟨m, m1, m2, m3, m4⟩, a7, a8⟩ := h
  exact ⟨a1, a2, a3, ⟨n, by omega, n2⟩, a5, ⟨m, m1, m2, by omega, m4⟩, a7, a8⟩
theorem Rel.kk {k' : Nat} (h : Rel K W b k σ ρ) (hk : k ≤ k') : Rel K W b k' σ ρ := by
  obtain ⟨T, st, cf, m0, m1, oA, oB, bd, n0, nm, fz⟩ := h
  exact ⟨T, st, cf, m0, m1, oA, oB.mono hk, bd, n0, nm, fz⟩
theorem Rel.next {o : Nat} (h : Rel (KB k o) W false k σ ρ) : Rel (KB k o) W false (k + 1) σ ρ := h.kk (Nat.le_succ k)
/-- the room of the next call -/
theorem RC.of {o : Nat} (h : Rel K W false (k + 1) σ ρ) (hk : k < 64) (ho : o ≤ 1) (h1 : K.kn ≤ (KB k o).kn + 1) (h2 : K.kl ≤ (KB k o).kl + 3300) (h3 : (KB k o).kc ≤ K.kc + 10) (h4 : (KB k o).ks ≤ K.ks + 17000) : RC (k + 1) σ ρ := by
  refine ⟨W, h.mono ?_ ?_ ?_ ?_⟩
  · rw [KB_n] at *; omega
  · rw [KB_l] at *; omega
  · rw [KB_c] at *; omega
  · rw [KB_s] at *; omega
theorem RC.of0 {o : Nat} (h : Rel (KB k o) W false (k + 1) σ ρ) (hk : k < 64) (ho : o ≤ 1) : RC (k + 1) σ ρ := RC.of h hk ho (Nat.le_succ _) (by omega) (by omega) (by omega)
/-- the outcome of a call -/
def CO (k : Nat) (x : Option (Int32 × cl_S)) (y : Option (Int32 × rf_S)) : Prop := ∃ r σ' ρ', x = some (r, σ') ∧ y = some (r, ρ') ∧ RC (k + 1) σ' ρ'
theorem RC.next (h : RC k σ ρ) (hk : k < 64) : RC (k + 1) σ ρ := by
  obtain ⟨W, h⟩ := h
  exact RC.of0 h.next hk (onF_le ρ)
theorem CO.same (h : RC k σ ρ) (hk : k < 64) (r : Int32) : CO k (some (r, σ)) (some (r, ρ)) := ⟨r, σ, ρ, rfl, rfl, h.next hk⟩
theorem CO.ite {c d : Prop} [Decidable c] [Decidable d] {x x' : Option (Int32 × cl_S)} {y y' : Option (Int32 × rf_S)} (e : c ↔ d) (h : c → d → CO k x y) (h' : ¬ c → ¬ d → CO k x' y') : CO k (if c then x else x') (if d then y else y') := by
  by_cases q : c
  · rw [if_pos q, if_pos (e.mp q)]; exact h q (e.mp q)
  · rw [if_neg q, if_neg (fun k => q (e.mpr k))]; exact h' q (fun k => q (e.mpr k))
/-- is p a partition -/
theorem Rel.isP (h : Rel K W b k σ ρ) (x : Int32) : (∃ p, p < W.np ∧ p < 8 ∧ x = nI p ∧ fc_X11_isPartition 0 x σ = some (1, σ) ∧ ¬ x < 0 ∧ x < ρ.1 0 55) ∨ (fc_X11_isPartition 0 x σ = some (0, σ) ∧ (x < 0 ∨ (¬ x < 0 ∧ ¬ x < ρ.1 0 55))) := by
  obtain ⟨np8, n0, n55⟩ := h.cf.np
  unfold fc_X11_isPartition bc_X11_isPartition_0
  by_cases c0 : x < 0
  · right; rw [if_pos c0]; exact ⟨rfl, Or.inl c0⟩
  rw [if_neg c0, vln, h.m0.cp, nnn, n0, n55]
  rcases n_cases x with hn | ⟨p, hp, rfl⟩
  · exact absurd hn c0
  by_cases c1 : W.np ≤ p
  · right; rw [if_pos ((n_le (by omega) hp).mpr c1)]; exact ⟨rfl, Or.inr ⟨c0, fun q => by have := (n_lt hp (by omega)).mp q; omega⟩⟩
  · left; rw [if_neg (fun q => c1 ((n_le (by omega) hp).mp q))]; exact ⟨p, by omega, by omega, rfl, rfl, c0, (n_lt hp (by omega)).mpr (by omega)⟩
theorem call_place (h : RC k σ ρ) (hk : k < 64) : CO k (fc_X11_place 0 σ) (fq_place ρ) := by
  obtain ⟨W, R⟩ := id h
  unfold fc_X11_place bc_X11_place_0 fq_place bq_place_0
  rw [R.oA.pl]; exact CO.same h hk _
theorem call_shown (h : RC k σ ρ) (hk : k < 64) (x : Int32) : CO k (fc_X11_shown 0 x σ) (fq_shown x ρ) := by
  obtain ⟨W, R⟩ := id h
  obtain ⟨m, ⟨hm, e1, e2⟩, e3⟩ := R.oA.sh
  unfold fc_X11_shown bc_X11_shown_0 fq_shown bq_shown_0
  refine CO.ite Iff.rfl (fun _ _ => CO.same h hk _) (fun c0 _ => ?_)
  rw [e1, e2]
  refine CO.ite Iff.rfl (fun _ _ => CO.same h hk _) (fun c1 _ => ?_)
  rcases n_cases x with hn | ⟨p, hp, rfl⟩
  · exact absurd hn c0
  have : p < m := by rw [n_le (by omega) hp] at c1; omega
  rw [n_ix (show p < 40 by omega) (by omega), n_ix (show p < 64 by omega) (by omega), n_cl hp, e3 p this]
  exact CO.same h hk _
theorem call_word (h : RC k σ ρ) (hk : k < 64) (x : Int32) : CO k (fc_X11_word 0 x σ) (fq_word x ρ) := by
  obtain ⟨W, R⟩ := id h
  obtain ⟨m, ⟨hm, e1, e2⟩, e3⟩ := R.oA.rw
  unfold fc_X11_word bc_X11_word_0 fq_word bq_word_0
  refine CO.ite Iff.rfl (fun _ _ => CO.same h hk _) (fun c0 _ => ?_)
  rw [e1, e2]
  refine CO.ite Iff.rfl (fun _ _ => CO.same h hk _) (fun c1 _ => ?_)
  rcases n_cases x with hn | ⟨p, hp, rfl⟩
  · exact absurd hn c0
  have : p < m := by rw [n_le (by omega) hp] at c1; omega
  rw [n_ix (show p < 2048 by omega) (by omega), n_ix (show p < 2048 by omega) (by omega), n_cl hp, e3 p]
  exact CO.same h hk _
theorem call_told (h : RC k σ ρ) (hk : k < 64) (x : Int32) : CO k (fc_X11_told 0 x σ) (fq_told x ρ) := by
  obtain ⟨W, R⟩ := id h
  unfold fc_X11_told bc_X11_told_0 fq_told bq_told_0
  refine CO.ite Iff.rfl (fun _ _ => ?_) (fun _ _ => CO.ite Iff.rfl (fun _ _ => ?_) (fun _ _ => CO.ite Iff.rfl (fun _ _ => ?_) (fun _ _ => CO.ite Iff.rfl (fun _ _ => ?_) (fun _ _ => CO.ite Iff.rfl (fun _ _ => ?_) (fun _ _ => CO.ite Iff.rfl (fun _ _ => ?_) (fun _ _ => CO.ite Iff.rfl (fun _ _ => ?_) (fun _ _ => CO.ite Iff.rfl (fun _ _ => ?_) (fun _ _ => CO.ite Iff.rfl (fun _ _ => ?_) (fun _ _ => CO.same h hk _)))))))))
  · exact CO.ite (by rw [R.oB.on.1]) (fun _ _ => CO.same h hk _) (fun _ _ => CO.same h hk _)
  · obtain ⟨m, e1, e2, -⟩ := R.oB.bt
    rw [e1, e2]; exact CO.same h hk _
  · obtain ⟨t, -, t1, t2⟩ := R.m0.tk
    rw [show ix (0:Int32) 2 _ = _ from n_ix (a := 0) (n := 2) (by omega) (by omega), show (0:Int32).toNatClampNeg = 0 from rfl, show σ.1 47 9 = nI t from t1, t2]; exact CO.same h hk _
  · rw [vln, show σ.2.2.1 47 3 = some W.cf from R.m0.cp, nnn, R.cf.np.2.1, R.cf.np.2.2]; exact CO.same h hk _
  · rw [vln, show σ.2.2.1 47 3 = some W.cf from R.m0.cp, nnn, R.cf.nc.2.1, R.cf.nc.2.2]; exact CO.same h hk _
  · rw [R.oB.wr]; exact CO.same h hk _
  · obtain ⟨hh, B⟩ := R.oB.ou
    rw [B.cc, B.cq]; exact CO.same h hk _
  · obtain ⟨m, ⟨hm, e1, e2⟩, e3⟩ := R.oA.rw
    rw [e1, e2]; exact CO.same h hk _
  · obtain ⟨m, ⟨hm, e1, e2⟩, e3⟩ := R.oA.tx
    rw [e1, e2]; exact CO.same h hk _
theorem call_register (h : RC k σ ρ) (hk : k < 64) (x y : Int32) : CO k (fc_X11_register 0 x y σ) (fq_register x y ρ) := by
  obtain ⟨W, R⟩ := id h
  unfold fc_X11_register bc_X11_register_0 fq_register bq_register_0
  rcases R.isP x with ⟨p, hp, p8, rfl, e1, e2, e3⟩ | ⟨e1, e2⟩
  · rw [e1, bd2n, if_neg (by decide), if_neg e2, if_neg (Int32.not_le.mpr e3)]
    refine CO.ite Iff.rfl (fun _ _ => CO.same h hk _) (fun c0 _ => ?_)
    refine CO.ite Iff.rfl (fun _ _ => CO.same h hk _) (fun c1 _ => ?_)
    rcases n_cases y with hn | ⟨r, hr, rfl⟩
    · exact absurd hn c0
    have : r < 16 := by rw [show (16:Int32) = nI 16 from rfl, n_le (by omega) hr] at c1; omega
    rw [n_ix p8 (by omega), vln, n_cl (show p < 2147483648 by omega), show 47 + 12 + cl_md 47 = 59 + 135 * 0 from rfl, R.st.pp 0 p (by omega) p8, nnn, n_ix this (by omega), n_cl hr, show 83 + 135 * 0 + 12 * p + 1 + 2 = 86 + 135 * 0 + 12 * p by omega, (R.m0.pr p hp).co.rg r this, show (16:Int32) * nI p + nI r = nI (16 * (8 * 0 + p) + r) from by rw [show (16:Int32) = nI 16 from rfl, n_mul, n_add]; congr 1; omega, n_ix (show 16 * (8 * 0 + p) + r < 256 by omega) (by omega), n_cl (by omega)]
    exact CO.same h hk _
  · rw [e1, bd2n, if_pos rfl]
    rcases e2 with e2 | ⟨e2, e3⟩
    · rw [if_pos e2]; exact CO.same h hk _
    · rw [if_neg e2, if_pos (Int32.not_lt.mp e3)]; exact CO.same h hk _
theorem call_memory (h : RC k σ ρ) (hk : k < 64) (x y : Int32) : CO k (fc_X11_memory 0 x y σ) (fq_memory x y ρ) := by
  obtain ⟨W, R⟩ := id h
  unfold fc_X11_memory bc_X11_memory_0 fq_memory bq_memory_0
  rcases R.isP x with ⟨p, hp, p8, rfl, e1, e2, e3⟩ | ⟨e1, e2⟩
  · obtain ⟨⟨b1, b2, b3, b4, b5⟩, d1, d2, d3, -⟩ := R.cf.pa p hp
    rw [e1, bd2n, if_neg (by decide), if_neg e2, if_neg (Int32.not_le.mpr e3)]
    refine CO.ite Iff.rfl (fun _ _ => CO.same h hk _) (fun c0 _ => ?_)
    rcases n_cases y with hn | ⟨r, hr, rfl⟩
    · exact absurd hn c0
    rw [n_ix p8 (by omega), vln, n_cl (show p < 2147483648 by omega), show 47 + 12 + cl_md 47 = 59 + 135 * 0 from rfl, R.st.pp 0 p (by omega) p8, nnn, show 83 + 135 * 0 + 12 * p + 1 = 84 + 135 * 0 + 12 * p by omega, (R.m0.pr p hp).co.sz]
    have i8 : ∀ {α : Type} (z : Option α), ix (nI p) 8 z = z := fun z => n_ix (by omega) (by omega)
    simp only [i8]
    rw [d2]
    by_cases c1 : r < W.sz p
    · rw [if_pos ((n_lt hr (by omega)).mpr c1), if_neg (fun q => by have := (n_le (by omega) hr).mp q; omega), vln, nnn, n_ix (show r < 2048 by omega) (by omega), n_cl hr, show 83 + 135 * 0 + 12 * p + 1 + 1 = 85 + 135 * 0 + 12 * p by omega, (R.m0.pr p hp).co.me r c1, d3, n_add, n_ix (show W.bs p + r < 16384 by omega) (by omega), n_cl (by omega), show 8192 * 0 + W.bs p + r = W.bs p + r by omega]
      exact CO.same h hk _
    · rw [if_neg (fun q => c1 ((n_lt hr (by omega)).mp q)), if_pos ((n_le (by omega) hr).mpr (by omega))]
      exact CO.same h hk _
  · rw [e1, bd2n, if_pos rfl]
    rcases e2 with e2 | ⟨e2, e3⟩
    · rw [if_pos e2]; exact CO.same h hk _
    · rw [if_neg e2, if_pos (Int32.not_lt.mp e3)]; exact CO.same h hk _
theorem call_state (h : RC k σ ρ) (hk : k < 64) (x y : Int32) : CO k (fc_X11_state 0 x y σ) (fq_state x y ρ) := by
  obtain ⟨W, R⟩ := id h
  unfold fc_X11_state bc_X11_state_0 fq_state bq_state_0
  rcases R.isP x with ⟨p, hp, p8, rfl, e1, e2, e3⟩ | ⟨e1, e2⟩
  · have P := R.m0.pr p hp
    rw [e1, bd2n, if_neg (by decide), if_neg e2, if_pos e3, n_ix p8 (by omega), vln, n_cl (show p < 2147483648 by omega), show 47 + 12 + cl_md 47 = 59 + 135 * 0 from rfl, R.st.pp 0 p (by omega) p8]
    simp only [nnn]
    rw [show 83 + 135 * 0 + 12 * p + 1 = 84 + 135 * 0 + 12 * p by omega, show 83 + 135 * 0 + 12 * p + 9 = 92 + 135 * 0 + 12 * p by omega, P.co.pc, P.co.hd, P.co.ca, P.co.wh, P.co.ha, P.co.ih]
    obtain ⟨hh, B, -⟩ := P.tb.tb
    obtain ⟨n1, ⟨-, o1, o2⟩, -⟩ := P.ou
    obtain ⟨n2, ⟨-, o3, o4⟩, -⟩ := P.ww
    obtain ⟨n3, ⟨-, o5, o6⟩, -⟩ := P.wt
    obtain ⟨n4, -, o7, o8⟩ := P.se
    have bq := B.cq
    rw [show 8 * 0 + p = p by omega] at o2 o4 o6 o8 bq ⊢
    have i16 : ∀ {α : Type} (z : Option α), ix (nI p) 16 z = z := fun z => n_ix (by omega) (by omega)
    simp only [i16]
    rw [B.cc, o1, o3, o5, o7, o2, o4, o6, o8, bq]
    refine CO.ite Iff.rfl (fun _ _ => CO.same h hk _) (fun _ _ => CO.ite Iff.rfl (fun _ _ => CO.ite Iff.rfl (fun _ _ => CO.same h hk _) (fun _ _ => CO.same h hk _)) (fun _ _ => CO.ite Iff.rfl (fun _ _ => CO.same h hk _) (fun _ _ => CO.ite Iff.rfl (fun _ _ => CO.same h hk _) (fun _ _ => CO.ite Iff.rfl (fun _ _ => CO.ite Iff.rfl (fun _ _ => CO.same h hk _) (fun _ _ => CO.same h hk _)) (fun _ _ => CO.ite Iff.rfl (fun _ _ => CO.same h hk _) (fun _ _ => CO.ite Iff.rfl (fun _ _ => CO.same h hk _) (fun _ _ => CO.ite Iff.rfl (fun _ _ => CO.same h hk _) (fun _ _ => CO.ite Iff.rfl (fun _ _ => CO.same h hk _) (fun _ _ => CO.ite Iff.rfl (fun _ _ => CO.same h hk _) (fun _ _ => CO.ite Iff.rfl (fun _ _ => CO.same h hk _) (fun _ _ => CO.same h hk _)))))))))))
  · rw [e1, bd2n, if_pos rfl]
    rcases e2 with e2 | ⟨e2, e3⟩
    · rw [if_pos e2]; exact CO.same h hk _
    · rw [if_neg e2, if_neg e3]; exact CO.same h hk _
theorem call_channel (h : RC k σ ρ) (hk : k < 64) (x y : Int32) : CO k (fc_X11_channel 0 x y σ) (fq_channel x y ρ) := by
  obtain ⟨W, R⟩ := id h
  obtain ⟨nc16, c5, c60⟩ := R.cf.nc
  have e33 := R.T.C.tms.2.2.1
  have hN := R.T.Q.n.2
  unfold fc_X11_channel bc_X11_channel_0 fq_channel bq_channel_0
  rw [vln, show σ.2.2.1 47 3 = some W.cf from R.m0.cp]
  refine CO.ite Iff.rfl (fun _ _ => CO.same h hk _) (fun c0 _ => ?_)
  rw [nnn, c5, c60]
  refine CO.ite Iff.rfl (fun c1 _ => ?_) (fun _ _ => CO.same h hk _)
  rcases n_cases x with hn | ⟨c, hc, rfl⟩
  · exact absurd hn c0
  have hc' : c < W.nc := (n_lt hc (by omega)).mp c1
  obtain ⟨-, d1, d2, d3, d4, d5, d6⟩ := R.cf.ch c hc'
  refine CO.ite Iff.rfl (fun _ _ => CO.same h hk _) (fun c2 _ => ?_)
  refine CO.ite Iff.rfl (fun c3 _ => ?_) (fun _ _ => CO.same h hk _)
  have i16 : ∀ {α : Type} (z : Option α), ix (nI c) 16 z = z := fun z => n_ix (by omega) (by omega)
  have i32 : ∀ {α : Type} (z : Option α), ix (nI c) 32 z = z := fun z => n_ix (by omega) (by omega)
  simp only [i16, i32]
  rw [n_cl hc, d1, d2, d3, d4, d5, d6, show 47 + 30 + cl_md 47 = 77 + 135 * 0 from rfl, show 47 + 31 + cl_md 47 = 78 + 135 * 0 from rfl, show 47 + 13 + cl_md 47 = 60 + 135 * 0 from rfl]
  obtain ⟨u1, u2⟩ := R.m0.ur c (by omega)
  rw [show 16 * 0 + c = c by omega] at u1 u2
  rw [u1]
  refine CO.ite Iff.rfl (fun _ _ => CO.same h hk _) (fun y0 _ => CO.ite Iff.rfl (fun _ _ => CO.same h hk _) (fun y1 _ => CO.ite Iff.rfl (fun _ _ => CO.same h hk _) (fun y2 _ => CO.ite Iff.rfl (fun _ _ => ?_) (fun y3 _ => CO.ite Iff.rfl (fun _ _ => ?_) (fun y4 _ => ?_)))))
  · rcases u2 with u2 | u2
    · rw [u2, if_pos rfl]; exact CO.same h hk _
    · rw [u2, if_neg (by decide)]; exact CO.same h hk _
  · rw [vln, vln, e33]
    have q := R.m0.st c (by omega) (Nat.lt_of_le_of_lt (Nat.zero_le _) (R.cf.ch c hc').1.1)
    rw [show 16 * 0 + c = c by omega] at q
    rcases q with ⟨q1, q2⟩ | ⟨t, ht, q2, q1⟩
    · rw [q1, q2, if_pos rfl, if_pos (by decide)]; exact CO.same h hk _
    · have ne : ¬ (some (W.tm t) = some 33) := fun q => by have := R.T.C.mem _ (R.T.L.inm t ht); have := Option.some.inj q; omega
      rw [q1, q2, if_neg ne, if_neg (n_nneg (by omega))]; exact CO.same h hk _
  · rcases n_cases y with hn | ⟨m, hm, rfl⟩
    · exact absurd hn c2
    have hm20 : m ≤ 20 := (n_le (a := m) (b := 20) hm (by omega)).mp c3
    have hm5 : 5 ≤ m := by
      apply Classical.byContradiction
      intro q
      have : m = 0 ∨ m = 1 ∨ m = 2 ∨ m = 3 ∨ m = 4 := by omega
      rcases this with rfl | rfl | rfl | rfl | rfl
      · exact y0 rfl
      · exact y1 rfl
      · exact y2 rfl
      · exact y3 rfl
      · exact y4 rfl
    obtain ⟨s1, s2⟩ := R.st.sp 0 c (by omega) (by omega)
    rw [vln, s1, nnn, s2, show nI m - (5:Int32) = nI (m - 5) from n_sub (a := m) (b := 5) hm5, n_ix (show m - 5 < 16 by omega) (by omega), n_cl (show m - 5 < 2147483648 by omega), R.m0.sn c (m - 5) (by omega) (by omega), show (16:Int32) * nI c + nI m - 5 = nI (16 * c + (m - 5)) from by rw [show (16:Int32) = nI 16 from rfl, n_mul, n_add, show (5:Int32) = nI 5 from rfl, n_sub (by omega)]; congr 1; omega, n_ix (show 16 * c + (m - 5) < 512 by omega) (by omega), n_cl (show 16 * c + (m - 5) < 2147483648 by omega), show 16 * (16 * 0 + c) + (m - 5) = 16 * c + (m - 5) by omega]
    exact CO.same h hk _
end Z2_M
