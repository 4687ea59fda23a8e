section CLP
variable {D : cl_D} {c0 : Nat} {σ σ' : cl_S} {H H1 : Heap} {a : Nat}
/-- σ' is σ but at the address a -/
def cl_off (σ σ' : cl_S) (a : Nat) : Prop := σ'.2.2.2 = σ.2.2.2 ∧ ∀ b, b ≠ a → (∀ j, σ'.1 b j = σ.1 b j) ∧ (∀ j, σ'.2.1 b j = σ.2.1 b j) ∧ ∀ j, σ'.2.2.1 b j = σ.2.2.1 b j
theorem cl_off_w (k : Nat) (v : Int32) : cl_off σ (cl_w σ a k v) a := ⟨rfl, fun b hb => ⟨fun j => up2_a hb, fun _ => rfl, fun _ => rfl⟩⟩
theorem cl_off_wl (k : Nat) (v : Int64) : cl_off σ (cl_wl σ a k v) a := ⟨rfl, fun b hb => ⟨fun _ => rfl, fun j => up2_a hb, fun _ => rfl⟩⟩
theorem cl_off_wr (k : Nat) (v : Option Nat) : cl_off σ (cl_wr σ a k v) a := ⟨rfl, fun b hb => ⟨fun _ => rfl, fun _ => rfl, fun j => up2_a hb⟩⟩
theorem cl_at_off {b t n : Nat} (h : cl_off σ σ' a) (hb : b ≠ a) (hq : H1[c0 + b]? = H[c0 + b]?) (hat : cl_at D c0 σ b t n H) : cl_at D c0 σ' b t n H1 := by
  obtain ⟨h1, h2, h3⟩ := h.2 b hb
  unfold cl_at at hat ⊢
  by_cases t0 : t = 0
  · simp [t0]
  · rw [if_neg t0] at hat ⊢
    by_cases t1 : t < 16
    · rw [if_pos t1] at hat ⊢
      rw [hq, hat]
      unfold cl_arr
      simp only [h1, h2, h3]
    · rw [if_neg t1] at hat ⊢
      refine (hat.kept hq).to (fun k _ => ?_)
      unfold cl_V
      simp only [h1, h2, h3]
theorem cl_wt_same (hI : σ'.2.2.1 = σ.2.2.1) (hT : σ'.2.2.2 = σ.2.2.2) (h : cl_wt σ) : cl_wt σ' := by
  unfold cl_wt at h ⊢
  rw [hI, hT]
  exact h
theorem cl_lay_same (hI : σ'.2.2.1 = σ.2.2.1) (hT : σ'.2.2.2 = σ.2.2.2) (h : cl_lay σ) : cl_lay σ' := by
  unfold cl_lay at h ⊢
  rw [hI, hT]
  exact h
theorem cl_P_set (h : cl_P D c0 σ H) (ho : cl_off σ σ' a) (z : H1.size = H.size) (oq : ∀ q : Nat, q ≠ c0 + a → H1[q]? = H[q]?) (hat : cl_at D c0 σ' a (σ.2.2.2.1 a).1 (σ.2.2.2.1 a).2 H1) (hw : cl_wt σ') : cl_P D c0 σ' H1 := by
  obtain ⟨h1, h2, h3, h4, h5⟩ := h
  refine ⟨by rw [z, ho.1]; exact h1, by rw [ho.1]; exact h2, fun b => ?_, hw, h5.1, fun q hq => by rw [oq q (by have := h5.1; omega)]; exact h5.2 q hq⟩
  rw [ho.1]
  by_cases hb : b = a
  · subst hb; exact hat
  · exact cl_at_off ho hb (oq (c0 + b) (by omega)) (h3 b)
theorem cl_wt_wr {k : Nat} {v : Option Nat} (h : cl_wt σ) (hv : ∀ K, (16 ≤ (σ.2.2.2.1 a).1 → 2 ≤ cl_fd (cl_ci (σ.2.2.2.1 a).1) k → K = cl_tk (cl_fd (cl_ci (σ.2.2.2.1 a).1) k) → cl_RT σ.2.2.2.1 v K) ∧ (4 ≤ (σ.2.2.2.1 a).1 → (σ.2.2.2.1 a).1 < 16 → K = cl_el (σ.2.2.2.1 a).1 → cl_RT σ.2.2.2.1 v K)) : cl_wt (cl_wr σ a k v) := by
  refine ⟨fun b j h1 h2 => ?_, fun b j h1 h2 h3 => ?_⟩
  · show cl_RT σ.2.2.2.1 (up2 σ.2.2.1 a k v b j) _
    by_cases e : b = a ∧ j = k
    · obtain ⟨rfl, rfl⟩ := e
      rw [up2_s]
      exact (hv _).1 h1 h2 rfl
    · unfold up2
      rw [if_neg e]
      exact h.1 b j h1 h2
  · show cl_RT σ.2.2.2.1 (up2 σ.2.2.1 a k v b j) _
    by_cases e : b = a ∧ j = k
    · obtain ⟨rfl, rfl⟩ := e
      rw [up2_s]
      exact (hv _).2 h1 h2 rfl
    · unfold up2
      rw [if_neg e]
      exact h.2 b j h1 h2 h3
theorem cl_lay_wr {k : Nat} {v : Option Nat} (h : cl_lay σ) (hk : (∃ ci, (σ.2.2.2.1 a).1 = 16 + ci ∧ ∀ e ∈ cl_layL.getD ci [], e.1 ≠ k) ∨ (σ.2.2.2.1 a).1 < 16 ∨ 116 ≤ (σ.2.2.2.1 a).1) : cl_lay (cl_wr σ a k v) := by
  intro b ci hb hci e he
  show up2 σ.2.2.1 a k v b e.1 = _ ∧ _
  have hne : ¬ (b = a ∧ e.1 = k) := by
    rintro ⟨rfl, hek⟩
    have hb' : (σ.2.2.2.1 b).1 = 16 + ci := hb
    rcases hk with ⟨cj, h1, h2⟩ | h1 | h1
    · have : ci = cj := by omega
      subst this
      exact h2 e he hek
    · omega
    · omega
  unfold up2
  rw [if_neg hne]
  exact h b ci hb hci e he
end CLP
section CLR
variable {p : Program} {l : Launch} {e : Env} {R : Room} {s : State} {m : MethodId} {args : Array Value} {below : List Frame} {meth : Method} {c : Code} {H : Heap} {locs : List Loc} {cells slots : Nat} {Q : State → Prop}
variable {cc : ByteArray} {pc nL : Nat} {ls : Array Slot} {rest : List Value} {b : Bool} {D : cl_D} {c0 : Nat} {T0 T : Nat → Nat × Nat} {σ : cl_S} {ret : Option FieldType} {own : String}
theorem cl_ci_16 {ci : Nat} (h : ci < 100) : cl_ci (16 + ci) = ci := by unfold cl_ci; rw [if_pos (by omega)]; omega
theorem cl_ci_116 (ci : Nat) : cl_ci (116 + ci) = ci := by unfold cl_ci; rw [if_neg (by omega)]; omega
theorem cl_cls_lt {ci : Nat} {q : vw_C} (h : cl_cls[ci]? = some q) : ci < 100 := Nat.lt_of_lt_of_le (List.getElem?_eq_some_iff.mp h).1 (by decide)
theorem cl_obj (G : cl_G b D c0 R s T0 T σ H locs cells slots) {a ci N : Nat} (hN : cl_N ci = N) (ha : (T a).1 = 16 + ci) (hci : ci < 100) : t_OB (c0 + a) (D.1 ci) N (D.2.1 ci) H (cl_V c0 D.2.2.2.2.1 false σ a ci) := by
  have h := G.2.1.2.2.1 a
  rw [G.1] at h
  unfold cl_at at h
  rw [if_neg (by omega), if_neg (by omega)] at h
  rw [ha, cl_ci_16 hci, hN, show decide (116 ≤ 16 + ci) = false from decide_eq_false (by omega)] at h
  exact h
theorem cl_get (C : cl_C D p s m args meth c cc nL ret own) (G : cl_G b D c0 R s T0 T σ H locs cells slots) {a ci k idx N : Nat} {Cn : String} {Tn : u_T} (hc : cl_cls[ci]? = some (Cn, Tn, N)) (hN : cl_N ci = N) (ha : (T a).1 = 16 + ci) (hk : k < N) (hin : ∀ w ∈ u_ws Cn Tn N, w ∈ rf_tb) (hl : Cond.fieldLink own idx Cn (Tn k).2.1 (Tn k).2.2.1 ∈ rf_tb) (hf : (Tn k).1 = Cn) {v : Value} (hv : cl_V c0 D.2.2.2.2.1 false σ a ci k = v) (hdg : decode cc pc = .ok (.getfield idx, 3))
    (kk : W p l e R s m args below meth c H locs cells slots Q (F0 m (pc + 3) ls (v :: rest))) : W p l e R s m args below meth c H locs cells slots Q (F0 m pc ls (.ref (c0 + a) :: rest)) := by
  obtain ⟨cell, q1, q2, q3, q4⟩ := cl_obj G hN ha (cl_cls_lt hc)
  obtain ⟨hx, hb, -, hown, hts, hK, -, -⟩ := C
  obtain ⟨hS, hfc, kC, hkC, hkind⟩ := hK.1 ci _ hc
  obtain ⟨cf, kf, fi, f, hfi, hsl⟩ := hS k hk
  have hl := hts _ hl
  have hfi2 := hfi
  rw [hf] at hfi2
  refine W.getf hx hb hown hl hfi2 (u_facts hfc hkC (u_lays hts hin hk) hfi).1 q1 (by rw [q3]; exact fun h => by cases h) (v := v) ?_ rfl rfl hdg kk
  rw [hsl, q4 k hk, hv]
theorem cl_apart (C : cl_C D p s m args meth c cc nL ret own) {ci N : Nat} {Cn : String} {Tn : u_T} (hc : cl_cls[ci]? = some (Cn, Tn, N)) (hin : ∀ w ∈ u_ws Cn Tn N, w ∈ rf_tb) (ty : Nat → FieldType) (hty : ∀ k, k < N → parseFieldDescriptor (Tn k).2.2.1 = some (ty k)) (hnm : ∀ a, a < N → ∀ b, b < N → a ≠ b → (Tn a).2.1 ≠ (Tn b).2.1) : ∀ x y, x < N → y < N → x ≠ y → D.2.1 ci x ≠ D.2.1 ci y := by
  obtain ⟨hx, hb, -, hown, hts, hK, -, -⟩ := C
  have hK2 : va_K (D.1, D.2.1) cl_cls [] s := ⟨hK.1, fun k q h => by simp at h⟩
  exact va_apart (own := own) (C := Cn) (T := Tn) (N := N) (ci := ci) hts hin ty hty hnm hK2 hc
theorem cl_lt (G : cl_G b D c0 R s T0 T σ H locs cells slots) {a : Nat} (ha : (T a).1 ≠ 0) : c0 + a < H.size := by
  obtain ⟨hT, hP, -⟩ := G
  have h := hP.2.1 a
  rw [hP.1]
  rw [hT] at h
  rcases Nat.lt_or_ge a σ.2.2.2.2.1 with q | q
  · omega
  · exact absurd (h q) ha
theorem cl_A_in (G : cl_G b D c0 R s T0 T σ H locs cells slots) {a : Nat} (ha : (T a).1 ≠ 0) : cl_A c0 T0 s.heap.size (c0 + a) := by
  by_cases h : s.heap.size ≤ c0 + a
  · exact Or.inl h
  · refine Or.inr ⟨Nat.le_add_right _ _, ?_⟩
    rw [Nat.add_sub_cancel_left, ← G.2.2.2.2.1 a (by omega)]
    exact ha
theorem cl_Gset {H1 : Heap} {σ' : cl_S} {a k : Nat} (G : cl_G b D c0 R s T0 T σ H locs cells slots) (ha : (T a).1 ≠ 0) (ho : cl_off σ σ' a) (z : H1.size = H.size) (oq : ∀ q : Nat, q ≠ c0 + a → H1[q]? = H[q]?) (hat : cl_at D c0 σ' a (T a).1 (T a).2 H1) (hw : cl_wt σ') (hlay : b = true → cl_lay σ') : cl_G b D c0 R s T0 T σ' H1 (locs ++ [⟨c0 + a, k⟩]) cells slots := by
  have hA := cl_A_in G ha
  obtain ⟨hT, hP, -, hS, hup, hc1, hc2⟩ := G
  subst hT
  refine ⟨by rw [ho.1], cl_P_set hP ho z oq hat hw, hlay, hS.put z oq hA, hup, by rw [ho.1]; exact hc1, by rw [ho.1]; exact hc2⟩
theorem cl_put (C : cl_C D p s m args meth c cc nL ret own) (G : cl_G b D c0 R s T0 T σ H locs cells slots) {a ci k idx N : Nat} {Cn : String} {Tn : u_T} (hc : cl_cls[ci]? = some (Cn, Tn, N)) (hN : cl_N ci = N) (ha : (T a).1 = 16 + ci) (hk : k < N) (hin : ∀ w ∈ u_ws Cn Tn N, w ∈ rf_tb) (ty0 : Nat → FieldType) (hty : ∀ k, k < N → parseFieldDescriptor (Tn k).2.2.1 = some (ty0 k)) (hnm : ∀ a, a < N → ∀ b, b < N → a ≠ b → (Tn a).2.1 ≠ (Tn b).2.1) (hl : Cond.fieldLink own idx Cn (Tn k).2.1 (Tn k).2.2.1 ∈ rf_tb) (hf : (Tn k).1 = Cn) (hfin : (Tn k).2.2.2 = false) {v : Value} (hn : narrow (ty0 k) v = v) (hfit : fits (ty0 k) v = true) {σ' : cl_S} (ho : cl_off σ σ' a) (hV : ∀ j, j < N → updV (cl_V c0 D.2.2.2.2.1 false σ a ci) k v j = cl_V c0 D.2.2.2.2.1 false σ' a ci j) (hw : cl_wt σ') (hlay : b = true → cl_lay σ') (hdg : decode cc pc = .ok (.putfield idx, 3))
    (kk : ∀ (H1 : Heap) (locs1 : List Loc), cl_G b D c0 R s T0 T σ' H1 locs1 cells slots → W p l e R s m args below meth c H1 locs1 cells slots Q (F0 m (pc + 3) ls rest)) : W p l e R s m args below meth c H locs cells slots Q (F0 m pc ls (v :: .ref (c0 + a) :: rest)) := by
  have hap := cl_apart C hc hin ty0 hty hnm
  obtain ⟨cell, q1, q2, q3, q4⟩ := cl_obj G hN ha (cl_cls_lt hc)
  obtain ⟨hx, hb, -, hown, hts, hK, -, -⟩ := C
  obtain ⟨hS, hfc, kC, hkC, hkind⟩ := hK.1 ci _ hc
  obtain ⟨cf, kf, fi, f, hfi, hsl⟩ := hS k hk
  have hl := hts _ hl
  have hlay2 := hts _ (hin _ (u_in_lay hk))
  unfold u_lay at hlay2
  rw [if_neg (by rw [hfin]; decide)] at hlay2
  have hst := (u_facts hfc hkC (u_lays hts hin hk) hfi).1
  have h6 := u_store hfc hkC hkind hlay2 hfi (hty k hk) hn hfit
  rw [hf] at hfi
  refine W.putK hx hb (f := f) ⟨hown, hl, ⟨_, _, _, hfi⟩, hst⟩ (by rw [q2]; exact h6) q1 q3 (by rw [hsl]; exact k2_hasslot (q4 k hk)) rfl rfl hdg fun H' e1 e2 e3 => ?_
  rw [hsl] at e1 ⊢
  refine kk H' _ (cl_Gset G (by omega) ho e2 e3 ?_ hw hlay)
  unfold cl_at
  rw [if_neg (by omega), if_neg (by omega), ha, cl_ci_16 (cl_cls_lt hc), hN, show decide (116 ≤ 16 + ci) = false from decide_eq_false (by have := cl_cls_lt hc; omega)]
  exact t_OB.to (V := updV (cl_V c0 D.2.2.2.2.1 false σ a ci) k v) ⟨_, e1, q2, q3, t_set q4 hap hk v⟩ hV
theorem cl_putF (C : cl_C D p s m args meth c cc nL ret own) (G : cl_G b D c0 R s T0 T σ H locs cells slots) {a ci k idx N : Nat} {Cn : String} {Tn : u_T} (hc : cl_cls[ci]? = some (Cn, Tn, N)) (hN : cl_N ci = N) (ha : (T a).1 = 16 + ci) (hk : k < N) (hin : ∀ w ∈ u_ws Cn Tn N, w ∈ rf_tb) (ty0 : Nat → FieldType) (hty : ∀ k, k < N → parseFieldDescriptor (Tn k).2.2.1 = some (ty0 k)) (hnm : ∀ a, a < N → ∀ b, b < N → a ≠ b → (Tn a).2.1 ≠ (Tn b).2.1) (hl : Cond.fieldLink own idx Cn (Tn k).2.1 (Tn k).2.2.1 ∈ rf_tb) (hf : (Tn k).1 = Cn) (hdecl : Cn = own) (hfin : (Tn k).2.2.2 = true) (hini : meth.name = "<init>") {v : Value} (hn : narrow (ty0 k) v = v) (hfit : fits (ty0 k) v = true) {σ' : cl_S} (ho : cl_off σ σ' a) (hV : ∀ j, j < N → updV (cl_V c0 D.2.2.2.2.1 false σ a ci) k v j = cl_V c0 D.2.2.2.2.1 false σ' a ci j) (hw : cl_wt σ') (hlay : b = true → cl_lay σ') (hdg : decode cc pc = .ok (.putfield idx, 3))
    (kk : ∀ (H1 : Heap) (locs1 : List Loc), cl_G b D c0 R s T0 T σ' H1 locs1 cells slots → W p l e R s m args below meth c H1 locs1 cells slots Q (F0 m (pc + 3) ls rest)) : W p l e R s m args below meth c H locs cells slots Q (F0 m pc ls (v :: .ref (c0 + a) :: rest)) := by
  have hap := cl_apart C hc hin ty0 hty hnm
  obtain ⟨cell, q1, q2, q3, q4⟩ := cl_obj G hN ha (cl_cls_lt hc)
  obtain ⟨hx, hb, -, hown, hts, hK, -, -⟩ := C
  obtain ⟨hS, hfc, kC, hkC, hkind⟩ := hK.1 ci _ hc
  obtain ⟨cf, kf, fi, f, hfi, hsl⟩ := hS k hk
  have hl := hts _ hl
  have hlay2 := hts _ (hin _ (u_in_lay hk))
  unfold u_lay at hlay2
  rw [if_pos hfin] at hlay2
  have hst := (u_facts hfc hkC (u_lays hts hin hk) hfi).1
  have hcf : m.cls = cf := by
    obtain ⟨_, _, c', _, _, _, -, -, hf', -, -, -, hown2, -⟩ := Cond.laysFinal_spec hlay2
    have e1 : c' = cf := by have := hfi.symm.trans hf'; simp at this; exact this.1.symm
    rw [hf, hdecl] at hown2
    rw [← e1]; exact Option.some.inj (hown.symm.trans hown2)
  have h6 := u_fits hfc hkC hkind (Or.inr hlay2) hfi (hty k hk) hn hfit
  rw [hf] at hfi
  refine W.putFinK hx hb hown hl hfi hst hcf hini (by rw [q2]; exact h6) q1 q3 (by rw [hsl]; exact k2_hasslot (q4 k hk)) rfl rfl hdg fun H' e1 e2 e3 => ?_
  rw [hsl] at e1 ⊢
  refine kk H' _ (cl_Gset G (by omega) ho e2 e3 ?_ hw hlay)
  unfold cl_at
  rw [if_neg (by omega), if_neg (by omega), ha, cl_ci_16 (cl_cls_lt hc), hN, show decide (116 ≤ 16 + ci) = false from decide_eq_false (by have := cl_cls_lt hc; omega)]
  exact t_OB.to (V := updV (cl_V c0 D.2.2.2.2.1 false σ a ci) k v) ⟨_, e1, q2, q3, t_set q4 hap hk v⟩ hV
theorem cl_Vw (x : Int32) {zw a ci k : Nat} {raw : Bool} (hk : cl_fd ci k = 0) : ∀ j, updV (cl_V c0 zw raw σ a ci) k (.int x) j = cl_V c0 zw raw (cl_w σ a k x) a ci j := by
  intro j
  by_cases h : j = k
  · subst h
    simp [updV, cl_V, hk, cl_w, up2_s]
  · simp only [updV, h, if_false]
    unfold cl_V
    split <;> simp [cl_w, up2_k h]
theorem cl_Vwl (x : Int64) {zw a ci k : Nat} {raw : Bool} (hk : cl_fd ci k = 1) : ∀ j, updV (cl_V c0 zw raw σ a ci) k (.long x) j = cl_V c0 zw raw (cl_wl σ a k x) a ci j := by
  intro j
  by_cases h : j = k
  · subst h
    simp [updV, cl_V, hk, cl_wl, up2_s]
  · simp only [updV, h, if_false]
    unfold cl_V
    split <;> simp [cl_wl, up2_k h]
theorem cl_Vwr (x : Option Nat) {zw a ci k : Nat} {raw : Bool} (hk : 3 ≤ cl_fd ci k) : ∀ j, updV (cl_V c0 zw raw σ a ci) k (cl_rf c0 x) j = cl_V c0 zw raw (cl_wr σ a k x) a ci j := by
  intro j
  by_cases h : j = k
  · subst h
    simp only [updV, if_true]
    unfold cl_V
    split
    · omega
    · omega
    · omega
    · simp [cl_wr, up2_s]
  · simp only [updV, h, if_false]
    unfold cl_V
    split <;> simp [cl_wr, up2_k h]
theorem cl_arrI (G : cl_G b D c0 R s T0 T σ H locs cells slots) {a t n : Nat} (ha : T a = (t, n)) (h0 : t ≠ 0) (h2 : t ≠ 2) (h4 : t < 4) : H[c0 + a]? = some (arrV (D.2.2.1 t) n (fun j => .int (σ.1 a j))) := by
  have h := G.2.1.2.2.1 a
  rw [G.1, ha] at h
  unfold cl_at at h
  rw [if_neg h0, if_pos (by omega)] at h
  rw [h]
  unfold cl_arr
  rw [if_neg h2, if_pos h4]
theorem cl_arrL (G : cl_G b D c0 R s T0 T σ H locs cells slots) {a n : Nat} (ha : T a = (2, n)) : H[c0 + a]? = some (arrV (D.2.2.1 2) n (fun j => .long (σ.2.1 a j))) := by
  have h := G.2.1.2.2.1 a
  rw [G.1, ha] at h
  exact h
theorem cl_arrR (G : cl_G b D c0 R s T0 T σ H locs cells slots) {a t n : Nat} (ha : T a = (t, n)) (h4 : 4 ≤ t) (h7 : t < 7) : H[c0 + a]? = some (arrV (D.2.2.1 t) n (fun j => cl_rf c0 (σ.2.2.1 a j))) := by
  have h := G.2.1.2.2.1 a
  rw [G.1, ha] at h
  unfold cl_at at h
  rw [if_neg (by omega), if_pos (by omega)] at h
  rw [h]
  unfold cl_arr
  rw [if_neg (by omega), if_neg (by omega)]
theorem cl_iald (C : cl_C D p s m args meth c cc nL ret own) (G : cl_G b D c0 R s T0 T σ H locs cells slots) {a n : Nat} (ha : T a = (1, n)) {i : Int32} (hin : vp_in i n) (hdg : decode cc pc = .ok (.iaload, 1))
    (kk : W p l e R s m args below meth c H locs cells slots Q (F0 m (pc + 1) ls (.int (σ.1 a i.toNatClampNeg) :: rest))) : W p l e R s m args below meth c H locs cells slots Q (F0 m pc ls (.int i :: .ref (c0 + a) :: rest)) :=
  W.iald C.1 C.2.1 (cl_arrI G ha (by decide) (by decide) (by decide)) ((C.2.2.2.2.2.1.2.1 1 (by decide) (by decide)).1 _ _) (fun q => by cases q) (rf_hin hin) (rf_hrd hin) rfl rfl hdg kk
theorem cl_cald (C : cl_C D p s m args meth c cc nL ret own) (G : cl_G b D c0 R s T0 T σ H locs cells slots) {a n : Nat} (ha : T a = (3, n)) {i : Int32} (hin : vp_in i n) (hdg : decode cc pc = .ok (.caload, 1))
    (kk : W p l e R s m args below meth c H locs cells slots Q (F0 m (pc + 1) ls (.int (σ.1 a i.toNatClampNeg) :: rest))) : W p l e R s m args below meth c H locs cells slots Q (F0 m pc ls (.int i :: .ref (c0 + a) :: rest)) :=
  W.cald C.1 C.2.1 (cl_arrI G ha (by decide) (by decide) (by decide)) ((C.2.2.2.2.2.1.2.1 3 (by decide) (by decide)).1 _ _) (fun q => by cases q) (rf_hin hin) (rf_hrd hin) rfl rfl hdg kk
theorem cl_lald (C : cl_C D p s m args meth c cc nL ret own) (G : cl_G b D c0 R s T0 T σ H locs cells slots) {a n : Nat} (ha : T a = (2, n)) {i : Int32} (hin : vp_in i n) (hdg : decode cc pc = .ok (.laload, 1))
    (kk : W p l e R s m args below meth c H locs cells slots Q (F0 m (pc + 1) ls (.long (σ.2.1 a i.toNatClampNeg) :: rest))) : W p l e R s m args below meth c H locs cells slots Q (F0 m pc ls (.int i :: .ref (c0 + a) :: rest)) :=
  W.lald C.1 C.2.1 (cl_arrL G ha) ((C.2.2.2.2.2.1.2.1 2 (by decide) (by decide)).1 _ _) (fun q => by cases q) (rf_hin hin) (rf_hrd hin) rfl rfl hdg kk
theorem cl_alen (C : cl_C D p s m args meth c cc nL ret own) (G : cl_G b D c0 R s T0 T σ H locs cells slots) {a n : Nat} (ha : T a = (1, n)) (hdg : decode cc pc = .ok (.arraylength, 1))
    (kk : W p l e R s m args below meth c H locs cells slots Q (F0 m (pc + 1) ls (.int (nI n) :: rest))) : W p l e R s m args below meth c H locs cells slots Q (F0 m pc ls (.ref (c0 + a) :: rest)) :=
  W.alen C.1 C.2.1 (cl_arrI G ha (by decide) (by decide) (by decide)) ((C.2.2.2.2.2.1.2.1 1 (by decide) (by decide)).1 _ _) (by rw [arrV_size]; rfl) rfl rfl hdg kk
theorem cl_alenC (C : cl_C D p s m args meth c cc nL ret own) (G : cl_G b D c0 R s T0 T σ H locs cells slots) {a n : Nat} (ha : T a = (3, n)) (hdg : decode cc pc = .ok (.arraylength, 1))
    (kk : W p l e R s m args below meth c H locs cells slots Q (F0 m (pc + 1) ls (.int (nI n) :: rest))) : W p l e R s m args below meth c H locs cells slots Q (F0 m pc ls (.ref (c0 + a) :: rest)) :=
  W.alen C.1 C.2.1 (cl_arrI G ha (by decide) (by decide) (by decide)) ((C.2.2.2.2.2.1.2.1 3 (by decide) (by decide)).1 _ _) (by rw [arrV_size]; rfl) rfl rfl hdg kk
theorem cl_Gs {H1 : Heap} (G : cl_G b D c0 R s T0 T σ H locs cells slots) {a t n : Nat} (ha : T a = (t, n)) (h0 : t ≠ 0) (h2 : t ≠ 2) (h4 : t < 4) {x : Int32} {k : Nat} (e : H1[c0 + a]? = some ((arrV (D.2.2.1 t) n (fun j => .int (σ.1 a j))).setSlot k (.int x))) (z : H1.size = H.size) (oq : ∀ q : Nat, q ≠ c0 + a → H1[q]? = H[q]?) : cl_G b D c0 R s T0 T (cl_w σ a k x) H1 (locs ++ [⟨c0 + a, k⟩]) cells slots := by
  refine cl_Gset G (by rw [ha]; exact h0) (cl_off_w k x) z oq ?_ (cl_wt_same rfl rfl G.2.1.2.2.2.1) (fun hb => cl_lay_same rfl rfl (G.2.2.1 hb))
  unfold cl_at
  rw [ha]
  dsimp only
  rw [if_neg h0, if_pos (by omega), e, arrV_store]
  unfold cl_arr
  rw [if_neg h2, if_pos h4]
  congr 2
  funext q
  by_cases hq : q = k
  · subst hq
    simp [updV, cl_w, up2_s]
  · simp [updV, hq, cl_w, up2_k hq]
theorem cl_Gsl {H1 : Heap} (G : cl_G b D c0 R s T0 T σ H locs cells slots) {a n : Nat} (ha : T a = (2, n)) {x : Int64} {k : Nat} (e : H1[c0 + a]? = some ((arrV (D.2.2.1 2) n (fun j => .long (σ.2.1 a j))).setSlot k (.long x))) (z : H1.size = H.size) (oq : ∀ q : Nat, q ≠ c0 + a → H1[q]? = H[q]?) : cl_G b D c0 R s T0 T (cl_wl σ a k x) H1 (locs ++ [⟨c0 + a, k⟩]) cells slots := by
  refine cl_Gset G (by rw [ha]; exact (by decide : (2:Nat) ≠ 0)) (cl_off_wl k x) z oq ?_ (cl_wt_same rfl rfl G.2.1.2.2.2.1) (fun hb => cl_lay_same rfl rfl (G.2.2.1 hb))
  unfold cl_at
  rw [ha]
  dsimp only
  rw [if_neg (by decide), if_pos (by decide), e, arrV_store]
  unfold cl_arr
  rw [if_pos rfl]
  congr 2
  funext q
  by_cases hq : q = k
  · subst hq
    simp [updV, cl_wl, up2_s]
  · simp [updV, hq, cl_wl, up2_k hq]
theorem cl_iast (C : cl_C D p s m args meth c cc nL ret own) (G : cl_G b D c0 R s T0 T σ H locs cells slots) {a n : Nat} (ha : T a = (1, n)) {i x : Int32} (hin : vp_in i n) (hdg : decode cc pc = .ok (.iastore, 1))
    (kk : ∀ (H1 : Heap) (locs1 : List Loc), cl_G b D c0 R s T0 T (cl_w σ a i.toNatClampNeg x) H1 locs1 cells slots → W p l e R s m args below meth c H1 locs1 cells slots Q (F0 m (pc + 1) ls rest)) : W p l e R s m args below meth c H locs cells slots Q (F0 m pc ls (.int x :: .int i :: .ref (c0 + a) :: rest)) :=
  W.iast C.1 C.2.1 (cl_arrI G ha (by decide) (by decide) (by decide)) ((C.2.2.2.2.2.1.2.1 1 (by decide) (by decide)).1 _ _) (fun q => by cases q) (rf_hin hin) rfl rfl hdg fun H1 e z oq => kk H1 _ (cl_Gs G ha (by decide) (by decide) (by decide) e z oq)
theorem cl_cast (C : cl_C D p s m args meth c cc nL ret own) (G : cl_G b D c0 R s T0 T σ H locs cells slots) {a n : Nat} (ha : T a = (3, n)) {i x : Int32} (hin : vp_in i n) (hdg : decode cc pc = .ok (.castore, 1))
    (kk : ∀ (H1 : Heap) (locs1 : List Loc), cl_G b D c0 R s T0 T (cl_w σ a i.toNatClampNeg (vp_nar .char x)) H1 locs1 cells slots → W p l e R s m args below meth c H1 locs1 cells slots Q (F0 m (pc + 1) ls rest)) : W p l e R s m args below meth c H locs cells slots Q (F0 m pc ls (.int x :: .int i :: .ref (c0 + a) :: rest)) :=
  W.cast C.1 C.2.1 (cl_arrI G ha (by decide) (by decide) (by decide)) ((C.2.2.2.2.2.1.2.1 3 (by decide) (by decide)).1 _ _) (fun q => by cases q) (rf_hin hin) rfl rfl hdg fun H1 e z oq => kk H1 _ (cl_Gs G ha (by decide) (by decide) (by decide) (x := vp_nar .char x) e z oq)
theorem cl_last (C : cl_C D p s m args meth c cc nL ret own) (G : cl_G b D c0 R s T0 T σ H locs cells slots) {a n : Nat} (ha : T a = (2, n)) {i : Int32} {x : Int64} (hin : vp_in i n) (hdg : decode cc pc = .ok (.lastore, 1))
    (kk : ∀ (H1 : Heap) (locs1 : List Loc), cl_G b D c0 R s T0 T (cl_wl σ a i.toNatClampNeg x) H1 locs1 cells slots → W p l e R s m args below meth c H1 locs1 cells slots Q (F0 m (pc + 1) ls rest)) : W p l e R s m args below meth c H locs cells slots Q (F0 m pc ls (.long x :: .int i :: .ref (c0 + a) :: rest)) :=
  W.last C.1 C.2.1 (cl_arrL G ha) ((C.2.2.2.2.2.1.2.1 2 (by decide) (by decide)).1 _ _) (fun q => by cases q) (rf_hin hin) rfl rfl hdg fun H1 e z oq => kk H1 _ (cl_Gsl G ha e z oq)
theorem cl_aald (C : cl_C D p s m args meth c cc nL ret own) (G : cl_G b D c0 R s T0 T σ H locs cells slots) {a t n : Nat} (ha : T a = (t, n)) (h4 : 4 ≤ t) (h7 : t < 7) (hri : (cl_T t).isReference = true) {i : Int32} (hin : vp_in i n) (hdg : decode cc pc = .ok (.aaload, 1))
    (kk : cl_RT T (σ.2.2.1 a i.toNatClampNeg) (cl_el t) → W p l e R s m args below meth c H locs cells slots Q (F0 m (pc + 1) ls (cl_rf c0 (σ.2.2.1 a i.toNatClampNeg) :: rest))) : W p l e R s m args below meth c H locs cells slots Q (F0 m pc ls (.int i :: .ref (c0 + a) :: rest)) := by
  have hlt : i.toNatClampNeg < n := Nat.not_le.mp fun q => hin (Or.inr q)
  have ht := G.2.1.2.2.2.1.2 a i.toNatClampNeg (by rw [G.1, ha]; exact h4) (by rw [G.1, ha]; show t < 16; omega) (by rw [G.1, ha]; exact hlt)
  rw [G.1, ha] at ht
  exact W.aald C.1 C.2.1 (cl_arrR G ha h4 h7) ((C.2.2.2.2.2.1.2.1 t (by omega) h7).1 _ _) hri (fun q => by cases q) (rf_hin hin) (rf_hrd hin) rfl rfl hdg (kk ht)
theorem cl_Gsr {H1 : Heap} (G : cl_G b D c0 R s T0 T σ H locs cells slots) {a t n : Nat} (ha : T a = (t, n)) (h4 : 4 ≤ t) (h7 : t < 7) {x : Option Nat} (hx : cl_RT T x (cl_el t)) {k : Nat} (e : H1[c0 + a]? = some ((arrV (D.2.2.1 t) n (fun j => cl_rf c0 (σ.2.2.1 a j))).setSlot k (cl_rf c0 x))) (z : H1.size = H.size) (oq : ∀ q : Nat, q ≠ c0 + a → H1[q]? = H[q]?) : cl_G b D c0 R s T0 T (cl_wr σ a k x) H1 (locs ++ [⟨c0 + a, k⟩]) cells slots := by
  have hTa : (σ.2.2.2.1 a).1 = t := by rw [G.1, ha]
  refine cl_Gset G (by rw [ha]; show t ≠ 0; omega) (cl_off_wr k x) z oq ?_ (cl_wt_wr G.2.1.2.2.2.1 (fun K => ⟨fun h1 _ _ => by rw [hTa] at h1; omega, fun _ _ h3 => by rw [h3, hTa, G.1]; exact hx⟩)) (fun hb => cl_lay_wr (G.2.2.1 hb) (Or.inr (Or.inl (by rw [hTa]; omega))))
  unfold cl_at
  rw [ha]
  dsimp only
  rw [if_neg (by omega), if_pos (by omega), e, arrV_store]
  unfold cl_arr
  rw [if_neg (by omega), if_neg (by omega)]
  congr 2
  funext q
  by_cases hq : q = k
  · subst hq
    simp [updV, cl_wr, up2_s]
  · simp [updV, hq, cl_wr, up2_k hq]
/-- a reference is stored into an array of objects of the class ci -/
theorem cl_aast (C : cl_C D p s m args meth c cc nL ret own) (G : cl_G b D c0 R s T0 T σ H locs cells slots) {a t n ci : Nat} {q : vw_C} (hc : cl_cls[ci]? = some q) (ht : cl_T t = .object q.1) (hci : cl_el t = 16 + ci) (ha : T a = (t, n)) (h4 : 4 ≤ t) (h7 : t < 7) {x : Option Nat} (hx : cl_RT T x (cl_el t)) {i : Int32} (hin : vp_in i n) (hdg : decode cc pc = .ok (.aastore, 1))
    (kk : ∀ (H1 : Heap) (locs1 : List Loc), cl_G b D c0 R s T0 T (cl_wr σ a i.toNatClampNeg x) H1 locs1 cells slots → W p l e R s m args below meth c H1 locs1 cells slots Q (F0 m (pc + 1) ls rest)) : W p l e R s m args below meth c H locs cells slots Q (F0 m pc ls (cl_rf c0 x :: .int i :: .ref (c0 + a) :: rest)) := by
  have hcell := cl_arrR G ha h4 h7
  obtain ⟨hAr, hRA⟩ := C.2.2.2.2.2.1.2.1 t (by omega) h7
  have hKc := C.2.2.2.2.2.1.1 ci q hc
  rw [ht] at hAr hRA
  cases x with
  | none =>
    exact va_WaastN (C := q.1) C.1 C.2.1 hcell (hAr n _) (fun h => by cases h) (rf_hin hin) rfl rfl hdg fun H1 e z oq => kk H1 _ (cl_Gsr G ha h4 h7 hx e z oq)
  | some v =>
    have hlt : i.toNatClampNeg < n := Nat.not_le.mp fun q => hin (Or.inr q)
    have h0 : ¬ i < 0 := fun q => hin (Or.inl q)
    obtain ⟨cellV, g1, g2, g3, -⟩ := cl_obj G (ci := ci) rfl (by rw [← hci]; exact hx v rfl) (cl_cls_lt hc)
    obtain ⟨kA, comp, k1, k2, k3, -⟩ := hRA
    have hcls := hKc.2
    have hcomp : comp = D.1 ci := Option.some.inj (k3.symm.trans hcls.1)
    subst hcomp
    obtain ⟨kC, hkC, -⟩ := hcls.2
    exact W.aast C.1 C.2.1 hcell (fun q h => by cases h) (fun h => by cases h) k1 k2 rfl hkC ⟨h0, by show _ < (arrV _ _ _).slots.size; rw [arrV_size]; exact hlt⟩ g1 (fun q h => by rw [g3] at h; cases h) (by rw [g2]; exact hkC) (by rw [g2]; exact va_assign hcls) rfl rfl hdg fun H1 e z oq => kk H1 _ (cl_Gsr G ha h4 h7 hx e z oq)
theorem cl_puti (C : cl_C D p s m args meth c cc nL ret own) (G : cl_G b D c0 R s T0 T σ H locs cells slots) {a ci k idx N : Nat} {Cn : String} {Tn : u_T} (hc : cl_cls[ci]? = some (Cn, Tn, N)) (hN : cl_N ci = N) (ha : (T a).1 = 16 + ci) (hk : k < N) (hin : ∀ w ∈ u_ws Cn Tn N, w ∈ rf_tb) (ty0 : Nat → FieldType) (hty : ∀ k, k < N → parseFieldDescriptor (Tn k).2.2.1 = some (ty0 k)) (hnm : ∀ a, a < N → ∀ b, b < N → a ≠ b → (Tn a).2.1 ≠ (Tn b).2.1) (hl : Cond.fieldLink own idx Cn (Tn k).2.1 (Tn k).2.2.1 ∈ rf_tb) (hf : (Tn k).1 = Cn) (hfin : (Tn k).2.2.2 = false) (h0 : cl_fd ci k = 0) {x : Int32} (hn : narrow (ty0 k) (.int x) = .int x) (hfit : fits (ty0 k) (.int x) = true) (hdg : decode cc pc = .ok (.putfield idx, 3))
    (kk : ∀ (H1 : Heap) (locs1 : List Loc), cl_G b D c0 R s T0 T (cl_w σ a k x) H1 locs1 cells slots → W p l e R s m args below meth c H1 locs1 cells slots Q (F0 m (pc + 3) ls rest)) : W p l e R s m args below meth c H locs cells slots Q (F0 m pc ls (.int x :: .ref (c0 + a) :: rest)) :=
  cl_put C G hc hN ha hk hin ty0 hty hnm hl hf hfin hn hfit (cl_off_w k x) (fun j _ => cl_Vw x h0 j) (cl_wt_same rfl rfl G.2.1.2.2.2.1) (fun hb => cl_lay_same rfl rfl (G.2.2.1 hb)) hdg kk
theorem cl_nar {t : FieldType} (ht : (∃ n, t = .object n) ∨ ∃ u, t = .array u) (x : Option Nat) : narrow t (cl_rf c0 x) = cl_rf c0 x ∧ fits t (cl_rf c0 x) = true := by
  cases x with
  | none => rcases ht with ⟨n, rfl⟩ | ⟨u, rfl⟩ <;> exact ⟨rfl, rfl⟩
  | some v => rcases ht with ⟨n, rfl⟩ | ⟨u, rfl⟩ <;> exact ⟨rfl, rfl⟩
theorem cl_wtp (G : cl_G b D c0 R s T0 T σ H locs cells slots) {a ci k : Nat} (ha : (T a).1 = 16 + ci) (hci : ci < 100) {x : Option Nat} (hx : cl_RT T x (cl_tk (cl_fd ci k))) : cl_wt (cl_wr σ a k x) := by
  have hTa : (σ.2.2.2.1 a).1 = 16 + ci := by rw [G.1]; exact ha
  refine cl_wt_wr G.2.1.2.2.2.1 (fun K => ⟨fun h1 _ h3 => ?_, fun _ h2 _ => ?_⟩)
  · rw [h3, hTa, G.1, cl_ci_16 hci]; exact hx
  · omega
theorem cl_putr (C : cl_C D p s m args meth c cc nL ret own) (G : cl_G b D c0 R s T0 T σ H locs cells slots) {a ci k idx N : Nat} {Cn : String} {Tn : u_T} (hc : cl_cls[ci]? = some (Cn, Tn, N)) (hN : cl_N ci = N) (ha : (T a).1 = 16 + ci) (hk : k < N) (hin : ∀ w ∈ u_ws Cn Tn N, w ∈ rf_tb) (ty0 : Nat → FieldType) (hty : ∀ k, k < N → parseFieldDescriptor (Tn k).2.2.1 = some (ty0 k)) (hnm : ∀ a, a < N → ∀ b, b < N → a ≠ b → (Tn a).2.1 ≠ (Tn b).2.1) (hl : Cond.fieldLink own idx Cn (Tn k).2.1 (Tn k).2.2.1 ∈ rf_tb) (hf : (Tn k).1 = Cn) (hfin : (Tn k).2.2.2 = false) (h2 : 3 ≤ cl_fd ci k) (hre : (∃ n, ty0 k = .object n) ∨ ∃ u, ty0 k = .array u) (hlk : ∀ e ∈ cl_layL.getD ci [], e.1 ≠ k) {x : Option Nat} (hx : cl_RT T x (cl_tk (cl_fd ci k))) (hdg : decode cc pc = .ok (.putfield idx, 3))
    (kk : ∀ (H1 : Heap) (locs1 : List Loc), cl_G b D c0 R s T0 T (cl_wr σ a k x) H1 locs1 cells slots → W p l e R s m args below meth c H1 locs1 cells slots Q (F0 m (pc + 3) ls rest)) : W p l e R s m args below meth c H locs cells slots Q (F0 m pc ls (cl_rf c0 x :: .ref (c0 + a) :: rest)) :=
  cl_put C G hc hN ha hk hin ty0 hty hnm hl hf hfin (cl_nar hre x).1 (cl_nar hre x).2 (cl_off_wr k x) (fun j _ => cl_Vwr x h2 j) (cl_wtp G ha (cl_cls_lt hc) hx) (fun hb => cl_lay_wr (G.2.2.1 hb) (Or.inl ⟨ci, by rw [G.1]; exact ha, hlk⟩)) hdg kk
theorem cl_tyr (G : cl_G b D c0 R s T0 T σ H locs cells slots) {a ci k : Nat} (ha : (T a).1 = 16 + ci) (hci : ci < 100) (h2 : 2 ≤ cl_fd ci k) : cl_RT T (σ.2.2.1 a k) (cl_tk (cl_fd ci k)) := by
  have h := G.2.1.2.2.2.1.1 a k (by rw [G.1]; omega) (by rw [G.1, ha, cl_ci_16 hci]; exact h2)
  rw [G.1, ha, cl_ci_16 hci] at h
  exact h
theorem cl_layat (G : cl_G true D c0 R s T0 T σ H locs cells slots) {a ci : Nat} (ha : (T a).1 = 16 + ci) (hci : ci < 100) (i : Nat) {e : Nat × Nat × Nat × Nat × Nat} (he : (cl_layL.getD ci [])[i]? = some e) : σ.2.2.1 a e.1 = some (cl_tgt a e) ∧ T (cl_tgt a e) = (e.2.2.2.1, cl_ll a e) := by
  have h := G.2.2.1 rfl a ci (by rw [G.1]; exact ha) hci e (List.mem_of_getElem? he)
  rw [G.1] at h
  exact h
theorem cl_getN (C : cl_C D p s m args meth c cc nL ret own) (G : cl_G true D c0 R s T0 T σ H locs cells slots) {a ci k idx N : Nat} {Cn : String} {Tn : u_T} (hc : cl_cls[ci]? = some (Cn, Tn, N)) (hN : cl_N ci = N) (ha : (T a).1 = 16 + ci) (hk : k < N) (hin : ∀ w ∈ u_ws Cn Tn N, w ∈ rf_tb) (hl : Cond.fieldLink own idx Cn (Tn k).2.1 (Tn k).2.2.1 ∈ rf_tb) (hf : (Tn k).1 = Cn) {x : Nat} (h3 : cl_fd ci k = x + 3) (i : Nat) {e9 : Nat × Nat × Nat × Nat × Nat} (he : (cl_layL.getD ci [])[i]? = some e9) (hek : e9.1 = k) {t kd ln : Nat} (ht : cl_tgt a e9 = t) (hkd : e9.2.2.2.1 = kd) (hln : cl_ll a e9 = ln) (hdg : decode cc pc = .ok (.getfield idx, 3))
    (kk : T t = (kd, ln) → W p l e R s m args below meth c H locs cells slots Q (F0 m (pc + 3) ls (.ref (c0 + t) :: rest))) : W p l e R s m args below meth c H locs cells slots Q (F0 m pc ls (.ref (c0 + a) :: rest)) := by
  obtain ⟨h1, h2⟩ := cl_layat G ha (cl_cls_lt hc) i he
  subst ht; subst hkd; subst hln; subst hek
  refine cl_get C G hc hN ha hk hin hl hf (v := .ref (c0 + cl_tgt a e9)) ?_ hdg (kk h2)
  unfold cl_V
  rw [h3, h1]
  rfl
/-- the words of a TERM are set -/
theorem cl_putw (C : cl_C D p s m args meth c cc nL ret own) (G : cl_G b D c0 R s T0 T σ H locs cells slots) {a idx w : Nat} (ha : (T a).1 = 25) (hl : Cond.fieldLink own idx RX9 (TX9 6).2.1 (TX9 6).2.2.1 ∈ rf_tb) (hx : (T w).1 = 1) (hdg : decode cc pc = .ok (.putfield idx, 3))
    (kk : ∀ (H1 : Heap) (locs1 : List Loc), cl_G b D c0 R s T0 T (cl_wr σ a 6 (some w)) H1 locs1 cells slots → W p l e R s m args below meth c H1 locs1 cells slots Q (F0 m (pc + 3) ls rest)) : W p l e R s m args below meth c H locs cells slots Q (F0 m pc ls (.ref (c0 + w) :: .ref (c0 + a) :: rest)) := by
  refine cl_put C G (ci := 9) (k := 6) rfl rfl ha (by decide) inX9 tyX9 tyX9_ok nmX9 hl rfl rfl rfl rfl (cl_off_wr 6 (some w)) (fun j _ => ?_) (cl_wtp G (ci := 9) (k := 6) ha (by decide) (fun q hq => by cases hq; exact hx)) (fun hb => cl_lay_wr (G.2.2.1 hb) (Or.inl ⟨9, by rw [G.1]; exact ha, by decide⟩)) hdg kk
  by_cases h : j = 6
  · subst h
    show Value.ref (c0 + w) = cl_wa c0 D.2.2.2.2.1 false (σ.1 a 6) (up2 σ.2.2.1 a 6 (some w) a 6)
    rw [up2_s]
    rfl
  · simp only [updV, h, if_false]
    unfold cl_V
    split <;> simp [cl_wr, up2_k h]
/-! locals and compares of references -/
theorem cl_aload_n (hx : p.tables.exec = Jvm.exec) (hb : c.code = cc) {k : Fin 4} {i : Nat} {r : Option Nat} (hdg : decode cc pc = .ok (.aload_n k, 1)) (hi : (k : Nat) = i) (hl : ls[i]? = some (.val (cl_rf c0 r)))
    (kk : W p l e R s m args below meth c H locs cells slots Q (F0 m (pc + 1) ls (cl_rf c0 r :: rest))) : W p l e R s m args below meth c H locs cells slots Q (F0 m pc ls rest) := by
  cases r with
  | none => exact lv_aload_nN hx hb hdg hi hl kk
  | some a => exact lv_aload_n hx hb hdg hi hl kk
theorem cl_aload (hx : p.tables.exec = Jvm.exec) (hb : c.code = cc) {i : Nat} {r : Option Nat} (hdg : decode cc pc = .ok (.aload i, 2)) (hl : ls[i]? = some (.val (cl_rf c0 r)))
    (kk : W p l e R s m args below meth c H locs cells slots Q (F0 m (pc + 2) ls (cl_rf c0 r :: rest))) : W p l e R s m args below meth c H locs cells slots Q (F0 m pc ls rest) := by
  cases r with
  | none => exact lv_aloadN hx hb hdg hl kk
  | some a => exact lv_aload hx hb hdg hl kk
theorem cl_astore_n (hx : p.tables.exec = Jvm.exec) (hb : c.code = cc) {k : Fin 4} {i nL : Nat} {r : Option Nat} {lv lv' : List (Nat × Value)} (hdg : decode cc pc = .ok (.astore_n k, 1)) (hi : (k : Nat) = i) (h : lv_has ls nL lv) (hn : i < nL) (hl : (i, cl_rf c0 r) :: lv.filter (fun q => !(q.1 == i) && !(q.1 + 1 == i && q.2.category == 2)) = lv')
    (kk : ∀ ls' : Array Slot, lv_has ls' nL lv' → W p l e R s m args below meth c H locs cells slots Q (F0 m (pc + 1) ls' rest)) : W p l e R s m args below meth c H locs cells slots Q (F0 m pc ls (cl_rf c0 r :: rest)) := by
  cases r with
  | none => exact lv_astore_nN hx hb hdg hi h hn hl kk
  | some a => exact lv_astore_n hx hb hdg hi h hn hl kk
theorem cl_astore (hx : p.tables.exec = Jvm.exec) (hb : c.code = cc) {i nL : Nat} {r : Option Nat} {lv lv' : List (Nat × Value)} (hdg : decode cc pc = .ok (.astore i, 2)) (h : lv_has ls nL lv) (hn : i < nL) (hl : (i, cl_rf c0 r) :: lv.filter (fun q => !(q.1 == i) && !(q.1 + 1 == i && q.2.category == 2)) = lv')
    (kk : ∀ ls' : Array Slot, lv_has ls' nL lv' → W p l e R s m args below meth c H locs cells slots Q (F0 m (pc + 2) ls' rest)) : W p l e R s m args below meth c H locs cells slots Q (F0 m pc ls (cl_rf c0 r :: rest)) := by
  cases r with
  | none => exact lv_astoreN hx hb hdg h hn hl kk
  | some a => exact lv_astore hx hb hdg h hn hl kk
theorem cl_inj {r q : Option Nat} : r.map (fun a => c0 + a) = q.map (fun a => c0 + a) ↔ r = q := by
  cases r <;> cases q <;> simp
theorem cl_acmp_eq (hx : p.tables.exec = Jvm.exec) (hb : c.code = cc) {rx ry : Option Nat} {off : Int} {tgt : Nat} (hdg : decode cc pc = .ok (.if_acmp .eq off, 3)) (ht : (pc : Int) + off = (tgt : Int))
    (kt : rx = ry → W p l e R s m args below meth c H locs cells slots Q (F0 m tgt ls rest)) (kf : ¬ rx = ry → W p l e R s m args below meth c H locs cells slots Q (F0 m (pc + 3) ls rest)) : W p l e R s m args below meth c H locs cells slots Q (F0 m pc ls (cl_rf c0 ry :: cl_rf c0 rx :: rest)) :=
  lv_acmp_eq hx hb hdg ht (fun h => kt (cl_inj.mp h)) (fun h => kf (fun q => h (cl_inj.mpr q)))
theorem cl_acmp_ne (hx : p.tables.exec = Jvm.exec) (hb : c.code = cc) {rx ry : Option Nat} {off : Int} {tgt : Nat} (hdg : decode cc pc = .ok (.if_acmp .ne off, 3)) (ht : (pc : Int) + off = (tgt : Int))
    (kt : ¬ rx = ry → W p l e R s m args below meth c H locs cells slots Q (F0 m tgt ls rest)) (kf : rx = ry → W p l e R s m args below meth c H locs cells slots Q (F0 m (pc + 3) ls rest)) : W p l e R s m args below meth c H locs cells slots Q (F0 m pc ls (cl_rf c0 ry :: cl_rf c0 rx :: rest)) :=
  lv_acmp_ne hx hb hdg ht (fun h => kt (fun q => h (cl_inj.mpr q))) (fun h => kf (cl_inj.mp h))
theorem cl_ifnull (hx : p.tables.exec = Jvm.exec) (hb : c.code = cc) {r : Option Nat} {off : Int} {tgt : Nat} (hdg : decode cc pc = .ok (.ifnull off, 3)) (ht : (pc : Int) + off = (tgt : Int))
    (kt : r = none → W p l e R s m args below meth c H locs cells slots Q (F0 m tgt ls rest)) (kf : ¬ r = none → W p l e R s m args below meth c H locs cells slots Q (F0 m (pc + 3) ls rest)) : W p l e R s m args below meth c H locs cells slots Q (F0 m pc ls (cl_rf c0 r :: rest)) := by
  cases r with
  | none => exact lv_ifnullN hx hb hdg ht (kt rfl)
  | some a => exact lv_ifnull hx hb hdg (kf (fun h => by cases h))
theorem cl_ifnonnull (hx : p.tables.exec = Jvm.exec) (hb : c.code = cc) {r : Option Nat} {off : Int} {tgt : Nat} (hdg : decode cc pc = .ok (.ifnonnull off, 3)) (ht : (pc : Int) + off = (tgt : Int))
    (kt : ¬ r = none → W p l e R s m args below meth c H locs cells slots Q (F0 m tgt ls rest)) (kf : r = none → W p l e R s m args below meth c H locs cells slots Q (F0 m (pc + 3) ls rest)) : W p l e R s m args below meth c H locs cells slots Q (F0 m pc ls (cl_rf c0 r :: rest)) := by
  cases r with
  | none => exact lv_ifnonnullN hx hb hdg (kf rfl)
  | some a => exact lv_ifnonnull hx hb hdg ht (kt (fun h => by cases h))
/-! calls: the callee's room is all that is left -/
def cl_pre (R : Room) (rm : Room) (Pc : Array Value → State → Prop) : Pt → Array Value → Prop := fun A a => A.cells + rm.cells ≤ R.cells ∧ A.slots + rm.slots ≤ R.slots ∧ Pc a A.U
theorem cl_back {sargs : Array Value} {y : MethodName} {len Wd : Nat} {ws : List Cond} {rm : Room} {Pc : Array Value → State → Prop} {Qc : Array Value → State → Outcome → State → Prop} {mc ms : Nat} {free : Addr → Prop} {bytes : ByteArray} {maxL : Nat} {rt : Option FieldType}
    (hM : Met l y ws rm Pc Qc mc ms free) (hblind : FrameBlind Pc) (hframes : rm.frames + 1 ≤ R.frames) (hlocals : Wd + (maxL + 11) + rm.locals ≤ R.locals)
    (hws : ∀ w ∈ ws, ∀ a' U, s.WarmedH U.vm → w.before a' U = true) (hcode : Cond.code y bytes maxL rt ∈ ws) (hinit : ∀ a' U, s.WarmedH U.vm → (Cond.initialized y.cls).before a' U = true) :
    Back l R p e below s sargs y len Wd (cl_pre R rm Pc) (PostOf Qc mc ms free) := by
  refine Back.of_free (S := headSpec ws rm) (P := Pc) (K := fun _ _ _ _ _ => True) (Q := fun a st o t => Qc a st o t ∧ ∃ L, FrameEnd st o t L mc ms ∧ ∀ q ∈ L, free q.base) (bytes := bytes) (maxL := maxL) (ret := rt)
    (E := fun a st o t L k n => k = mc ∧ n = ms ∧ ∀ q ∈ L, free q.base) hM hframes hlocals ?_ ?_ (fun _ _ _ _ _ _ _ _ _ => trivial) ?_ ?_
  · intro m meth c A a X hp
    exact ⟨atoms_intro fun w hw => hws w hw _ _ X.warmed, hws _ hcode _ _ X.warmed, hinit _ _ X.warmed, hp.1, hp.2.1⟩
  · intro m meth c A a g mk X hp
    exact hblind _ _ _ _ hp.2.2
  · intro a st o t ⟨hq, L, hF, hL⟩
    exact ⟨L, mc, ms, hF, rfl, rfl, hL⟩
  · intro m meth c A a g mk v t L k n X hp hq hF ⟨e1, e2, hL⟩
    subst e1; subst e2
    exact ⟨g, mk, t, L, rfl, rfl, hq.1, rfl, hL, rfl, rfl⟩
theorem cl_blind {av : List Value} {sz : Nat} : FrameBlind (va_Pc av (fun U => U.heap.size = sz ∧ cl_P D c0 σ U.heap ∧ (b = true → cl_lay σ) ∧ cl_K D U)) := fun a U g mk q => ⟨q.1, q.2.1, q.2.2.1, q.2.2.2.1, cl_K.same (u := U) (U := U.calling g mk a) rfl q.2.2.2.2⟩
def cl_wV (own Cy : String) (y : MethodName) (cy : ByteArray) (mL : Nat) (rt : Option FieldType) (idx n : Nat) : Prop := (Cond.methodLink own idx y ∈ rf_tb ∧ Cond.instanceMethod y ∈ rf_tb ∧ Cond.selects Cy y y ∈ rf_tb ∧ Cond.code y cy mL rt ∈ rf_tb ∧ Cond.initialized y.cls ∈ rf_tb) ∧ (y.cls ≠ "java/lang/invoke/MethodHandle" ∧ y.cls ≠ "java/lang/invoke/VarHandle" ∧ (parseMethodDescriptor y.desc).map (fun d => d.parameters.length) = some n)
def cl_wS (own : String) (y : MethodName) (cy : ByteArray) (mL : Nat) (rt : Option FieldType) (idx n : Nat) : Prop := (Cond.methodLink own idx y ∈ rf_tb ∧ Cond.static y ∈ rf_tb ∧ Cond.code y cy mL rt ∈ rf_tb ∧ Cond.initialized y.cls ∈ rf_tb) ∧ (y.cls ≠ "java/lang/invoke/MethodHandle" ∧ y.cls ≠ "java/lang/invoke/VarHandle" ∧ (parseMethodDescriptor y.desc).map (fun d => d.parameters.length) = some n)
def cl_wI (own : String) (y : MethodName) (cy : ByteArray) (mL : Nat) (idx n : Nat) : Prop := (Cond.methodLink own idx y ∈ rf_tb ∧ Cond.instanceMethod y ∈ rf_tb ∧ Cond.code y cy mL none ∈ rf_tb ∧ Cond.initialized y.cls ∈ rf_tb) ∧ y.name = "<init>" ∧ (y.cls ≠ "java/lang/invoke/MethodHandle" ∧ y.cls ≠ "java/lang/invoke/VarHandle" ∧ (parseMethodDescriptor y.desc).map (fun d => d.parameters.length) = some n)
theorem cl_bk {y : MethodName} {cy : ByteArray} {mL fr lo : Nat} {rt : Option FieldType} {av : List Value} {rv : Option Value} {X : (Nat → Nat × Nat) → Prop} {σ1 : cl_S} (C : cl_C D p s m args meth c cc nL ret own) (hM : cl_Met b l D c0 y cy mL rt fr lo av σ rv X σ1) (hcw : Cond.code y cy mL rt ∈ rf_tb) (hini : Cond.initialized y.cls ∈ rf_tb) (hfr : fr + 1 ≤ R.frames) (hlo : 8 + (mL + 11) + lo ≤ R.locals) (sz : Nat) :
    Back l R p e below s args y 3 8 (cl_pre R ({ frames := fr, cells := σ.2.2.2.2.2.1, slots := σ.2.2.2.2.2.2, locals := lo }) (va_Pc av (fun U => U.heap.size = sz ∧ cl_P D c0 σ U.heap ∧ (b = true → cl_lay σ) ∧ cl_K D U))) (PostOf (cl_Q b D c0 rv X σ σ1) (σ.2.2.2.2.2.1 - σ1.2.2.2.2.2.1) (σ.2.2.2.2.2.2 - σ1.2.2.2.2.2.2) (cl_A c0 σ.2.2.2.1 sz)) :=
  cl_back (bytes := cy) (maxL := mL) (rt := rt) (hM sz) cl_blind hfr hlo (pay_in C.2.2.2.2.1 (rf_gw hcw)) List.mem_cons_self (fun a' U hW => word_at hW (Or.inl (by first | rfl | simp [Cond.onTables, Cond.keeps, Cond.steady])) (C.2.2.2.2.1 _ hini))
/-- what holds behind a call -/
theorem cl_aft {rv v : Option Value} {X : (Nat → Nat × Nat) → Prop} {σ1 : cl_S} {H1 : Heap} {L : List Loc} {st t : State} {a9 : Array Value} (G : cl_G b D c0 R s T0 T σ H locs cells slots) (h0 : st.heap = H) (h1 : H1 = t.heap) (hq : cl_Q b D c0 rv X σ σ1 a9 st (.returned v) t) (hL : ∀ q ∈ L, cl_A c0 σ.2.2.2.1 H.size q.base) : v = rv ∧ X σ1.2.2.2.1 ∧ cl_up T σ1.2.2.2.1 ∧ cl_G b D c0 R s T0 σ1.2.2.2.1 σ1 H1 (locs ++ L) (cells + (σ.2.2.2.2.2.1 - σ1.2.2.2.2.2.1)) (slots + (σ.2.2.2.2.2.2 - σ1.2.2.2.2.2.2)) := by
  have hlt := @cl_lt R s H locs cells slots b D c0 T0 T σ G
  obtain ⟨hT, hP, hlay, hS, hup, hc1, hc2⟩ := G
  obtain ⟨hv, hX, hP1, hl1, hF, hu1, hr1, hr2⟩ := hq
  subst hT
  subst h0
  subst h1
  have hsub : ∀ q, cl_A c0 σ.2.2.2.1 st.heap.size q → cl_A c0 T0 s.heap.size q := by
    intro q hq
    rcases hq with hq | ⟨g1, g2⟩
    · exact Or.inl (Nat.le_trans hS.1 hq)
    · by_cases g3 : s.heap.size ≤ q
      · exact Or.inl g3
      · refine Or.inr ⟨g1, ?_⟩
        rw [← hup (q - c0) (by omega)]
        exact g2
  refine ⟨Option.some.inj (by cases hv; rfl), hX, fun a ha => hu1 a (hlt ha), rfl, hP1, hl1, rf_after hS hF.1 (fun q g1 g2 => hF.2 q g1 (fun g3 => g2 (hsub q g3))) (fun q hq => hsub _ (hL q hq)), fun a ha => ?_, by omega, by omega⟩
  rw [hu1 a (Nat.lt_of_lt_of_le ha hS.1)]
  exact hup a ha
theorem cl_callV {y : MethodName} {cy : ByteArray} {mL idx n fr lo ci a : Nat} {rt : Option FieldType} {rv : Option Value} {X : (Nat → Nat × Nat) → Prop} {σ1 : cl_S} {q9 : vw_C} (C : cl_C D p s m args meth c cc nL ret own) (G : cl_G b D c0 R s T0 T σ H locs cells slots) (hcl : cl_cls[ci]? = some q9) (ha : (T a).1 = 16 + ci) (hw : cl_wV own q9.1 y cy mL rt idx n) (As : List Value) (st0 : List Value) (hM : cl_Met b l D c0 y cy mL rt fr lo (.ref (c0 + a) :: As) σ rv X σ1) (hfr : fr + 1 ≤ R.frames) (hlo : 8 + (mL + 11) + lo ≤ R.locals) (hn : As.length = n) (hst : st0 = As.reverse ++ .ref (c0 + a) :: rest) (hls : ls.size = nL) (hW : (rest.map fun v => v.category).sum ≤ 8) (hdg : decode cc pc = .ok (.invokevirtual idx, 3))
    (kk : ∀ (T1 : Nat → Nat × Nat) (H1 : Heap) (locs1 : List Loc) (cells1 slots1 : Nat), X T1 → cl_up T T1 → cl_G b D c0 R s T0 T1 σ1 H1 locs1 cells1 slots1 → W p l e R s m args below meth c H1 locs1 cells1 slots1 Q (F0 m (pc + 3) ls (rv.toList ++ rest))) : W p l e R s m args below meth c H locs cells slots Q (F0 m pc ls st0) := by
  subst hst
  obtain ⟨⟨w1, w2, w3, w4, w5⟩, d1, d2, d3⟩ := hw
  have hK := cl_bk (p := p) (e := e) (R := R) (below := below) C hM w4 w5 hfr hlo H.size
  obtain ⟨cellB, hcB, q2, q3, -⟩ := cl_obj G (N := _) rfl ha (cl_cls_lt hcl)
  have hKc := (C.2.2.2.2.2.1.1 ci q9 hcl).2
  intro TT hT X0
  obtain ⟨v, vm₁, ⟨U', l2, c2, s2⟩, hW₁, X', ⟨g', mk, t, L, e1, e2, hq, h1, hL, h2, h3⟩, st⟩ := callV X0 C.1 (C := q9.1) (bytes := cy) (maxL := mL) (ret := rt) C.2.2.2.1 (C.2.2.2.2.1 _ w1) (C.2.2.2.2.1 _ w2) (C.2.2.2.2.1 _ w3) (C.2.2.2.2.1 _ w4) ⟨d1, d2⟩ hK (by rw [hT]; exact hcB) (by rw [q3]; rfl) (by rw [q2]; exact hKc.1) (g := F0 m pc ls (As.reverse ++ .ref (c0 + a) :: rest)) rfl (hls.trans C.2.2.1.symm) (argsL := As) (rest := rest) (fun sig h => by rw [h] at d3; exact hn.trans (Option.some.inj d3).symm) rfl (lv_room hW) (by rw [C.2.1]; exact hdg)
    (fun vm₁ hW₁ => ⟨by rw [G.2.2.2.2.2.1]; exact Nat.le_refl _, by rw [G.2.2.2.2.2.2]; exact Nat.le_refl _, rfl, by show TT.heap.size = _; rw [hT], by show cl_P D c0 σ TT.heap; rw [hT]; exact G.2.1, G.2.2.1, C.2.2.2.2.2.1.moved hW₁⟩)
  dsimp only [Pt.U, Pt.locs, Pt.cells, Pt.slots] at X' e1 e2 h1 h2 h3 st
  subst h1; subst h2; subst h3
  obtain ⟨rfl, hX, hu, hG⟩ := cl_aft (a9 := (Value.ref (c0 + a) :: As).toArray) G (H1 := U'.heap) hT e1 hq hL
  obtain ⟨t2, a1, b1⟩ := kk _ _ _ _ _ hX hu hG U' rfl X'
  exact ⟨t2, st t2 a1, b1⟩
theorem cl_callS {y : MethodName} {cy : ByteArray} {mL idx n fr lo : Nat} {rt : Option FieldType} {rv : Option Value} {X : (Nat → Nat × Nat) → Prop} {σ1 : cl_S} (C : cl_C D p s m args meth c cc nL ret own) (G : cl_G b D c0 R s T0 T σ H locs cells slots) (hw : cl_wS own y cy mL rt idx n) (As : List Value) (st0 : List Value) (hM : cl_Met b l D c0 y cy mL rt fr lo As σ rv X σ1) (hfr : fr + 1 ≤ R.frames) (hlo : 8 + (mL + 11) + lo ≤ R.locals) (hn : As.length = n) (hst : st0 = As.reverse ++ rest) (hls : ls.size = nL) (hW : (rest.map fun v => v.category).sum ≤ 8) (hdg : decode cc pc = .ok (.invokestatic idx, 3))
    (kk : ∀ (T1 : Nat → Nat × Nat) (H1 : Heap) (locs1 : List Loc) (cells1 slots1 : Nat), X T1 → cl_up T T1 → cl_G b D c0 R s T0 T1 σ1 H1 locs1 cells1 slots1 → W p l e R s m args below meth c H1 locs1 cells1 slots1 Q (F0 m (pc + 3) ls (rv.toList ++ rest))) : W p l e R s m args below meth c H locs cells slots Q (F0 m pc ls st0) := by
  subst hst
  obtain ⟨⟨w1, w2, w4, w5⟩, d1, d2, d3⟩ := hw
  have hK := cl_bk (p := p) (e := e) (R := R) (below := below) C hM w4 w5 hfr hlo H.size
  intro TT hT X0
  obtain ⟨v, vm₁, ⟨U', l2, c2, s2⟩, hW₁, X', ⟨g', mk, t, L, e1, e2, hq, h1, hL, h2, h3⟩, st⟩ := callS X0 C.1 (bytes := cy) (maxL := mL) (ret := rt) C.2.2.2.1 (C.2.2.2.2.1 _ w1) (C.2.2.2.2.1 _ w2) (C.2.2.2.2.1 _ w5) (C.2.2.2.2.1 _ w4) ⟨d1, d2⟩ hK (g := F0 m pc ls (As.reverse ++ rest)) rfl (hls.trans C.2.2.1.symm) (argsL := As) (rest := rest) (fun sig h => by rw [h] at d3; exact hn.trans (Option.some.inj d3).symm) rfl (lv_room hW) (by rw [C.2.1]; exact hdg)
    (fun vm₁ hW₁ => ⟨by rw [G.2.2.2.2.2.1]; exact Nat.le_refl _, by rw [G.2.2.2.2.2.2]; exact Nat.le_refl _, rfl, by show TT.heap.size = _; rw [hT], by show cl_P D c0 σ TT.heap; rw [hT]; exact G.2.1, G.2.2.1, C.2.2.2.2.2.1.moved hW₁⟩)
  dsimp only [Pt.U, Pt.locs, Pt.cells, Pt.slots] at X' e1 e2 h1 h2 h3 st
  subst h1; subst h2; subst h3
  obtain ⟨rfl, hX, hu, hG⟩ := cl_aft (a9 := As.toArray) G (H1 := U'.heap) hT e1 hq hL
  obtain ⟨t2, a1, b1⟩ := kk _ _ _ _ _ hX hu hG U' rfl X'
  exact ⟨t2, st t2 a1, b1⟩
theorem cl_callI {y : MethodName} {cy : ByteArray} {mL idx n fr lo a : Nat} {rv : Option Value} {X : (Nat → Nat × Nat) → Prop} {σ1 : cl_S} (C : cl_C D p s m args meth c cc nL ret own) (G : cl_G b D c0 R s T0 T σ H locs cells slots) (hw : cl_wI own y cy mL idx n) (As : List Value) (st0 : List Value) (hM : cl_Met b l D c0 y cy mL none fr lo (.ref (c0 + a) :: As) σ rv X σ1) (hfr : fr + 1 ≤ R.frames) (hlo : 8 + (mL + 11) + lo ≤ R.locals) (hn : As.length = n) (hst : st0 = As.reverse ++ .ref (c0 + a) :: rest) (hls : ls.size = nL) (hW : (rest.map fun v => v.category).sum ≤ 8) (hdg : decode cc pc = .ok (.invokespecial idx, 3))
    (kk : ∀ (T1 : Nat → Nat × Nat) (H1 : Heap) (locs1 : List Loc) (cells1 slots1 : Nat), X T1 → cl_up T T1 → cl_G b D c0 R s T0 T1 σ1 H1 locs1 cells1 slots1 → W p l e R s m args below meth c H1 locs1 cells1 slots1 Q (F0 m (pc + 3) ls (rv.toList ++ rest))) : W p l e R s m args below meth c H locs cells slots Q (F0 m pc ls st0) := by
  subst hst
  obtain ⟨⟨w1, w2, w4, w5⟩, hy1, d1, d2, d3⟩ := hw
  have hK := cl_bk (p := p) (e := e) (R := R) (below := below) C hM w4 w5 hfr hlo H.size
  intro TT hT X0
  obtain ⟨v, vm₁, ⟨U', l2, c2, s2⟩, hW₁, X', ⟨g', mk, t, L, e1, e2, hq, h1, hL, h2, h3⟩, st⟩ := callI X0 C.1 (bytes := cy) (maxL := mL) C.2.2.2.1 hy1 (C.2.2.2.2.1 _ w1) (C.2.2.2.2.1 _ w2) (C.2.2.2.2.1 _ w4) ⟨d1, d2⟩ hK (g := F0 m pc ls (As.reverse ++ .ref (c0 + a) :: rest)) rfl (hls.trans C.2.2.1.symm) (a := c0 + a) (argsL := As) (rest := rest) (fun sig h => by rw [h] at d3; exact hn.trans (Option.some.inj d3).symm) rfl (lv_room hW) (by rw [C.2.1]; exact hdg)
    (fun vm₁ hW₁ => ⟨by rw [G.2.2.2.2.2.1]; exact Nat.le_refl _, by rw [G.2.2.2.2.2.2]; exact Nat.le_refl _, rfl, by show TT.heap.size = _; rw [hT], by show cl_P D c0 σ TT.heap; rw [hT]; exact G.2.1, G.2.2.1, C.2.2.2.2.2.1.moved hW₁⟩)
  dsimp only [Pt.U, Pt.locs, Pt.cells, Pt.slots] at X' e1 e2 h1 h2 h3 st
  subst h1; subst h2; subst h3
  obtain ⟨rfl, hX, hu, hG⟩ := cl_aft (a9 := (Value.ref (c0 + a) :: As).toArray) G (H1 := U'.heap) hT e1 hq hL
  obtain ⟨t2, a1, b1⟩ := kk _ _ _ _ _ hX hu hG U' rfl X'
  exact ⟨t2, st t2 a1, b1⟩
/-! ends -/
theorem cl_qe {σ0 : cl_S} (hR : R.cells = σ0.2.2.2.2.2.1 ∧ R.slots = σ0.2.2.2.2.2.2) (h0 : σ0.2.2.2.1 = T0) (G : cl_G b D c0 R s T0 T σ H locs cells slots) (rv : Option Value) {X : (Nat → Nat × Nat) → Prop} (hX : X T) : ∀ t : State, t.heap = H → s.WarmedH t.vm → cl_Q b D c0 rv X σ0 σ args s (.returned rv) t := fun t ht _ => by
  obtain ⟨hT, hP, hlay, hS, hup, hc1, hc2⟩ := G
  subst hT; subst h0
  exact ⟨rfl, hX, by rw [ht]; exact hP, hlay, hS.F ht, hup, by omega, by omega⟩
theorem cl_cnt {σ0 : cl_S} (hR : R.cells = σ0.2.2.2.2.2.1 ∧ R.slots = σ0.2.2.2.2.2.2) (G : cl_G b D c0 R s T0 T σ H locs cells slots) : cells = σ0.2.2.2.2.2.1 - σ.2.2.2.2.2.1 ∧ slots = σ0.2.2.2.2.2.2 - σ.2.2.2.2.2.2 := by
  obtain ⟨-, -, -, -, -, hc1, hc2⟩ := G
  omega
def cl_no : (Nat → Nat × Nat) → Prop := fun _ => True
theorem cl_iret {v r : Int32} {σ0 σ' : cl_S} (hR : R.cells = σ0.2.2.2.2.2.1 ∧ R.slots = σ0.2.2.2.2.2.2) (h0 : σ0.2.2.2.1 = T0) (C : cl_C D p s m args meth c cc nL (some .int) own) (G : cl_G b D c0 R s T0 T σ H locs cells slots) (h : some (v, σ) = some (r, σ')) (hdg : decode cc pc = .ok (.ireturn, 1)) : W p l e R s m args below meth c H locs cells slots (MQ below (cl_Q b D c0 (some (.int r)) cl_no σ0 σ') args s (σ0.2.2.2.2.2.1 - σ'.2.2.2.2.2.1) (σ0.2.2.2.2.2.2 - σ'.2.2.2.2.2.2) (cl_A c0 T0 s.heap.size)) (F0 m pc ls [.int v]) := by
  cases h
  obtain ⟨e1, e2⟩ := cl_cnt hR G
  rw [← e1, ← e2]
  exact W.iret C.1 C.2.1 C.2.2.2.2.2.2.1 (cl_qe hR h0 G _ trivial) G.2.2.2.1.2.2 hdg C.2.2.2.2.2.2.2
theorem cl_zret {ty : FieldType} {v r : Int32} {σ0 σ' : cl_S} (hR : R.cells = σ0.2.2.2.2.2.1 ∧ R.slots = σ0.2.2.2.2.2.2) (h0 : σ0.2.2.2.1 = T0) (C : cl_C D p s m args meth c cc nL (some ty) own) (G : cl_G b D c0 R s T0 T σ H locs cells slots) (h : some (v, σ) = some (r, σ')) (hn : narrow ty (.int v) = .int v) (hdg : decode cc pc = .ok (.ireturn, 1)) : W p l e R s m args below meth c H locs cells slots (MQ below (cl_Q b D c0 (some (.int r)) cl_no σ0 σ') args s (σ0.2.2.2.2.2.1 - σ'.2.2.2.2.2.1) (σ0.2.2.2.2.2.2 - σ'.2.2.2.2.2.2) (cl_A c0 T0 s.heap.size)) (F0 m pc ls [.int v]) := by
  cases h
  obtain ⟨e1, e2⟩ := cl_cnt hR G
  rw [← e1, ← e2]
  exact W.zret C.1 C.2.1 C.2.2.2.2.2.2.1 hn (cl_qe hR h0 G _ trivial) G.2.2.2.1.2.2 hdg C.2.2.2.2.2.2.2
theorem cl_lret {v r : Int64} {σ0 σ' : cl_S} (hR : R.cells = σ0.2.2.2.2.2.1 ∧ R.slots = σ0.2.2.2.2.2.2) (h0 : σ0.2.2.2.1 = T0) (C : cl_C D p s m args meth c cc nL (some .long) own) (G : cl_G b D c0 R s T0 T σ H locs cells slots) (h : some (v, σ) = some (r, σ')) (hdg : decode cc pc = .ok (.lreturn, 1)) : W p l e R s m args below meth c H locs cells slots (MQ below (cl_Q b D c0 (some (.long r)) cl_no σ0 σ') args s (σ0.2.2.2.2.2.1 - σ'.2.2.2.2.2.1) (σ0.2.2.2.2.2.2 - σ'.2.2.2.2.2.2) (cl_A c0 T0 s.heap.size)) (F0 m pc ls [.long v]) := by
  cases h
  obtain ⟨e1, e2⟩ := cl_cnt hR G
  rw [← e1, ← e2]
  exact W.lret C.1 C.2.1 C.2.2.2.2.2.2.1 (cl_qe hR h0 G _ trivial) G.2.2.2.1.2.2 hdg C.2.2.2.2.2.2.2
theorem cl_vret {σ0 σ' : cl_S} (hR : R.cells = σ0.2.2.2.2.2.1 ∧ R.slots = σ0.2.2.2.2.2.2) (h0 : σ0.2.2.2.1 = T0) (C : cl_C D p s m args meth c cc nL none own) (G : cl_G b D c0 R s T0 T σ H locs cells slots) (h : some σ = some σ') (hdg : decode cc pc = .ok (.return_, 1)) : W p l e R s m args below meth c H locs cells slots (MQ below (cl_Q b D c0 none cl_no σ0 σ') args s (σ0.2.2.2.2.2.1 - σ'.2.2.2.2.2.1) (σ0.2.2.2.2.2.2 - σ'.2.2.2.2.2.2) (cl_A c0 T0 s.heap.size)) (F0 m pc ls []) := by
  cases h
  obtain ⟨e1, e2⟩ := cl_cnt hR G
  rw [← e1, ← e2]
  exact W.vret C.1 C.2.1 C.2.2.2.2.2.2.1 (cl_qe hR h0 G _ trivial) G.2.2.2.1.2.2 hdg C.2.2.2.2.2.2.2
theorem cl_aret {rt : FieldType} {K : Nat} {v r : Option Nat} {σ0 σ' : cl_S} (hR : R.cells = σ0.2.2.2.2.2.1 ∧ R.slots = σ0.2.2.2.2.2.2) (h0 : σ0.2.2.2.1 = T0) (C : cl_C D p s m args meth c cc nL (some rt) own) (G : cl_G b D c0 R s T0 T σ H locs cells slots) (h : some (v, σ) = some (r, σ')) (hrt : (∃ n, rt = .object n) ∨ ∃ t, rt = .array t) (hK : cl_RT T v K) (hdg : decode cc pc = .ok (.areturn, 1)) : W p l e R s m args below meth c H locs cells slots (MQ below (cl_Q b D c0 (some (cl_rf c0 r)) (fun T1 => cl_RT T1 r K) σ0 σ') args s (σ0.2.2.2.2.2.1 - σ'.2.2.2.2.2.1) (σ0.2.2.2.2.2.2 - σ'.2.2.2.2.2.2) (cl_A c0 T0 s.heap.size)) (F0 m pc ls [cl_rf c0 v]) := by
  cases h
  obtain ⟨e1, e2⟩ := cl_cnt hR G
  rw [← e1, ← e2]
  exact W.aret C.1 C.2.1 C.2.2.2.2.2.2.1 hrt (by cases v with | none => exact Or.inl rfl | some a => exact Or.inr ⟨_, rfl⟩) (cl_qe hR h0 G _ hK) G.2.2.2.1.2.2 hdg C.2.2.2.2.2.2.2
/-- a method's contract out of the walk of its body -/
theorem cl_of {y : MethodName} {cy : ByteArray} {mL fr lo : Nat} {rt : Option FieldType} {av : List Value} {rv : Option Value} {X : (Nat → Nat × Nat) → Prop} {σ' : cl_S} (hp : plainName y.cls = true) (hnl : (lg_sl av).length ≤ mL)
    (body : ∀ (p : Program) (e : Env) (s : State) (m : MethodId) (args : Array Value) (below : List Frame) (meth : Method) (c : Code) (ls : Array Slot), cl_C D p s m args meth c cy mL rt y.cls → meth.name = y.name → cl_G b D c0 ({ frames := fr, cells := σ.2.2.2.2.2.1, slots := σ.2.2.2.2.2.2, locals := lo }) s σ.2.2.2.1 σ.2.2.2.1 σ s.heap [] 0 0 → lv_has ls mL (lv_args 0 av) → W p l e ({ frames := fr, cells := σ.2.2.2.2.2.1, slots := σ.2.2.2.2.2.2, locals := lo }) s m args below meth c s.heap [] 0 0 (MQ below (cl_Q b D c0 rv X σ σ') args s (σ.2.2.2.2.2.1 - σ'.2.2.2.2.2.1) (σ.2.2.2.2.2.2 - σ'.2.2.2.2.2.2) (cl_A c0 σ.2.2.2.1 s.heap.size)) (F0 m 0 ls [])) : cl_Met b l D c0 y cy mL rt fr lo av σ rv X σ' := by
  intro sz
  refine Met.ofW (cc := cy) (maxL := mL) (ret := rt) hp rfl ?_
  intro p e s m args below meth c s₁ B hml hv
  obtain ⟨rfl, rfl, hP, hlay, hK⟩ := hv
  have hts := atoms_spec (ws := Cond.code y cy mL rt :: rf_tb) B.pre
  have hl := lv_entry av (n := mL) hnl
  rw [lg_entry_eq]
  exact body p e s m _ below meth c _ ⟨B.exec, B.bytes, hml, findClass_of_methodNamed B.named, fun w hw => hts w (List.mem_cons_of_mem _ hw), hK, B.returns, B.notSynchronized⟩ (name_of_methodNamed B.named B.method).1 ⟨rfl, hP, hlay, va_S.rf, fun _ _ => rfl, Nat.zero_add _, Nat.zero_add _⟩ hl
/-! names -/
theorem cl_nm {β : Type} {σ1 : cl_S} {f : cl_S → β} {r : β} {P : Prop} (G : cl_G b D c0 R s T0 T σ1 H locs cells slots) (h : vl σ1 f = r) (k : ∀ σ2 : cl_S, cl_G b D c0 R s T0 T σ2 H locs cells slots → f σ2 = r → P) : P := k σ1 G h
theorem vt_r {β : Type} {x : Option Nat} {K : Nat} {f : Option Nat → β} {r : β} (hx : cl_RT T x K) (h : vl x f = r) (k : ∀ y : Option Nat, cl_RT T y K → f y = r → W p l e R s m args below meth c H locs cells slots Q (F0 m pc ls (cl_rf c0 y :: rest))) : W p l e R s m args below meth c H locs cells slots Q (F0 m pc ls (cl_rf c0 x :: rest)) := k x hx h
end CLR
/-- not null -/
def nn {α : Type} (r : Option Nat) (f : Nat → Option α) : Option α := match r with
  | none => none
  | some a => f a
theorem nn_some {α : Type} {r : Option Nat} {f : Nat → Option α} {y : α} (h : nn r f = some y) : ∃ a, r = some a ∧ f a = some y := by
  cases r with
  | none => cases h
  | some a => exact ⟨a, rfl, h⟩
theorem cl_RTn (T : Nat → Nat × Nat) (K : Nat) : cl_RT T none K := fun b h => by cases h
theorem cl_RTs {T : Nat → Nat × Nat} {a K : Nat} (h : (T a).1 = K) : cl_RT T (some a) K := fun b hb => by cases hb; exact h
theorem cl_uparr {T0 T1 : Nat → Nat × Nat} {a K n : Nat} (hu : cl_up T0 T1) (h : T0 a = (K, n)) (hK : K ≠ 0) : T1 a = (K, n) := by rw [hu a (by rw [h]; exact hK)]; exact h
theorem cl_cat (c0 : Nat) (r : Option Nat) : (cl_rf c0 r).category = 1 := by cases r <;> rfl
theorem cl_bit (x : Int32) : x &&& 1 = 0 ∨ x &&& 1 = 1 := by
  obtain ⟨j, hj, e⟩ := pk_andE x (m := 1) 1 (by decide)
  rcases (show j = 0 ∨ j = 1 by omega) with rfl | rfl
  · exact Or.inl e
  · exact Or.inr e
theorem cl_fitz {x : Int32} (h : narrow .boolean (.int x) = .int x) : fits .boolean (.int x) = true := by
  have e : fits .boolean (narrow .boolean (.int x)) = true := by
    simp [narrow, fits]
    exact cl_bit x
  rw [h] at e
  exact e
noncomputable def nbc {α : Type} (v : Int32) (x : Option α) : Option α := @ite _ (narrow .char (.int v) = .int v) (Classical.propDecidable _) x none
theorem nbc_some {α : Type} {v : Int32} {x : Option α} {y : α} (h : nbc v x = some y) : narrow .char (.int v) = .int v ∧ x = some y := by
  unfold nbc at h
  by_cases q : narrow .char (.int v) = .int v
  · rw [if_pos q] at h; exact ⟨q, h⟩
  · rw [if_neg q] at h; cases h
/-- a copy stays in both rows -/
def cpg {α : Type} (sp dp n : Int32) (n0 n1 : Nat) (x : Option α) : Option α := if sp < 0 ∨ dp < 0 ∨ n < 0 ∨ n0 < sp.toNatClampNeg + n.toNatClampNeg ∨ n1 < dp.toNatClampNeg + n.toNatClampNeg then none else x
theorem cpg_some {α : Type} {sp dp n : Int32} {n0 n1 : Nat} {x : Option α} {y : α} (h : cpg sp dp n n0 n1 x = some y) : (¬ sp < 0 ∧ ¬ dp < 0 ∧ ¬ n < 0 ∧ sp.toNatClampNeg + n.toNatClampNeg ≤ n0 ∧ dp.toNatClampNeg + n.toNatClampNeg ≤ n1) ∧ x = some y := by
  unfold cpg at h
  by_cases q : sp < 0 ∨ dp < 0 ∨ n < 0 ∨ n0 < sp.toNatClampNeg + n.toNatClampNeg ∨ n1 < dp.toNatClampNeg + n.toNatClampNeg
  · rw [if_pos q] at h; cases h
  · rw [if_neg q] at h
    simp only [not_or, Nat.not_lt] at q
    exact ⟨q, h⟩
def cl_cp (σ : cl_S) (a0 a1 : Nat) (sp dp n : Int32) : cl_S := (cl_row σ.1 a1 (va_cpy (σ.1 a0) (σ.1 a1) sp.toNatClampNeg dp.toNatClampNeg n.toNatClampNeg), σ.2)
theorem cl_lsw {ps : List (Int × Int)} {d : Int} {x : Int32} (h : ∀ q ∈ ps, q.1 ≠ x.toInt) : Op.lookupswitch.offset ps d x.toInt = d := by
  induction ps with
  | nil => first | rfl | simp [Op.lookupswitch.offset]
  | cons a l ih =>
    have h1 := h a List.mem_cons_self
    have h2 := ih (fun q hq => h q (List.mem_cons_of_mem _ hq))
    first
      | (simp only [Op.lookupswitch.offset] at h2 ⊢; simp [h1, h2]; done)
      | (simp [Op.lookupswitch.offset, h1] at h2 ⊢; exact h2)
      | (unfold Op.lookupswitch.offset at h2 ⊢; simp [h1]; exact h2)
section CLX
variable {p : Program} {l : Launch} {e : Env} {R : Room} {s : State} {m : MethodId} {args : Array Value} {below : List Frame} {meth : Method} {c : Code} {H : Heap} {locs : List Loc} {cells slots : Nat} {Q : State → Prop}
variable {cc : ByteArray} {pc nL : Nat} {ls : Array Slot} {rest : List Value} {b : Bool} {D : cl_D} {c0 : Nat} {T0 T : Nat → Nat × Nat} {σ : cl_S} {ret : Option FieldType} {own : String}
theorem cl_le1 (G : cl_G b D c0 R s T0 T σ H locs cells slots) : cells ≤ R.cells := by
  obtain ⟨-, -, -, -, -, h1, h2⟩ := G
  omega
theorem cl_le2 (G : cl_G b D c0 R s T0 T σ H locs cells slots) : slots ≤ R.slots := by
  obtain ⟨-, -, -, -, -, h1, h2⟩ := G
  omega
theorem mw_cn : Cond.native arraycopyName ∈ rf_tb := rf_at 891 (by decide +kernel) (by decide +kernel)
theorem mw_cs : Cond.static arraycopyName ∈ rf_tb := rf_at 890 (by decide +kernel) (by decide +kernel)
theorem mw_ci : Cond.initialized "java/lang/System" ∈ rf_tb := rf_at 19 (by decide +kernel) (by decide +kernel)
theorem cl_offcp (a0 a1 : Nat) (sp dp n : Int32) : cl_off σ (cl_cp σ a0 a1 sp dp n) a1 := ⟨rfl, fun b hb => ⟨fun j => if_neg hb, fun _ => rfl, fun _ => rfl⟩⟩
theorem cl_copy (C : cl_C D p s m args meth c cc nL ret own) (G : cl_G b D c0 R s T0 T σ H locs cells slots) {a0 a1 n0 n1 idx : Nat} {sp dp n : Int32} (h0 : T a0 = (1, n0)) (h1 : T a1 = (1, n1)) (hcp : ¬ sp < 0 ∧ ¬ dp < 0 ∧ ¬ n < 0 ∧ sp.toNatClampNeg + n.toNatClampNeg ≤ n0 ∧ dp.toNatClampNeg + n.toNatClampNeg ≤ n1) (hlink : (Cond.methodLink own idx arraycopyName).before args s = true) (hframes : 1 ≤ R.frames) (hlocals : (rest.map fun v => v.category).sum + (nativeFrameWords "java/lang/System" "arraycopy" 5 + 11) ≤ R.locals) (hls : ls.size = nL) (hdg : decode cc pc = .ok (.invokestatic idx, 3))
    (kk : ∀ (H1 : Heap) (locs1 : List Loc), cl_G b D c0 R s T0 T (cl_cp σ a0 a1 sp dp n) H1 locs1 cells slots → W p l e R s m args below meth c H1 locs1 cells slots Q (F0 m (pc + 3) ls rest)) : W p l e R s m args below meth c H locs cells slots Q (F0 m pc ls (.int n :: .int dp :: .ref (c0 + a1) :: .int sp :: .ref (c0 + a0) :: rest)) := by
  have nn : ∀ z : Int32, ¬ z < 0 → z.toInt = (z.toNatClampNeg : Int) := by
    intro z hz
    have hz0 : (0 : Int) ≤ z.toInt := by
      have := Int32.not_lt.mp hz
      simpa using Int32.le_iff_toInt_le.mp this
    show z.toInt = ((z.toInt.toNat : Nat) : Int)
    omega
  obtain ⟨g1, g2, g3, g4, g5⟩ := hcp
  have hc0 := cl_arrI G h0 (by decide) (by decide) (by decide)
  have hc1 := cl_arrI G h1 (by decide) (by decide) (by decide)
  have hAr := (C.2.2.2.2.2.1.2.1 1 (by decide) (by decide)).1
  obtain ⟨-, k0, hk0, cm0, hkk0⟩ := hAr n0 (fun j => .int (σ.1 a0 j))
  obtain ⟨-, k1, hk1, cm1, hkk1⟩ := hAr n1 (fun j => .int (σ.1 a1 j))
  intro TT hT X
  obtain ⟨vm', X', step⟩ := X.arraycopy C.1 C.2.2.2.1 hlink (C.2.2.2.2.1 _ mw_cn) (C.2.2.2.2.1 _ mw_cs) (C.2.2.2.2.1 _ mw_ci) (src := c0 + a0) (dst := c0 + a1) (cs := arrV (D.2.2.1 1) n0 (fun j => .int (σ.1 a0 j))) (cd := arrV (D.2.2.1 1) n1 (fun j => .int (σ.1 a1 j))) (srcPos := sp) (destPos := dp) (n := n) (by rw [hT]; exact hc0) (by rw [hT]; exact hc1)
    (fun _ h => by cases h) (fun _ h => by cases h) (fun h => by cases h) (fun h => by cases h) hk0 hk1 hkk0 hkk1 (by simp [cl_T, refKind]) g1 g2 g3
    (by rw [nn sp g1, nn n g3, arrV_size]; omega)
    (by rw [nn dp g2, nn n g3, arrV_size]; omega)
    (fun vm₁ _ i hi => by
      have e : (arrV (D.2.2.1 1) n0 (fun j => Value.int (σ.1 a0 j))).slots.getD (sp.toNatClampNeg + i) .null = .int (σ.1 a0 (sp.toNatClampNeg + i)) := by
        rw [Array.getD_eq_getD_getElem?, arrV_read _ _ (by omega)]
        rfl
      refine ⟨?_, ?_⟩
      · rw [e]; rfl
      · rw [e]
        exact trivial)
    (g := F0 m pc ls (.int n :: .int dp :: .ref (c0 + a1) :: .int sp :: .ref (c0 + a0) :: rest)) rfl (by rw [C.2.2.1]; exact hls) (rest := rest) rfl (by rw [C.2.1]; exact hdg) hframes (by show 2 * 0 + _ + _ ≤ _; omega)
  have e1 : copied (arrV (D.2.2.1 1) n0 (fun j => Value.int (σ.1 a0 j))) (arrV (D.2.2.1 1) n1 (fun j => Value.int (σ.1 a1 j))) sp dp n = arrV (D.2.2.1 1) n1 (fun j => Value.int (va_cpy (σ.1 a0) (σ.1 a1) sp.toNatClampNeg dp.toNatClampNeg n.toNatClampNeg j)) := va_copied (fun z => .int z) (D.2.2.1 1) (D.2.2.1 1) (σ.1 a0) (σ.1 a1) g4
  rw [e1] at X' step
  have hl : c0 + a1 < H.size := (Array.getElem?_eq_some_iff.mp hc1).1
  generalize hcell : arrV (D.2.2.1 1) n1 (fun j => Value.int (va_cpy (σ.1 a0) (σ.1 a1) sp.toNatClampNeg dp.toNatClampNeg n.toNatClampNeg j)) = cel at X' step
  have hheap : ((TT.setVm vm').setCell (c0 + a1) cel).heap = H.setIfInBounds (c0 + a1) cel := by rw [← hT]; rfl
  have oq : ∀ q : Nat, q ≠ c0 + a1 → (H.setIfInBounds (c0 + a1) cel)[q]? = H[q]? := fun q hq => by simp [Array.getElem?_setIfInBounds, Ne.symm hq]
  have hz : (H.setIfInBounds (c0 + a1) cel).size = H.size := by simp
  have hat : cl_at D c0 (cl_cp σ a0 a1 sp dp n) a1 (T a1).1 (T a1).2 (H.setIfInBounds (c0 + a1) cel) := by
    rw [h1]
    show (H.setIfInBounds (c0 + a1) cel)[c0 + a1]? = some (arrV (D.2.2.1 1) n1 (fun j => .int (cl_row σ.1 a1 (va_cpy (σ.1 a0) (σ.1 a1) sp.toNatClampNeg dp.toNatClampNeg n.toNatClampNeg) a1 j)))
    rw [← hcell]
    simp [Array.getElem?_setIfInBounds, hl, cl_row]
  have G1 := cl_Gset (k := 0) G (by rw [h1]; exact (by decide : (1:Nat) ≠ 0)) (cl_offcp a0 a1 sp dp n) hz oq hat (cl_wt_same rfl rfl G.2.1.2.2.2.1) (fun hb => cl_lay_same rfl rfl (G.2.2.1 hb))
  have hA := cl_A_in G (a := a1) (by rw [h1]; exact (by decide : (1:Nat) ≠ 0))
  obtain ⟨q1, q2, q3, q4, q5, q6, q7⟩ := G1
  obtain ⟨t, a9, b9⟩ := kk _ _ ⟨q1, q2, q3, ⟨q4.1, q4.2.1, fun q hq => by
      rcases List.mem_append.mp hq with h | h
      · exact G.2.2.2.1.2.2 q h
      · obtain ⟨z, -, hz⟩ := List.mem_map.mp h
        rw [← hz]
        exact hA⟩, q5, q6, q7⟩ _ hheap X'
  exact ⟨t, step t a9, b9⟩
end CLX
