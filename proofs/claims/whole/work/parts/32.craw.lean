theorem cl_tk0 {f : Nat} (h : 2 ≤ f) : cl_tk f ≠ 0 := by
  unfold cl_tk
  by_cases q : f = 2
  · rw [if_pos q]; decide
  · rw [if_neg q]; omega
theorem cl_el0 (t : Nat) : cl_el t ≠ 0 := by
  unfold cl_el
  split
  · decide
  · split <;> decide
theorem cl_layk : ∀ ci e, e ∈ cl_layL.getD ci [] → e.2.2.2.1 ≠ 0 := by
  have h : cl_layL.all (fun l => l.all (fun e => e.2.2.2.1 ≠ 0)) = true := by decide +kernel
  intro ci e he
  have hm : cl_layL.getD ci [] ∈ cl_layL ∨ cl_layL.getD ci [] = [] := by
    by_cases q : ci < cl_layL.length
    · left
      rw [List.getD_eq_getElem?_getD, List.getElem?_eq_getElem q]
      exact List.getElem_mem q
    · right
      rw [List.getD_eq_getElem?_getD, List.getElem?_eq_none (by omega)]
      rfl
  rcases hm with hm | hm
  · have h1 := List.all_eq_true.mp h _ hm
    have h2 := List.all_eq_true.mp h1 _ he
    simpa using h2
  · rw [hm] at he
    cases he
theorem cl_outer (c : ClassId) (N h0 : Nat) : ∀ i : Nat, Jvm.Free.Multi.outerC c N h0 i = arrV c N (fun j => va_rf (if j < i then some (h0 + 1 + j) else none))
  | 0 => by
    show ({ cls := c, slots := Array.replicate N .null, vm := .none } : Cell) = _
    rw [arrV_new]
    refine congrArg (arrV c N) (funext fun j => ?_)
    simp [va_rf]
  | i + 1 => by
    show (Jvm.Free.Multi.outerC c N h0 i).setSlot i (.ref (h0 + 1 + i)) = _
    rw [cl_outer c N h0 i, arrV_store]
    refine congrArg (arrV c N) (funext fun j => ?_)
    by_cases e : j = i
    · subst e
      simp [updV, va_rf]
    · by_cases h : j < i
      · simp [updV, e, h, Nat.lt_succ_of_lt h]
      · simp [updV, e, h, show ¬ j < i + 1 by omega]
section CRW
variable {p : Program} {l : Launch} {e : Env} {R : Room} {s : State} {m : MethodId} {args : Array Value} {below : List Frame} {meth : Method} {c : Code} {H : Heap} {locs : List Loc} {cells slots : Nat} {Q : State → Prop}
variable {cc : ByteArray} {pc nL : Nat} {ls : Array Slot} {rest : List Value} {b : Bool} {D : cl_D} {c0 : Nat} {T0 T : Nat → Nat × Nat} {σ : cl_S} {ret : Option FieldType} {own : String}
theorem cl_objR (G : cl_G b D c0 R s T0 T σ H locs cells slots) {a ci N : Nat} (hN : cl_N ci = N) (ha : (T a).1 = 116 + ci) : t_OB (c0 + a) (D.1 ci) N (D.2.1 ci) H (cl_V c0 D.2.2.2.2.1 true σ a ci) := by
  have h := G.2.1.2.2.1 a
  rw [G.1] at h
  unfold cl_at at h
  rw [if_neg (by omega), if_neg (by omega)] at h
  rw [ha, cl_ci_116, hN, show decide (116 ≤ 116 + ci) = true from decide_eq_true (by omega)] at h
  exact h
theorem cl_getR (C : cl_C D p s m args meth c cc nL ret own) (G : cl_G b D c0 R s T0 T σ H locs cells slots) {a ci k idx N : Nat} {Cn : String} {Tn : u_T} (hc : cl_cls[ci]? = some (Cn, Tn, N)) (hN : cl_N ci = N) (ha : (T a).1 = 116 + ci) (hk : k < N) (hin : ∀ w ∈ u_ws Cn Tn N, w ∈ rf_tb) (hl : Cond.fieldLink own idx Cn (Tn k).2.1 (Tn k).2.2.1 ∈ rf_tb) (hf : (Tn k).1 = Cn) {v : Value} (hv : cl_V c0 D.2.2.2.2.1 true σ a ci k = v) (hdg : decode cc pc = .ok (.getfield idx, 3))
    (kk : W p l e R s m args below meth c H locs cells slots Q (F0 m (pc + 3) ls (v :: rest))) : W p l e R s m args below meth c H locs cells slots Q (F0 m pc ls (.ref (c0 + a) :: rest)) := by
  obtain ⟨cell, q1, q2, q3, q4⟩ := cl_objR G hN ha
  obtain ⟨hx, hb, -, hown, hts, hK, -, -⟩ := C
  obtain ⟨hS, hfc, kC, hkC, hkind⟩ := hK.1 ci _ hc
  obtain ⟨cf, kf, fi, f, hfi, hsl⟩ := hS k hk
  have hl := hts _ hl
  have hfi2 := hfi
  rw [hf] at hfi2
  refine W.getf hx hb hown hl hfi2 (u_facts hfc hkC (u_lays hts hin hk) hfi).1 q1 (by rw [q3]; exact fun h => by cases h) (v := v) ?_ rfl rfl hdg kk
  rw [hsl, q4 k hk, hv]
theorem cl_tyrR (G : cl_G b D c0 R s T0 T σ H locs cells slots) {a ci k : Nat} (ha : (T a).1 = 116 + ci) (h2 : 2 ≤ cl_fd ci k) : cl_RT T (σ.2.2.1 a k) (cl_tk (cl_fd ci k)) := by
  have h := G.2.1.2.2.2.1.1 a k (by rw [G.1]; omega) (by rw [G.1, ha, cl_ci_116]; exact h2)
  rw [G.1, ha, cl_ci_116] at h
  exact h
theorem cl_wtpR (G : cl_G b D c0 R s T0 T σ H locs cells slots) {a ci k : Nat} (ha : (T a).1 = 116 + ci) {x : Option Nat} (hx : cl_RT T x (cl_tk (cl_fd ci k))) : cl_wt (cl_wr σ a k x) := by
  have hTa : (σ.2.2.2.1 a).1 = 116 + ci := by rw [G.1]; exact ha
  refine cl_wt_wr G.2.1.2.2.2.1 (fun K => ⟨fun h1 _ h3 => ?_, fun _ h2 _ => ?_⟩)
  · rw [h3, hTa, G.1, cl_ci_116]; exact hx
  · omega
theorem cl_layR (G : cl_G b D c0 R s T0 T σ H locs cells slots) {a ci k : Nat} (ha : (T a).1 = 116 + ci) (x : Option Nat) : b = true → cl_lay (cl_wr σ a k x) := fun hb => cl_lay_wr (G.2.2.1 hb) (Or.inr (Or.inr (by rw [G.1]; omega)))
/-- a field of an object that is being made is written, in its own constructor -/
theorem cl_putR (C : cl_C D p s m args meth c cc nL ret own) (hini : meth.name = "<init>") (G : cl_G b D c0 R s T0 T σ H locs cells slots) {a ci k idx N : Nat} {Cn : String} {Tn : u_T} (hc : cl_cls[ci]? = some (Cn, Tn, N)) (hN : cl_N ci = N) (ha : (T a).1 = 116 + ci) (hk : k < N) (hin : ∀ w ∈ u_ws Cn Tn N, w ∈ rf_tb) (ty0 : Nat → FieldType) (hty : ∀ k, k < N → parseFieldDescriptor (Tn k).2.2.1 = some (ty0 k)) (hnm : ∀ a, a < N → ∀ b, b < N → a ≠ b → (Tn a).2.1 ≠ (Tn b).2.1) (hl : Cond.fieldLink own idx Cn (Tn k).2.1 (Tn k).2.2.1 ∈ rf_tb) (hf : (Tn k).1 = Cn) (hdecl : Cn = own) {v : Value} (hn : narrow (ty0 k) v = v) (hfit : fits (ty0 k) v = true) {σ' : cl_S} (ho : cl_off σ σ' a) (hV : ∀ j, j < N → updV (cl_V c0 D.2.2.2.2.1 true σ a ci) k v j = cl_V c0 D.2.2.2.2.1 true σ' a ci j) (hw : cl_wt σ') (hlay : b = true → cl_lay σ') (hdg : decode cc pc = .ok (.putfield idx, 3))
    (kk : ∀ (H1 : Heap) (locs1 : List Loc), cl_G b D c0 R s T0 T σ' H1 locs1 cells slots → W p l e R s m args below meth c H1 locs1 cells slots Q (F0 m (pc + 3) ls rest)) : W p l e R s m args below meth c H locs cells slots Q (F0 m pc ls (v :: .ref (c0 + a) :: rest)) := by
  have hap := cl_apart C hc hin ty0 hty hnm
  obtain ⟨cell, q1, q2, q3, q4⟩ := cl_objR G hN ha
  obtain ⟨hx, hb, -, hown, hts, hK, -, -⟩ := C
  obtain ⟨hS, hfc, kC, hkC, hkind⟩ := hK.1 ci _ hc
  obtain ⟨cf, kf, fi, f, hfi, hsl⟩ := hS k hk
  have hl := hts _ hl
  have hlay2 := hts _ (hin _ (u_in_lay hk))
  have hst := (u_facts hfc hkC (u_lays hts hin hk) hfi).1
  have fin : ∀ (H' : Heap), H'[c0 + a]? = some (cell.setSlot f.slot v) → H'.size = H.size → (∀ q, q ≠ c0 + a → H'[q]? = H[q]?) → W p l e R s m args below meth c H' (locs ++ [⟨c0 + a, f.slot⟩]) cells slots Q (F0 m (pc + 3) ls rest) := by
    intro H' e1 e2 e3
    rw [hsl] at e1 ⊢
    refine kk H' _ (cl_Gset G (by omega) ho e2 e3 ?_ hw hlay)
    unfold cl_at
    rw [if_neg (by omega), if_neg (by omega), ha, cl_ci_116, hN, show decide (116 ≤ 116 + ci) = true from decide_eq_true (by omega)]
    exact t_OB.to (V := updV (cl_V c0 D.2.2.2.2.1 true σ a ci) k v) ⟨_, e1, q2, q3, t_set q4 hap hk v⟩ hV
  unfold u_lay at hlay2
  by_cases hfin : (Tn k).2.2.2 = true
  · rw [if_pos hfin] at hlay2
    have hcf : m.cls = cf := by
      obtain ⟨_, _, c', _, _, _, -, -, hf', -, -, -, hown2, -⟩ := Cond.laysFinal_spec hlay2
      have e1 : c' = cf := by have := hfi.symm.trans hf'; simp at this; exact this.1.symm
      rw [hf, hdecl] at hown2
      rw [← e1]; exact Option.some.inj (hown.symm.trans hown2)
    have h6 := u_fits hfc hkC hkind (Or.inr hlay2) hfi (hty k hk) hn hfit
    rw [hf] at hfi
    exact W.putFinK hx hb hown hl hfi hst hcf hini (by rw [q2]; exact h6) q1 q3 (by rw [hsl]; exact k2_hasslot (q4 k hk)) rfl rfl hdg fin
  · rw [if_neg hfin] at hlay2
    have h6 := u_store hfc hkC hkind hlay2 hfi (hty k hk) hn hfit
    rw [hf] at hfi
    exact W.putK hx hb (f := f) ⟨hown, hl, ⟨_, _, _, hfi⟩, hst⟩ (by rw [q2]; exact h6) q1 q3 (by rw [hsl]; exact k2_hasslot (q4 k hk)) rfl rfl hdg fin
/-- room for a new cell of N slots -/
def al {α : Type} (σ : cl_S) (N : Nat) (x : Option α) : Option α := if 1 ≤ σ.2.2.2.2.2.1 ∧ N ≤ σ.2.2.2.2.2.2 then x else none
theorem al_some {α : Type} {σ : cl_S} {N : Nat} {x : Option α} {y : α} (h : al σ N x = some y) : (1 ≤ σ.2.2.2.2.2.1 ∧ N ≤ σ.2.2.2.2.2.2) ∧ x = some y := by
  unfold al at h
  by_cases q : 1 ≤ σ.2.2.2.2.2.1 ∧ N ≤ σ.2.2.2.2.2.2
  · rw [if_pos q] at h; exact ⟨q, h⟩
  · rw [if_neg q] at h; cases h
theorem cl_row_ne {α : Type} {f : Nat → Nat → α} {a b : Nat} {v : Nat → α} (h : b ≠ a) (j : Nat) : cl_row f a v b j = f b j := if_neg h
theorem cl_row_eq {α : Type} {f : Nat → Nat → α} {a : Nat} {v : Nat → α} (j : Nat) : cl_row f a v a j = v j := if_pos rfl
theorem cl_Gnew {H1 : Heap} (G : cl_G b D c0 R s T0 T σ H locs cells slots) {t ln N : Nat} (ht : t < 16 ∨ 116 ≤ t) (hr : 1 ≤ σ.2.2.2.2.2.1 ∧ N ≤ σ.2.2.2.2.2.2) (hat : cl_at D c0 (cl_nw σ t ln N) σ.2.2.2.2.1 t ln H1) (z : H1.size = H.size + 1) (oq : ∀ q : Nat, q < H.size → H1[q]? = H[q]?) : cl_up T (va_up T σ.2.2.2.2.1 (t, ln)) ∧ cl_G b D c0 R s T0 (va_up T σ.2.2.2.2.1 (t, ln)) (cl_nw σ t ln N) H1 locs (cells + 1) (slots + N) := by
  obtain ⟨hT, ⟨p1, p2, p3, p4, p5⟩, hlay, hS, hup, hc1, hc2⟩ := G
  subst hT
  have hu : cl_up σ.2.2.2.1 (va_up σ.2.2.2.1 σ.2.2.2.2.1 (t, ln)) := by
    intro a ha
    unfold va_up
    rw [if_neg]
    intro e
    exact ha (by rw [e]; exact p2 _ (Nat.le_refl _))
  have hne : ∀ a, a ≠ σ.2.2.2.2.1 → va_up σ.2.2.2.1 σ.2.2.2.2.1 (t, ln) a = σ.2.2.2.1 a := fun a ha => by unfold va_up; rw [if_neg ha]
  have hself : va_up σ.2.2.2.1 σ.2.2.2.2.1 (t, ln) σ.2.2.2.2.1 = (t, ln) := by unfold va_up; rw [if_pos rfl]
  refine ⟨hu, rfl, ⟨?_, fun a ha => ?_, fun a => ?_, ⟨fun a k h1 h2 => ?_, fun a j h1 h2 h3 => ?_⟩, p5.1, fun q hq => ?_⟩, fun hb => ?_, ⟨Nat.le_trans hS.1 (by omega), fun q g1 g2 => ?_, hS.2.2⟩, fun a ha => ?_, ?_, ?_⟩
  · show H1.size = c0 + (σ.2.2.2.2.1 + 1)
    omega
  · show (va_up σ.2.2.2.1 σ.2.2.2.2.1 (t, ln) a).1 = 0
    have ha' : σ.2.2.2.2.1 + 1 ≤ a := ha
    rw [hne a (by omega)]
    exact p2 a (by omega)
  · show cl_at D c0 (cl_nw σ t ln N) a (va_up σ.2.2.2.1 σ.2.2.2.2.1 (t, ln) a).1 (va_up σ.2.2.2.1 σ.2.2.2.2.1 (t, ln) a).2 H1
    by_cases e : a = σ.2.2.2.2.1
    · subst e
      rw [hself]
      exact hat
    · rw [hne a e]
      by_cases h0 : (σ.2.2.2.1 a).1 = 0
      · unfold cl_at
        rw [if_pos h0]
        trivial
      · have hl : a < σ.2.2.2.2.1 := Nat.lt_of_not_le (fun q => h0 (p2 a q))
        have h := p3 a
        unfold cl_at at h ⊢
        rw [if_neg h0] at h ⊢
        by_cases t1 : (σ.2.2.2.1 a).1 < 16
        · rw [if_pos t1] at h ⊢
          rw [oq _ (by rw [p1]; omega), h]
          unfold cl_arr cl_nw
          simp only [cl_row_ne e]
        · rw [if_neg t1] at h ⊢
          refine (h.kept (oq _ (by rw [p1]; omega))).to (fun k _ => ?_)
          unfold cl_V cl_nw
          simp only [cl_row_ne e]
  · show cl_RT (va_up σ.2.2.2.1 σ.2.2.2.2.1 (t, ln)) (cl_row σ.2.2.1 σ.2.2.2.2.1 (fun _ => none) a k) (cl_tk (cl_fd (cl_ci (va_up σ.2.2.2.1 σ.2.2.2.2.1 (t, ln) a).1) k))
    have h1' : 16 ≤ (va_up σ.2.2.2.1 σ.2.2.2.2.1 (t, ln) a).1 := h1
    have h2' : 2 ≤ cl_fd (cl_ci (va_up σ.2.2.2.1 σ.2.2.2.2.1 (t, ln) a).1) k := h2
    by_cases e : a = σ.2.2.2.2.1
    · subst e
      rw [cl_row_eq]
      exact fun b hb => by cases hb
    · rw [cl_row_ne e]
      rw [hne a e] at h1' h2' ⊢
      exact (p4.1 a k h1' h2').up hu (cl_tk0 h2')
  · show cl_RT (va_up σ.2.2.2.1 σ.2.2.2.2.1 (t, ln)) (cl_row σ.2.2.1 σ.2.2.2.2.1 (fun _ => none) a j) (cl_el (va_up σ.2.2.2.1 σ.2.2.2.2.1 (t, ln) a).1)
    have h1' : 4 ≤ (va_up σ.2.2.2.1 σ.2.2.2.2.1 (t, ln) a).1 := h1
    have h2' : (va_up σ.2.2.2.1 σ.2.2.2.2.1 (t, ln) a).1 < 16 := h2
    have h3' : j < (va_up σ.2.2.2.1 σ.2.2.2.2.1 (t, ln) a).2 := h3
    by_cases e : a = σ.2.2.2.2.1
    · subst e
      rw [cl_row_eq]
      exact fun b hb => by cases hb
    · rw [cl_row_ne e]
      rw [hne a e] at h1' h2' h3' ⊢
      exact (p4.2 a j h1' h2' h3').up hu (cl_el0 _)
  · rw [oq q (by have := p5.1; omega)]
    exact p5.2 q hq
  · intro a ci ha hci e9 he
    have ha' : (va_up σ.2.2.2.1 σ.2.2.2.2.1 (t, ln) a).1 = 16 + ci := ha
    by_cases e : a = σ.2.2.2.2.1
    · subst e
      rw [hself] at ha'
      have : t = 16 + ci := ha'
      omega
    · rw [hne a e] at ha'
      obtain ⟨g1, g2⟩ := hlay hb a ci ha' hci e9 he
      refine ⟨?_, ?_⟩
      · show cl_row σ.2.2.1 σ.2.2.2.2.1 (fun _ => none) a e9.1 = _
        rw [cl_row_ne e]
        exact g1
      · show va_up σ.2.2.2.1 σ.2.2.2.2.1 (t, ln) (cl_tgt a e9) = _
        rw [hu _ (by rw [g2]; exact cl_layk ci e9 he)]
        exact g2
  · rw [oq q (Nat.lt_of_lt_of_le g1 hS.1)]
    exact hS.2.1 q g1 g2
  · rw [hne a (by have h := hS.1; omega)]
    exact hup a ha
  · show cells + 1 + (σ.2.2.2.2.2.1 - 1) = R.cells
    omega
  · show slots + N + (σ.2.2.2.2.2.2 - N) = R.slots
    omega
theorem cl_new (C : cl_C D p s m args meth c cc nL ret own) (G : cl_G b D c0 R s T0 T σ H locs cells slots) {ci idx N : Nat} {Cn : String} {Tn : u_T} (hc : cl_cls[ci]? = some (Cn, Tn, N)) (hN : cl_N ci = N) (hin : ∀ w ∈ u_ws Cn Tn N, w ∈ rf_tb) (ty0 : Nat → FieldType) (hty : ∀ k, k < N → parseFieldDescriptor (Tn k).2.2.1 = some (ty0 k)) (hdf : ∀ k, k < N → defaultValue (ty0 k) = cl_V c0 D.2.2.2.2.1 true (cl_nw σ (116 + ci) 0 N) σ.2.2.2.2.1 ci k) (hcl : Cond.classLink own idx Cn ∈ rf_tb) (hinst : Cond.instantiable Cn N ∈ rf_tb) (hinit : Cond.initialized Cn ∈ rf_tb) (hr : 1 ≤ σ.2.2.2.2.2.1 ∧ N ≤ σ.2.2.2.2.2.2) (hdg : decode cc pc = .ok (.new idx, 3))
    (kk : ∀ (T1 : Nat → Nat × Nat) (H1 : Heap) (cells1 slots1 : Nat), s.heap.size ≤ c0 + σ.2.2.2.2.1 → (T1 σ.2.2.2.2.1).1 = 116 + ci → cl_up T T1 → cl_G b D c0 R s T0 T1 (cl_nw σ (116 + ci) 0 N) H1 locs cells1 slots1 → W p l e R s m args below meth c H1 locs cells1 slots1 Q (F0 m (pc + 3) ls (.ref (c0 + σ.2.2.2.2.1) :: rest))) : W p l e R s m args below meth c H locs cells slots Q (F0 m pc ls rest) := by
  have hts := C.2.2.2.2.1
  have hKn := C.2.2.2.2.2.1.1 ci _ hc
  have h1 : H.size = c0 + σ.2.2.2.2.1 := G.2.1.1
  refine W.newcK C.1 C.2.1 C.2.2.2.1 (hts _ hcl) (hts _ hinst) (hts _ hinit) rfl hdg (by have := G.2.2.2.2.2.1; omega) (by have := G.2.2.2.2.2.2; omega) hKn.2.1 h1 fun H1 kC hkC e1 z1 o1 => ?_
  have hb := (u_born ty0 hts hin hKn hkC e1 hty).to hdf
  obtain ⟨hu, G1⟩ := cl_Gnew (H1 := H1) G (t := 116 + ci) (ln := 0) (N := N) (Or.inr (by omega)) hr (by
    unfold cl_at
    rw [if_neg (by omega), if_neg (by omega), cl_ci_116, hN, show decide (116 ≤ 116 + ci) = true from decide_eq_true (by omega)]
    exact hb) (by rw [z1, h1]) (fun q hq => o1 q (by rw [← h1]; exact hq))
  exact kk _ H1 _ _ (by rw [← h1]; exact G.2.2.2.1.1) (by unfold va_up; rw [if_pos rfl]) hu G1
def cl_at9 : Nat → ArrayType := fun t => match t with
  | 1 => .int
  | 2 => .long
  | _ => .char
/-- newarray of ints, longs, chars -/
theorem cl_newa (C : cl_C D p s m args meth c cc nL ret own) (G : cl_G b D c0 R s T0 T σ H locs cells slots) {t : Nat} (h0 : 0 < t) (h4 : t < 4) (atype : ArrayType) (hat9 : newarray.typeOf atype = cl_T t) (harr : Cond.arrayClass (cl_T t) ∈ rf_tb) {n : Int32} {N : Nat} (hn : ¬ n < 0) (hN : n.toNatClampNeg = N) (hbytes : N * componentBytes (cl_T t) ≤ 536870912) (hr : 1 ≤ σ.2.2.2.2.2.1 ∧ N ≤ σ.2.2.2.2.2.2) (hdg : decode cc pc = .ok (.newarray atype, 2))
    (kk : ∀ (T1 : Nat → Nat × Nat) (H1 : Heap) (cells1 slots1 : Nat), T1 σ.2.2.2.2.1 = (t, N) → cl_up T T1 → cl_G b D c0 R s T0 T1 (cl_nw σ t N N) H1 locs cells1 slots1 → W p l e R s m args below meth c H1 locs cells1 slots1 Q (F0 m (pc + 2) ls (.ref (c0 + σ.2.2.2.2.1) :: rest))) : W p l e R s m args below meth c H locs cells slots Q (F0 m pc ls (.int n :: rest)) := by
  have hts := C.2.2.2.2.1
  have h1 : H.size = c0 + σ.2.2.2.2.1 := G.2.1.1
  have hRA := (C.2.2.2.2.2.1.2.1 t h0 (by omega)).2
  refine va_newaK C.1 C.2.1 (by rw [hat9]; exact hts _ harr) rfl hdg rfl hn hN (by rw [hat9]; exact hbytes) (by have := G.2.2.2.2.2.1; omega) (by have := G.2.2.2.2.2.2; omega) h1 fun H1 cA e1 z1 o1 hAr hNm => ?_
  have hcA : cA = D.2.2.1 t := by
    rw [hat9] at hNm
    have h2 : s.vm.findClass ("[" ++ (cl_T t).toString) = some (D.2.2.1 t) := by
      rcases (show t = 1 ∨ t = 2 ∨ t = 3 by omega) with rfl | rfl | rfl <;> exact hRA
    exact Option.some.inj (hNm.symm.trans h2)
  subst hcA
  rw [hat9] at e1
  obtain ⟨hu, G1⟩ := cl_Gnew (H1 := H1) G (t := t) (ln := N) (N := N) (Or.inl (by omega)) hr (by
    unfold cl_at
    rw [if_neg (by omega), if_pos (by omega), e1]
    rcases (show t = 1 ∨ t = 2 ∨ t = 3 by omega) with rfl | rfl | rfl <;> simp [cl_arr, cl_nw, cl_row_eq, cl_T, defaultValue]) (by rw [z1, h1]) (fun q hq => o1 q (by rw [← h1]; exact hq))
  exact kk _ H1 _ _ (by unfold va_up; rw [if_pos rfl]) hu G1
theorem cl_newq (C : cl_C D p s m args meth c cc nL ret own) (G : cl_G b D c0 R s T0 T σ H locs cells slots) {t idx : Nat} {Cn : String} (h4 : 4 ≤ t) (h6 : t < 6) (hT9 : cl_T t = .object Cn) (hover : va_AO Cn s) (hcl : Cond.classLink own idx Cn ∈ rf_tb) {n : Int32} {N : Nat} (hn : ¬ n < 0) (hN : n.toNatClampNeg = N) (hbytes : N * 4 ≤ 536870912) (hr : 1 ≤ σ.2.2.2.2.2.1 ∧ N ≤ σ.2.2.2.2.2.2) (hdg : decode cc pc = .ok (.anewarray idx, 3))
    (kk : ∀ (T1 : Nat → Nat × Nat) (H1 : Heap) (cells1 slots1 : Nat), T1 σ.2.2.2.2.1 = (t, N) → cl_up T T1 → cl_G b D c0 R s T0 T1 (cl_nw σ t N N) H1 locs cells1 slots1 → W p l e R s m args below meth c H1 locs cells1 slots1 Q (F0 m (pc + 3) ls (.ref (c0 + σ.2.2.2.2.1) :: rest))) : W p l e R s m args below meth c H locs cells slots Q (F0 m pc ls (.int n :: rest)) := by
  have hts := C.2.2.2.2.1
  have h1 : H.size = c0 + σ.2.2.2.2.1 := G.2.1.1
  have hRA := (C.2.2.2.2.2.1.2.1 t (by omega) (by omega)).2
  rw [hT9] at hRA
  subst hN
  refine W.anew C.1 C.2.1 C.2.2.2.1 (hts _ hcl) (va_AO.use hover) rfl hdg rfl hn hbytes (by have := G.2.2.2.2.2.1; omega) (by have := G.2.2.2.2.2.2; omega) fun cA kA comp f1 f2 f3 f4 => ?_
  obtain ⟨kB, cmB, g1, g2, g3, g4⟩ := hRA
  have hcA : cA = D.2.2.1 t := Option.some.inj (f1.symm.trans g4)
  subst hcA
  generalize hH1 : H.push ({ cls := D.2.2.1 t, slots := Array.replicate n.toNatClampNeg .null, vm := .none } : Cell) = H1
  have z1 : H1.size = H.size + 1 := by rw [← hH1, Array.size_push]
  have e1 : H1[H.size]? = some (arrV (D.2.2.1 t) n.toNatClampNeg (fun _ => .null)) := by rw [← hH1, Array.getElem?_push_size, ← arrV_new]
  have o1 : ∀ q : Nat, q < H.size → H1[q]? = H[q]? := fun q hq => by rw [← hH1, Array.getElem?_push, if_neg (Nat.ne_of_lt hq)]
  obtain ⟨hu, G1⟩ := cl_Gnew (H1 := H1) G (t := t) (ln := n.toNatClampNeg) (N := n.toNatClampNeg) (Or.inl (by omega)) hr (by
    unfold cl_at
    rw [if_neg (by omega), if_pos (by omega), ← h1, e1]
    unfold cl_arr
    rw [if_neg (by omega), if_neg (by omega)]
    simp [cl_nw, cl_row_eq, cl_rf, va_rf]) z1 o1
  rw [h1]
  exact kk _ H1 _ _ (by unfold va_up; rw [if_pos rfl]) hu G1
/-- an object that has been made: from now on its pointers are known -/
def cl_seal (σ : cl_S) (a ci : Nat) : cl_S := (σ.1, σ.2.1, σ.2.2.1, va_up σ.2.2.2.1 a (16 + ci, 0), σ.2.2.2.2)
noncomputable def sealed {α : Type} (σ : cl_S) (a ci : Nat) (x : Option α) : Option α := @ite _ ((∀ e ∈ cl_layL.getD ci [], σ.2.2.1 a e.1 = some (cl_tgt a e) ∧ σ.2.2.2.1 (cl_tgt a e) = (e.2.2.2.1, cl_ll a e)) ∧ (ci = 9 → ¬ σ.1 a 6 = 0)) (Classical.propDecidable _) x none
theorem sealed_some {α : Type} {σ : cl_S} {a ci : Nat} {x : Option α} {y : α} (h : sealed σ a ci x = some y) : ((∀ e ∈ cl_layL.getD ci [], σ.2.2.1 a e.1 = some (cl_tgt a e) ∧ σ.2.2.2.1 (cl_tgt a e) = (e.2.2.2.1, cl_ll a e)) ∧ (ci = 9 → ¬ σ.1 a 6 = 0)) ∧ x = some y := by
  unfold sealed at h
  by_cases q : (∀ e ∈ cl_layL.getD ci [], σ.2.2.1 a e.1 = some (cl_tgt a e) ∧ σ.2.2.2.1 (cl_tgt a e) = (e.2.2.2.1, cl_ll a e)) ∧ (ci = 9 → ¬ σ.1 a 6 = 0)
  · rw [if_pos q] at h; exact ⟨q, h⟩
  · rw [if_neg q] at h; cases h
theorem cl_fd2 : ∀ ci k, cl_fd ci k = 2 → ci = 9 ∧ k = 6 := by
  have h : (List.range 12).all (fun ci => (List.range 20).all (fun k => decide (cl_fd ci k = 2 → ci = 9 ∧ k = 6))) = true := by decide +kernel
  intro ci k hk
  by_cases h1 : ci < 12
  · by_cases h2 : k < 20
    · have g1 := List.all_eq_true.mp h ci (List.mem_range.mpr h1)
      have g2 := List.all_eq_true.mp g1 k (List.mem_range.mpr h2)
      exact (of_decide_eq_true g2) hk
    · exfalso
      have hl : ∀ l ∈ cl_fdL, l.length ≤ 20 := by decide +kernel
      unfold cl_fd at hk
      have : (cl_fdL.getD ci []).length ≤ 20 := by
        have hc : ci < cl_fdL.length := Nat.lt_of_lt_of_le h1 (by decide)
        rw [List.getD_eq_getElem?_getD, List.getElem?_eq_getElem hc]
        exact hl _ (List.getElem_mem hc)
      rw [List.getD_eq_getElem?_getD, List.getElem?_eq_none (by omega)] at hk
      cases hk
  · exfalso
    unfold cl_fd at hk
    rw [List.getD_eq_getElem?_getD (l := cl_fdL), List.getElem?_eq_none (by have : cl_fdL.length = 12 := rfl; omega)] at hk
    cases hk
theorem cl_tkb : ∀ ci k, cl_tk (cl_fd ci k) < 116 := by
  have h : cl_fdL.all (fun l => l.all (fun f => decide (cl_tk f < 116))) = true := by decide +kernel
  have key : ∀ (l : List Nat), (l.all (fun f => decide (cl_tk f < 116)) = true) → ∀ k, cl_tk (l.getD k 0) < 116 := by
    intro l hl k
    by_cases q : k < l.length
    · rw [List.getD_eq_getElem?_getD, List.getElem?_eq_getElem q]
      exact of_decide_eq_true (List.all_eq_true.mp hl _ (List.getElem_mem q))
    · rw [List.getD_eq_getElem?_getD, List.getElem?_eq_none (by omega)]
      decide
  intro ci k
  unfold cl_fd
  by_cases q : ci < cl_fdL.length
  · rw [List.getD_eq_getElem?_getD (l := cl_fdL), List.getElem?_eq_getElem q]
    exact key _ (List.all_eq_true.mp h _ (List.getElem_mem q)) k
  · rw [List.getD_eq_getElem?_getD (l := cl_fdL), List.getElem?_eq_none (by omega)]
    exact key [] rfl k
theorem cl_elb (t : Nat) : cl_el t < 116 := by
  unfold cl_el
  split
  · decide
  · split <;> decide
theorem cl_layb : ∀ ci e, e ∈ cl_layL.getD ci [] → e.2.2.2.1 < 116 := by
  have h : cl_layL.all (fun l => l.all (fun e => decide (e.2.2.2.1 < 116))) = true := by decide +kernel
  intro ci e he
  have hm : cl_layL.getD ci [] ∈ cl_layL ∨ cl_layL.getD ci [] = [] := by
    by_cases q : ci < cl_layL.length
    · left
      rw [List.getD_eq_getElem?_getD, List.getElem?_eq_getElem q]
      exact List.getElem_mem q
    · right
      rw [List.getD_eq_getElem?_getD, List.getElem?_eq_none (by omega)]
      rfl
  rcases hm with hm | hm
  · have h1 := List.all_eq_true.mp h _ hm
    exact of_decide_eq_true (List.all_eq_true.mp h1 _ he)
  · rw [hm] at he
    cases he
theorem cl_Gseal (G : cl_G b D c0 R s T0 T σ H locs cells slots) {a ci : Nat} (hci : ci < 100) (ha : (T a).1 = 116 + ci) (hn0 : s.heap.size ≤ c0 + a) (hq : (∀ e ∈ cl_layL.getD ci [], σ.2.2.1 a e.1 = some (cl_tgt a e) ∧ σ.2.2.2.1 (cl_tgt a e) = (e.2.2.2.1, cl_ll a e)) ∧ (ci = 9 → ¬ σ.1 a 6 = 0)) : cl_G b D c0 R s T0 (va_up T a (16 + ci, 0)) (cl_seal σ a ci) H locs cells slots := by
  obtain ⟨hT, ⟨p1, p2, p3, p4, p5⟩, hlay, hS, hup, hc1, hc2⟩ := G
  subst hT
  have hne : ∀ x, x ≠ a → va_up σ.2.2.2.1 a (16 + ci, 0) x = σ.2.2.2.1 x := fun x hx => by unfold va_up; rw [if_neg hx]
  have hself : va_up σ.2.2.2.1 a (16 + ci, 0) a = (16 + ci, 0) := by unfold va_up; rw [if_pos rfl]
  have hrt : ∀ {r : Option Nat} {K : Nat}, K < 116 → cl_RT σ.2.2.2.1 r K → cl_RT (va_up σ.2.2.2.1 a (16 + ci, 0)) r K := by
    intro r K hK h x hx
    have h1 := h x hx
    rw [hne x (fun q => by rw [q] at h1; omega)]
    exact h1
  refine ⟨rfl, ⟨p1, fun x hx => ?_, fun x => ?_, ⟨fun x k h1 h2 => ?_, fun x j h1 h2 h3 => ?_⟩, p5⟩, fun hb => ?_, hS, fun x hx => ?_, hc1, hc2⟩
  · show (va_up σ.2.2.2.1 a (16 + ci, 0) x).1 = 0
    have hz := p2 x hx
    rw [hne x (fun q => by rw [q] at hz; omega)]
    exact hz
  · show cl_at D c0 (cl_seal σ a ci) x (va_up σ.2.2.2.1 a (16 + ci, 0) x).1 (va_up σ.2.2.2.1 a (16 + ci, 0) x).2 H
    have h := p3 x
    by_cases e : x = a
    · subst e
      rw [hself]
      unfold cl_at at h ⊢
      rw [if_neg (by omega), if_neg (by omega), ha, cl_ci_116, show decide (116 ≤ 116 + ci) = true from decide_eq_true (by omega)] at h
      show (if 16 + ci = 0 then True else if 16 + ci < 16 then _ else _)
      rw [if_neg (by omega), if_neg (by omega), cl_ci_16 hci, show decide (116 ≤ 16 + ci) = false from decide_eq_false (by omega)]
      refine h.to (fun k _ => ?_)
      unfold cl_V
      split
      · rfl
      · rfl
      · rename_i h9
        obtain ⟨rfl, rfl⟩ := cl_fd2 ci k h9
        show cl_wa c0 D.2.2.2.2.1 true (σ.1 x 6) (σ.2.2.1 x 6) = cl_wa c0 D.2.2.2.2.1 false (σ.1 x 6) (σ.2.2.1 x 6)
        unfold cl_wa
        cases σ.2.2.1 x 6 with
        | none => simp [hq.2 rfl]
        | some y => rfl
      · rfl
    · rw [hne x e]
      exact h
  · show cl_RT (va_up σ.2.2.2.1 a (16 + ci, 0)) (σ.2.2.1 x k) (cl_tk (cl_fd (cl_ci (va_up σ.2.2.2.1 a (16 + ci, 0) x).1) k))
    have h1' : 16 ≤ (va_up σ.2.2.2.1 a (16 + ci, 0) x).1 := h1
    have h2' : 2 ≤ cl_fd (cl_ci (va_up σ.2.2.2.1 a (16 + ci, 0) x).1) k := h2
    by_cases e : x = a
    · subst e
      rw [hself] at h1' h2' ⊢
      have h2'' : 2 ≤ cl_fd (cl_ci (16 + ci)) k := h2'
      show cl_RT _ _ (cl_tk (cl_fd (cl_ci (16 + ci)) k))
      rw [cl_ci_16 hci] at h2'' ⊢
      have h := p4.1 x k (by omega) (by rw [ha, cl_ci_116]; exact h2'')
      rw [ha, cl_ci_116] at h
      exact hrt (cl_tkb _ _) h
    · rw [hne x e] at h1' h2' ⊢
      exact hrt (cl_tkb _ _) (p4.1 x k h1' h2')
  · show cl_RT (va_up σ.2.2.2.1 a (16 + ci, 0)) (σ.2.2.1 x j) (cl_el (va_up σ.2.2.2.1 a (16 + ci, 0) x).1)
    have h1' : 4 ≤ (va_up σ.2.2.2.1 a (16 + ci, 0) x).1 := h1
    have h2' : (va_up σ.2.2.2.1 a (16 + ci, 0) x).1 < 16 := h2
    have h3' : j < (va_up σ.2.2.2.1 a (16 + ci, 0) x).2 := h3
    by_cases e : x = a
    · subst e
      rw [hself] at h2'
      have : 16 + ci < 16 := h2'
      omega
    · rw [hne x e] at h1' h2' h3' ⊢
      exact hrt (cl_elb _) (p4.2 x j h1' h2' h3')
  · intro x cj hx hcj e9 he
    have hx' : (va_up σ.2.2.2.1 a (16 + ci, 0) x).1 = 16 + cj := hx
    have fin : ∀ y : Nat, σ.2.2.2.1 y = (e9.2.2.2.1, cl_ll x e9) → va_up σ.2.2.2.1 a (16 + ci, 0) y = (e9.2.2.2.1, cl_ll x e9) := by
      intro y hy
      have hb9 := cl_layb cj e9 he
      rw [hne y (fun q => by rw [q] at hy; rw [hy] at ha; have : e9.2.2.2.1 = 116 + ci := ha; omega)]
      exact hy
    by_cases e : x = a
    · subst e
      rw [hself] at hx'
      have hij : ci = cj := by have : 16 + ci = 16 + cj := hx'; omega
      subst hij
      obtain ⟨g1, g2⟩ := hq.1 e9 he
      exact ⟨g1, fin _ g2⟩
    · rw [hne x e] at hx'
      obtain ⟨g1, g2⟩ := hlay hb x cj hx' hcj e9 he
      exact ⟨g1, fin _ g2⟩
  · rw [hne x (by intro q; subst q; omega)]
    exact hup x hx
theorem cl_sealrow {β : Type} {P : Prop} (G : cl_G b D c0 R s T0 T σ H locs cells slots) {a ci : Nat} (hci : ci < 100) (ha : (T a).1 = 116 + ci) (hn0 : s.heap.size ≤ c0 + a) {x : cl_S → Option β} {y : β} (h : sealed σ a ci (vl (cl_seal σ a ci) x) = some y) (kk : ∀ (σ2 : cl_S) (T1 : Nat → Nat × Nat), (∀ q, (T q).1 ≠ 116 + ci → T1 q = T q) → T1 a = (16 + ci, 0) → cl_G b D c0 R s T0 T1 σ2 H locs cells slots → x σ2 = some y → P) : P := by
  obtain ⟨hq, h⟩ := sealed_some h
  exact kk _ _ (fun q h9 => by unfold va_up; rw [if_neg (fun e => h9 (by rw [e]; exact ha))]) (by unfold va_up; rw [if_pos rfl]) (cl_Gseal G hci ha hn0 hq) h
theorem cl_callIN {y : MethodName} {cy : ByteArray} {mL idx n fr lo a : Nat} {host : String} {rv : Option Value} {X : (Nat → Nat × Nat) → Prop} {σ1 : cl_S} (C : cl_C D p s m args meth c cc nL ret own) (G : cl_G b D c0 R s T0 T σ H locs cells slots) (hw : (Cond.instanceMethod y ∈ rf_tb ∧ Cond.code y cy mL none ∈ rf_tb ∧ Cond.initialized y.cls ∈ rf_tb) ∧ y.name = "<init>" ∧ (y.cls ≠ "java/lang/invoke/MethodHandle" ∧ y.cls ≠ "java/lang/invoke/VarHandle" ∧ (parseMethodDescriptor y.desc).map (fun d => d.parameters.length) = some n)) (hnest : va_Nw (.methodLinkNest own idx y host) s) (As : List Value) (st0 : List Value) (hM : cl_Met b l D c0 y cy mL none fr lo (.ref (c0 + a) :: As) σ rv X σ1) (hfr : fr + 1 ≤ R.frames) (hlo : 8 + (mL + 11) + lo ≤ R.locals) (hn : As.length = n) (hst : st0 = As.reverse ++ .ref (c0 + a) :: rest) (hls : ls.size = nL) (hW : (rest.map fun v => v.category).sum ≤ 8) (hdg : decode cc pc = .ok (.invokespecial idx, 3))
    (kk : ∀ (T1 : Nat → Nat × Nat) (H1 : Heap) (locs1 : List Loc) (cells1 slots1 : Nat), X T1 → cl_up T T1 → cl_G b D c0 R s T0 T1 σ1 H1 locs1 cells1 slots1 → W p l e R s m args below meth c H1 locs1 cells1 slots1 Q (F0 m (pc + 3) ls (rv.toList ++ rest))) : W p l e R s m args below meth c H locs cells slots Q (F0 m pc ls st0) := by
  subst hst
  obtain ⟨⟨w2, w4, w5⟩, hy1, d1, d2, d3⟩ := hw
  have hK := cl_bk (p := p) (e := e) (R := R) (below := below) C hM w4 w5 hfr hlo H.size
  intro TT hT X0
  obtain ⟨v, vm₁, ⟨U', l2, c2, s2⟩, hW₁, X', ⟨g', mk, t, L, e1, e2, hq, h1, hL, h2, h3⟩, st⟩ := va_callIN X0 C.1 (bytes := cy) (maxL := mL) C.2.2.2.1 hy1 (va_Nw.use rfl hnest) (C.2.2.2.2.1 _ w2) (C.2.2.2.2.1 _ w4) ⟨d1, d2⟩ hK (g := F0 m pc ls (As.reverse ++ .ref (c0 + a) :: rest)) rfl (hls.trans C.2.2.1.symm) (a := c0 + a) (argsL := As) (rest := rest) (fun sig h => by rw [h] at d3; exact hn.trans (Option.some.inj d3).symm) rfl (lv_room hW) (by rw [C.2.1]; exact hdg)
    (fun vm₁ hW₁ => ⟨by rw [G.2.2.2.2.2.1]; exact Nat.le_refl _, by rw [G.2.2.2.2.2.2]; exact Nat.le_refl _, rfl, by show TT.heap.size = _; rw [hT], by show cl_P D c0 σ TT.heap; rw [hT]; exact G.2.1, G.2.2.1, C.2.2.2.2.2.1.moved hW₁⟩)
  dsimp only [Pt.U, Pt.locs, Pt.cells, Pt.slots] at X' e1 e2 h1 h2 h3 st
  subst h1; subst h2; subst h3
  obtain ⟨rfl, hX, hu, hG⟩ := cl_aft (a9 := (Value.ref (c0 + a) :: As).toArray) G (H1 := U'.heap) hT e1 hq hL
  obtain ⟨t2, a1, b1⟩ := kk _ _ _ _ _ hX hu hG U' rfl X'
  exact ⟨t2, st t2 a1, b1⟩
/-- the one empty row that the class has at its start -/
theorem cl_nowords (C : cl_C D p s m args meth c cc nL ret own) (G : cl_G b D c0 R s T0 T σ H locs cells slots) {idx : Nat} (hl : Cond.fieldLink own idx "PartHouse$Term" "NO_WORDS" "[I" ∈ rf_tb) (hdg : decode cc pc = .ok (.getstatic idx, 3))
    (kk : W p l e R s m args below meth c H locs cells slots Q (F0 m (pc + 3) ls (.ref D.2.2.2.2.1 :: rest))) : W p l e R s m args below meth c H locs cells slots Q (F0 m pc ls rest) := by
  obtain ⟨cf, kf, fi, f, a, cell, h1, h2, h3, h4, h5, h6, h7, h8⟩ := C.2.2.2.2.2.1.2.2.2.2.2.2.2.1
  exact W.gets C.1 C.2.1 C.2.2.2.1 (C.2.2.2.2.1 _ hl) h1 h2 h3 h4 (by rw [G.2.1.2.2.2.2.2 a (Nat.lt_of_not_le h8)]; exact h5) (fun e => by rw [e] at h6; cases h6) h7 rfl hdg kk
/-- the size of a new array -/
def nag {α : Type} (n : Int32) (x : Option α) : Option α := if n < 0 ∨ 67108864 < n.toNatClampNeg then none else x
theorem nag_some {α : Type} {n : Int32} {x : Option α} {y : α} (h : nag n x = some y) : (¬ n < 0 ∧ n.toNatClampNeg ≤ 67108864) ∧ x = some y := by
  unfold nag at h
  by_cases q : n < 0 ∨ 67108864 < n.toNatClampNeg
  · rw [if_pos q] at h; cases h
  · rw [if_neg q] at h
    simp only [not_or, Nat.not_lt] at q
    exact ⟨q, h⟩
theorem cl_bytes {t N : Nat} (h : N ≤ 67108864) (h0 : 0 < t) (h4 : t < 4) : N * componentBytes (cl_T t) ≤ 536870912 := by
  have hc : componentBytes (cl_T t) ≤ 8 := by
    rcases (show t = 1 ∨ t = 2 ∨ t = 3 by omega) with rfl | rfl | rfl <;> decide
  exact Nat.le_trans (Nat.mul_le_mul h hc) (by decide)
theorem cl_nmA {β : Type} {n K : Nat} {f : Nat → β} {r : β} (h : vl n f = r) (hz : s.heap.size ≤ c0 + n) (ht : (T n).1 = K) (k : ∀ a : Nat, s.heap.size ≤ c0 + a → (T a).1 = K → f a = r → W p l e R s m args below meth c H locs cells slots Q (F0 m pc ls (.ref (c0 + a) :: rest))) : W p l e R s m args below meth c H locs cells slots Q (F0 m pc ls (.ref (c0 + n) :: rest)) := k n hz ht h
theorem cl_nmB {β : Type} {n K N : Nat} {f : Nat → β} {r : β} (h : vl n f = r) (ht : T n = (K, N)) (k : ∀ a : Nat, T a = (K, N) → f a = r → W p l e R s m args below meth c H locs cells slots Q (F0 m pc ls (.ref (c0 + a) :: rest))) : W p l e R s m args below meth c H locs cells slots Q (F0 m pc ls (.ref (c0 + n) :: rest)) := k n ht h
theorem cl_upS {T1 : Nat → Nat × Nat} {K a K2 : Nat} (hs : ∀ q, (T q).1 ≠ K → T1 q = T q) (h : (T a).1 = K2) (hK : K2 ≠ K) : (T1 a).1 = K2 := by rw [hs a (by rw [h]; exact hK)]; exact h
theorem cl_upSa {T1 : Nat → Nat × Nat} {K a K2 n : Nat} (hs : ∀ q, (T q).1 ≠ K → T1 q = T q) (h : T a = (K2, n)) (hK : K2 ≠ K) : T1 a = (K2, n) := by rw [hs a (by rw [h]; exact hK)]; exact h
theorem cl_upSo {T1 : Nat → Nat × Nat} {K K2 : Nat} {r : Option Nat} (hs : ∀ q, (T q).1 ≠ K → T1 q = T q) (h : cl_RT T r K2) (hK : K2 ≠ K) : cl_RT T1 r K2 := fun b hb => cl_upS hs (h b hb) hK
/-- the words of a TERM that is being made are the empty row -/
def gnw {α : Type} (σ : cl_S) (a : Nat) (x : Option α) : Option α := if σ.2.2.1 a 6 = none then x else none
theorem gnw_some {α : Type} {σ : cl_S} {a : Nat} {x : Option α} {y : α} (h : gnw σ a x = some y) : σ.2.2.1 a 6 = none ∧ x = some y := by
  unfold gnw at h
  by_cases q : σ.2.2.1 a 6 = none
  · rw [if_pos q] at h; exact ⟨q, h⟩
  · rw [if_neg q] at h; cases h
theorem cl_Vnw {a : Nat} {zw : Nat} (h : σ.2.2.1 a 6 = none) : ∀ j, j < 16 → updV (cl_V c0 zw true σ a 9) 6 (.ref zw) j = cl_V c0 zw true (cl_w σ a 6 1) a 9 j := by
  intro j hj
  by_cases e : j = 6
  · subst e
    show Value.ref zw = cl_wa c0 zw true (up2 σ.1 a 6 1 a 6) (σ.2.2.1 a 6)
    rw [h, up2_s]
    rfl
  · simp only [updV, e, if_false]
    unfold cl_V
    split <;> simp [cl_w, up2_k e]
/-- new int[m][k] -/
def cl_nwm (σ : cl_S) (m k : Nat) : cl_S := (fun b j => if σ.2.2.2.2.1 ≤ b then 0 else σ.1 b j, fun b j => if σ.2.2.2.2.1 ≤ b then 0 else σ.2.1 b j, fun b j => if σ.2.2.2.2.1 ≤ b then (if b = σ.2.2.2.2.1 ∧ j < m then some (σ.2.2.2.2.1 + 1 + j) else none) else σ.2.2.1 b j, fun b => if b = σ.2.2.2.2.1 then (6, m) else if σ.2.2.2.2.1 < b ∧ b < σ.2.2.2.2.1 + 1 + m then (1, k) else σ.2.2.2.1 b, σ.2.2.2.2.1 + 1 + m, σ.2.2.2.2.2.1 - (1 + m), σ.2.2.2.2.2.2 - (m + m * k))
def alm {α : Type} (σ : cl_S) (m k : Nat) (x : Option α) : Option α := if 1 + m ≤ σ.2.2.2.2.2.1 ∧ m + m * k ≤ σ.2.2.2.2.2.2 then x else none
theorem alm_some {α : Type} {σ : cl_S} {m k : Nat} {x : Option α} {y : α} (h : alm σ m k x = some y) : (1 + m ≤ σ.2.2.2.2.2.1 ∧ m + m * k ≤ σ.2.2.2.2.2.2) ∧ x = some y := by
  unfold alm at h
  by_cases q : 1 + m ≤ σ.2.2.2.2.2.1 ∧ m + m * k ≤ σ.2.2.2.2.2.2
  · rw [if_pos q] at h; exact ⟨q, h⟩
  · rw [if_neg q] at h; cases h
theorem cl_mna (C : cl_C D p s m args meth c cc nL ret own) (G : cl_G b D c0 R s T0 T σ H locs cells slots) {idx : Nat} (hcl : Cond.classLink own idx "[[I" ∈ rf_tb) (harr : Cond.arrayClass .int ∈ rf_tb) {n k : Int32} {N K : Nat} (hn : ¬ n < 0) (hk : ¬ k < 0) (hN : n.toNatClampNeg = N) (hK : k.toNatClampNeg = K) (hb1 : N ≤ 67108864) (hb2 : K ≤ 67108864) (hr : 1 + N ≤ σ.2.2.2.2.2.1 ∧ N + N * K ≤ σ.2.2.2.2.2.2) (hdg : decode cc pc = .ok (.multianewarray idx 2, 4))
    (kk : ∀ (T1 : Nat → Nat × Nat) (H1 : Heap) (cells1 slots1 : Nat), T1 σ.2.2.2.2.1 = (6, N) → cl_up T T1 → cl_G b D c0 R s T0 T1 (cl_nwm σ N K) H1 locs cells1 slots1 → W p l e R s m args below meth c H1 locs cells1 slots1 Q (F0 m (pc + 4) ls (.ref (c0 + σ.2.2.2.2.1) :: rest))) : W p l e R s m args below meth c H locs cells slots Q (F0 m pc ls (.int k :: .int n :: rest)) := by
  have hts := C.2.2.2.2.1
  have h1 : H.size = c0 + σ.2.2.2.2.1 := G.2.1.1
  subst hN
  subst hK
  have hR6 : s.vm.findClass ("[" ++ (FieldType.array .int).toString) = some (D.2.2.1 6) := (C.2.2.2.2.2.1.2.1 6 (by decide) (by decide)).2
  have hR1 : s.vm.findClass (FieldType.array .int).toString = some (D.2.2.1 1) := (C.2.2.2.2.2.1.2.1 1 (by decide) (by decide)).2
  have hao : cl_AOA s := C.2.2.2.2.2.1.2.2.2.2.2.2.1
  have hcl2 : (Cond.classLink own idx ("[" ++ (FieldType.array .int).toString)).before args s = true := by
    rw [show ("[" ++ (FieldType.array .int).toString) = "[[I" from by decide]
    exact hts _ hcl
  have hg1 := G.2.2.2.2.2.1
  have hg2 := G.2.2.2.2.2.2
  intro TT hT Xs
  obtain ⟨vm₁, cA, comp, -, fA, fC, hO, -, X', step⟩ := Xs.multianewarray2F C.1 C.2.2.2.1 hcl2 (show (Cond.arrayOver (.array .int)).before args s = true from hao) (hts _ harr) (g := F0 m pc ls (.int k :: .int n :: rest)) rfl (by rw [C.2.1]; exact hdg) rfl hn hk (by omega) (by have : componentBytes FieldType.int = 4 := rfl; rw [this]; omega) (by omega) rfl rfl (by omega) (by omega)
  have ecA : cA = D.2.2.1 6 := Option.some.inj (fA.symm.trans hR6)
  have eco : comp = D.2.2.1 1 := Option.some.inj (fC.symm.trans hR1)
  subst ecA
  subst eco
  generalize hF : Jvm.Free.Multi.fill (TT.setVm vm₁) (D.2.2.1 6) (D.2.2.1 1) n.toNatClampNeg k.toNatClampNeg (defaultValue .int) n.toNatClampNeg = F at X' step
  have hTh : (TT.setVm vm₁).heap = H := hT
  obtain ⟨f1, f2, -, -⟩ := Jvm.Free.Multi.fill_facts (TT.setVm vm₁) (D.2.2.1 6) (D.2.2.1 1) n.toNatClampNeg k.toNatClampNeg (defaultValue .int) n.toNatClampNeg
  rw [hF, hTh] at f1 f2
  have hold : ∀ x : Nat, x < H.size → F.heap[x]? = H[x]? := fun x hx => by
    have := Jvm.Free.Multi.fill_old (TT.setVm vm₁) (D.2.2.1 6) (D.2.2.1 1) n.toNatClampNeg k.toNatClampNeg (defaultValue .int) (a := x) (by rw [hTh]; exact hx) n.toNatClampNeg
    rw [hF, hTh] at this
    exact this
  have hrow : ∀ j : Nat, j < n.toNatClampNeg → F.heap[H.size + 1 + j]? = some (arrV (D.2.2.1 1) k.toNatClampNeg (fun _ => .int 0)) := fun j hj => by
    have := Jvm.Free.Multi.fill_inner (TT.setVm vm₁) (D.2.2.1 6) (D.2.2.1 1) n.toNatClampNeg k.toNatClampNeg (defaultValue .int) n.toNatClampNeg j hj
    rw [hF, hTh] at this
    rw [this]
    exact congrArg some (arrV_new _ _ _)
  have hout : Jvm.Free.Multi.outerC (D.2.2.1 6) n.toNatClampNeg H.size n.toNatClampNeg = arrV (D.2.2.1 6) n.toNatClampNeg (fun j => va_rf (if j < n.toNatClampNeg then some (H.size + 1 + j) else none)) := cl_outer (D.2.2.1 6) n.toNatClampNeg H.size n.toNatClampNeg
  rw [hout] at f2
  obtain ⟨gT, ⟨p1, p2, p3, p4, p5⟩, glay, gS, gup, gc1, gc2⟩ := G
  subst gT
  generalize hNN : n.toNatClampNeg = N at *
  generalize hKK : k.toNatClampNeg = K at *
  generalize hT1 : (cl_nwm σ N K).2.2.2.1 = T1
  have hne : ∀ a, (a < σ.2.2.2.2.1 ∨ σ.2.2.2.2.1 + 1 + N ≤ a) → T1 a = σ.2.2.2.1 a := fun a ha => by
    rw [← hT1]
    show (if a = σ.2.2.2.2.1 then (6, N) else if σ.2.2.2.2.1 < a ∧ a < σ.2.2.2.2.1 + 1 + N then (1, K) else σ.2.2.2.1 a) = _
    rw [if_neg (by omega), if_neg (by omega)]
  have hou : T1 σ.2.2.2.2.1 = (6, N) := by
    rw [← hT1]
    show (if σ.2.2.2.2.1 = σ.2.2.2.2.1 then (6, N) else _) = _
    rw [if_pos rfl]
  have hinn : ∀ a, σ.2.2.2.2.1 < a → a < σ.2.2.2.2.1 + 1 + N → T1 a = (1, K) := fun a g1 g2 => by
    rw [← hT1]
    show (if a = σ.2.2.2.2.1 then (6, N) else if σ.2.2.2.2.1 < a ∧ a < σ.2.2.2.2.1 + 1 + N then (1, K) else σ.2.2.2.1 a) = _
    rw [if_neg (by omega), if_pos ⟨g1, g2⟩]
  have hu : cl_up σ.2.2.2.1 T1 := fun a ha => hne a (Or.inl (Nat.lt_of_not_le (fun q => ha (p2 a q))))
  have hG : cl_G b D c0 R s T0 T1 (cl_nwm σ N K) F.heap locs (cells + 1 + N) (slots + N + N * K) := by
    refine ⟨hT1, ⟨?_, fun a ha => ?_, fun a => ?_, ⟨fun a k9 q1 q2 => ?_, fun a j q1 q2 q3 => ?_⟩, p5.1, fun q hq => ?_⟩, fun hb => ?_, ⟨by rw [f1]; have := gS.1; omega, fun x q1 q2 => (hold x (Nat.lt_of_lt_of_le q1 gS.1)).trans (gS.2.1 x q1 q2), gS.2.2⟩, fun a ha => ?_, ?_, ?_⟩
    · show F.heap.size = c0 + (σ.2.2.2.2.1 + 1 + N)
      rw [f1]
      omega
    · rw [hT1]
      have ha' : σ.2.2.2.2.1 + 1 + N ≤ a := ha
      rw [hne a (Or.inr ha')]
      exact p2 a (by omega)
    · rw [hT1]
      rcases Nat.lt_or_ge a σ.2.2.2.2.1 with ql | qg
      · rw [hne a (Or.inl ql)]
        have h := p3 a
        unfold cl_at at h ⊢
        by_cases t0 : (σ.2.2.2.1 a).1 = 0
        · rw [if_pos t0]; trivial
        · rw [if_neg t0] at h ⊢
          have e1 : ∀ j, (cl_nwm σ N K).1 a j = σ.1 a j := fun j => if_neg (by omega)
          have e2 : ∀ j, (cl_nwm σ N K).2.1 a j = σ.2.1 a j := fun j => if_neg (by omega)
          have e3 : ∀ j, (cl_nwm σ N K).2.2.1 a j = σ.2.2.1 a j := fun j => if_neg (by omega)
          by_cases t1 : (σ.2.2.2.1 a).1 < 16
          · rw [if_pos t1] at h ⊢
            rw [hold _ (by omega), h]
            unfold cl_arr
            simp only [e1, e2, e3]
          · rw [if_neg t1] at h ⊢
            refine (h.kept (hold _ (by omega))).to (fun k _ => ?_)
            unfold cl_V
            simp only [e1, e2, e3]
      · by_cases qe : a = σ.2.2.2.2.1
        · subst qe
          rw [hou]
          show F.heap[c0 + σ.2.2.2.2.1]? = some (arrV (D.2.2.1 6) N (fun j => cl_rf c0 ((cl_nwm σ N K).2.2.1 σ.2.2.2.2.1 j)))
          rw [← h1, f2]
          congr 2
          funext j
          show va_rf (if j < N then some (H.size + 1 + j) else none) = va_rf ((if σ.2.2.2.2.1 ≤ σ.2.2.2.2.1 then (if σ.2.2.2.2.1 = σ.2.2.2.2.1 ∧ j < N then some (σ.2.2.2.2.1 + 1 + j) else none) else σ.2.2.1 σ.2.2.2.2.1 j).map (fun a => c0 + a))
          rw [if_pos (Nat.le_refl _)]
          by_cases hj : j < N
          · rw [if_pos hj, if_pos ⟨rfl, hj⟩, h1]
            simp [Nat.add_assoc]
          · rw [if_neg hj, if_neg (fun q => hj q.2)]
            rfl
        · rcases Nat.lt_or_ge a (σ.2.2.2.2.1 + 1 + N) with qi | qo
          · rw [hinn a (by omega) qi]
            show F.heap[c0 + a]? = some (arrV (D.2.2.1 1) K (fun j => .int ((cl_nwm σ N K).1 a j)))
            have e := hrow (a - (σ.2.2.2.2.1 + 1)) (by omega)
            rw [show H.size + 1 + (a - (σ.2.2.2.2.1 + 1)) = c0 + a by omega] at e
            rw [e]
            congr 2
            funext j
            show Value.int 0 = Value.int (if σ.2.2.2.2.1 ≤ a then 0 else σ.1 a j)
            rw [if_pos (by omega)]
          · rw [hne a (Or.inr qo)]
            unfold cl_at
            rw [if_pos (p2 a (by omega))]
            trivial
    · rw [hT1] at q1 q2 ⊢
      rcases Nat.lt_or_ge a σ.2.2.2.2.1 with ql | qg
      · rw [hne a (Or.inl ql)] at q1 q2 ⊢
        rw [show (cl_nwm σ N K).2.2.1 a k9 = σ.2.2.1 a k9 from if_neg (by omega)]
        exact (p4.1 a k9 q1 q2).up hu (cl_tk0 q2)
      · exfalso
        rcases Nat.lt_or_ge a (σ.2.2.2.2.1 + 1 + N) with qi | qo
        · by_cases qe : a = σ.2.2.2.2.1
          · rw [qe, hou] at q1
            exact absurd (show (16:Nat) ≤ 6 from q1) (by decide)
          · rw [hinn a (by omega) qi] at q1
            exact absurd (show (16:Nat) ≤ 1 from q1) (by decide)
        · rw [hne a (Or.inr qo), p2 a (by omega)] at q1
          omega
    · rw [hT1] at q1 q2 q3 ⊢
      rcases Nat.lt_or_ge a σ.2.2.2.2.1 with ql | qg
      · rw [hne a (Or.inl ql)] at q1 q2 q3 ⊢
        rw [show (cl_nwm σ N K).2.2.1 a j = σ.2.2.1 a j from if_neg (by omega)]
        exact (p4.2 a j q1 q2 q3).up hu (cl_el0 _)
      · by_cases qe : a = σ.2.2.2.2.1
        · subst qe
          rw [hou] at q3 ⊢
          have q3' : j < N := q3
          intro x hx
          have hx' : (if σ.2.2.2.2.1 ≤ σ.2.2.2.2.1 then (if σ.2.2.2.2.1 = σ.2.2.2.2.1 ∧ j < N then some (σ.2.2.2.2.1 + 1 + j) else none) else σ.2.2.1 σ.2.2.2.2.1 j) = some x := hx
          rw [if_pos (Nat.le_refl _), if_pos ⟨rfl, q3'⟩] at hx'
          rw [← Option.some.inj hx', hinn _ (by omega) (by omega)]
          rfl
        · exfalso
          rcases Nat.lt_or_ge a (σ.2.2.2.2.1 + 1 + N) with qi | qo
          · rw [hinn a (by omega) qi] at q1
            exact absurd (show (4:Nat) ≤ 1 from q1) (by decide)
          · rw [hne a (Or.inr qo), p2 a (by omega)] at q1
            omega
    · rw [hold q (by have := p5.1; omega)]
      exact p5.2 q hq
    · intro x cj hx hcj e9 he
      rw [hT1] at hx ⊢
      rcases Nat.lt_or_ge x σ.2.2.2.2.1 with ql | qg
      · rw [hne x (Or.inl ql)] at hx
        obtain ⟨g1, g2⟩ := glay hb x cj hx hcj e9 he
        refine ⟨?_, ?_⟩
        · rw [show (cl_nwm σ N K).2.2.1 x e9.1 = σ.2.2.1 x e9.1 from if_neg (by omega)]
          exact g1
        · rw [hu _ (by rw [g2]; exact cl_layk cj e9 he)]
          exact g2
      · exfalso
        rcases Nat.lt_or_ge x (σ.2.2.2.2.1 + 1 + N) with qi | qo
        · by_cases qe : x = σ.2.2.2.2.1
          · rw [qe, hou] at hx
            have : 6 = 16 + cj := hx
            omega
          · rw [hinn x (by omega) qi] at hx
            have : 1 = 16 + cj := hx
            omega
        · rw [hne x (Or.inr qo), p2 x (by omega)] at hx
          omega
    · rw [hne a (Or.inl (by have := gS.1; omega))]
      exact gup a ha
    · show cells + 1 + N + (σ.2.2.2.2.2.1 - (1 + N)) = R.cells
      omega
    · show slots + N + N * K + (σ.2.2.2.2.2.2 - (N + N * K)) = R.slots
      omega
  obtain ⟨t, a1, b1⟩ := kk T1 F.heap _ _ hou hu hG F rfl X'
  refine ⟨t, step t ?_, b1⟩
  have e : TT.heap.size = c0 + σ.2.2.2.2.1 := by rw [hT]; exact h1
  rw [e]
  exact a1
/-- a new row: the first n words of the array w -/
def cl_mkR (σ : cl_S) (w n : Nat) : cl_S := (cl_row (cl_nw σ 1 n n).1 σ.2.2.2.2.1 (fun j => if j < n then σ.1 w j else 0), (cl_nw σ 1 n n).2)
theorem cl_Gmk {H1 : Heap} (G : cl_G b D c0 R s T0 T σ H locs cells slots) {w n : Nat} (hr : 1 ≤ σ.2.2.2.2.2.1 ∧ n ≤ σ.2.2.2.2.2.2) (e1 : H1[H.size]? = some (arrV (D.2.2.1 1) n (fun j => .int (σ.1 w j)))) (z : H1.size = H.size + 1) (oq : ∀ q : Nat, q < H.size → H1[q]? = H[q]?) : (va_up T σ.2.2.2.2.1 (1, n)) σ.2.2.2.2.1 = (1, n) ∧ cl_up T (va_up T σ.2.2.2.2.1 (1, n)) ∧ cl_G b D c0 R s T0 (va_up T σ.2.2.2.2.1 (1, n)) (cl_mkR σ w n) H1 locs (cells + 1) (slots + n) := by
  have h1 : H.size = c0 + σ.2.2.2.2.1 := G.2.1.1
  have hself : (va_up T σ.2.2.2.2.1 (1, n)) σ.2.2.2.2.1 = (1, n) := by unfold va_up; rw [if_pos rfl]
  obtain ⟨hu, G0⟩ := cl_Gnew (H1 := H.push (arrV (D.2.2.1 1) n (fun _ => .int 0))) G (t := 1) (ln := n) (N := n) (Or.inl (by decide)) hr (by
    show (H.push (arrV (D.2.2.1 1) n (fun _ => .int 0)))[c0 + σ.2.2.2.2.1]? = some (arrV (D.2.2.1 1) n (fun j => .int ((cl_nw σ 1 n n).1 σ.2.2.2.2.1 j)))
    rw [← h1, Array.getElem?_push_size]
    congr 2
    funext j
    show Value.int 0 = Value.int (cl_row σ.1 σ.2.2.2.2.1 (fun _ => 0) σ.2.2.2.2.1 j)
    rw [cl_row_eq]) (by rw [Array.size_push]) (fun q hq => by rw [Array.getElem?_push, if_neg (Nat.ne_of_lt hq)])
  have G1 := cl_Gset (k := 0) (H1 := H1) (σ' := cl_mkR σ w n) (a := σ.2.2.2.2.1) G0 (by rw [hself]; exact (by decide : (1:Nat) ≠ 0)) ⟨rfl, fun x hx => ⟨fun j => (by dsimp only [cl_mkR]; exact cl_row_ne hx j), fun _ => rfl, fun _ => rfl⟩⟩ (by rw [z, Array.size_push]) (fun q hq => by
    rcases Nat.lt_or_ge q H.size with ql | qg
    · rw [oq q ql, Array.getElem?_push, if_neg (Nat.ne_of_lt ql)]
    · have hq2 : H.size + 1 ≤ q := by omega
      rw [Array.getElem?_eq_none (by omega), Array.getElem?_eq_none (by rw [Array.size_push]; omega)]) (by
    rw [hself]
    show H1[c0 + σ.2.2.2.2.1]? = some (arrV (D.2.2.1 1) n (fun j => .int (cl_row (cl_nw σ 1 n n).1 σ.2.2.2.2.1 (fun j => if j < n then σ.1 w j else 0) σ.2.2.2.2.1 j)))
    rw [← h1, e1]
    refine congrArg some ?_
    unfold arrV
    congr 2
    funext j
    show Value.int _ = Value.int _
    rw [cl_row_eq, if_pos j.isLt]) (cl_wt_same rfl rfl G0.2.1.2.2.2.1) (fun hb => cl_lay_same rfl rfl (G0.2.2.1 hb))
  obtain ⟨q1, q2, q3, q4, q5, q6, q7⟩ := G1
  exact ⟨hself, hu, q1, q2, q3, ⟨q4.1, q4.2.1, fun x hx => q4.2.2 x (List.mem_append_left _ hx)⟩, q5, q6, q7⟩
theorem cl_clone (C : cl_C D p s m args meth c cc nL ret own) (G : cl_G b D c0 R s T0 T σ H locs cells slots) {w n idx : Nat} (hw : T w = (1, n)) (w1 : Cond.methodLink own idx ⟨"[I", "clone", "()Ljava/lang/Object;"⟩ ∈ rf_tb) (w2 : Cond.sameMethod "[I" "java/lang/Object" "clone" "()Ljava/lang/Object;" ∈ rf_tb) (w3 : Cond.native ⟨"java/lang/Object", "clone", "()Ljava/lang/Object;"⟩ ∈ rf_tb) (w4 : Cond.instanceMethod ⟨"java/lang/Object", "clone", "()Ljava/lang/Object;"⟩ ∈ rf_tb) (w5 : Cond.selects "[I" ⟨"[I", "clone", "()Ljava/lang/Object;"⟩ ⟨"java/lang/Object", "clone", "()Ljava/lang/Object;"⟩ ∈ rf_tb) (hls : ls.size = nL) (hr : 1 ≤ σ.2.2.2.2.2.1 ∧ n ≤ σ.2.2.2.2.2.2) (hframes : 1 ≤ R.frames) (hlocals : (rest.map fun v => v.category).sum + 14 ≤ R.locals) (hdg : decode cc pc = .ok (.invokevirtual idx, 3))
    (kk : ∀ (T1 : Nat → Nat × Nat) (H1 : Heap) (cells1 slots1 : Nat), T1 σ.2.2.2.2.1 = (1, n) → cl_up T T1 → cl_G b D c0 R s T0 T1 (cl_mkR σ w n) H1 locs cells1 slots1 → W p l e R s m args below meth c H1 locs cells1 slots1 Q (F0 m (pc + 3) ls (.ref (c0 + σ.2.2.2.2.1) :: rest))) : W p l e R s m args below meth c H locs cells slots Q (F0 m pc ls (.ref (c0 + w) :: rest)) := by
  have hts := C.2.2.2.2.1
  have h1 : H.size = c0 + σ.2.2.2.2.1 := G.2.1.1
  have hcell := cl_arrI G hw (by decide) (by decide) (by decide)
  have hAr := (C.2.2.2.2.2.1.2.1 1 (by decide) (by decide)).1
  have hnm : s.vm.findClass "[I" = some (D.2.2.1 1) := (C.2.2.2.2.2.1.2.1 1 (by decide) (by decide)).2
  have hg1 := G.2.2.2.2.2.1
  have hg2 := G.2.2.2.2.2.2
  obtain ⟨k0, t0', f1, f2, f3⟩ := Cond.castable_spec (va_Nw.use (A := args) rfl C.2.2.2.2.2.1.2.2.2.2.2.2.2.2.1)
  cases hnm.symm.trans f1
  intro TT hT X
  obtain ⟨-, kA, hkA, comp, hkind⟩ := State.isArrayOf_alike X.warmed.alike (hAr 0 (fun _ => .null))
  obtain ⟨-, kS, hkS, compS, hkindS⟩ := hAr 0 (fun _ => .null)
  obtain ⟨vm', X', st⟩ := X.cloneArray C.1 C.2.2.2.1 (hts _ w1) (hts _ w2) (hts _ w3) (hts _ w4) (hts _ w5) (a := c0 + w) (cell := arrV (D.2.2.1 1) n (fun j => .int (σ.1 w j))) (by rw [hT]; exact hcell) (fun k h => by cases h) (fun h => by cases h) hnm f2 f3
    (fun i v hv => by
      have hk' : TT.vm.classes[D.2.2.1 1]? = some kA := hkA
      have hin : i < n := by
        rcases Nat.lt_or_ge i n with q | q
        · exact q
        · rw [Array.getElem?_eq_none (by rw [arrV_size]; exact q)] at hv
          cases hv
      rw [arrV_read _ _ hin] at hv
      cases hv
      show State.fitsSlot _ (D.2.2.1 1) _ _ _ = true
      simp [State.fitsSlot, State.slotType?, hk', hkind, cl_T, fits])
    (g := F0 m pc ls (.ref (c0 + w) :: rest)) rfl (by rw [C.2.2.1]; exact hls) rfl (by rw [C.2.1]; exact hdg) hframes (by show 2 * 0 + _ + 14 ≤ _; omega) (by omega) (by rw [arrV_size]; omega) (hloader := Vm.clonesLoader_of_array hkS hkindS)
  rw [arrV_size] at X'
  have hcellE : ({ cls := (arrV (D.2.2.1 1) n (fun j => Value.int (σ.1 w j))).cls, slots := (arrV (D.2.2.1 1) n (fun j => Value.int (σ.1 w j))).slots } : Cell) = arrV (D.2.2.1 1) n (fun j => Value.int (σ.1 w j)) := rfl
  rw [hcellE] at X'
  generalize hH1 : H.push (arrV (D.2.2.1 1) n (fun j => Value.int (σ.1 w j))) = H1
  obtain ⟨g1, g2, g3⟩ := cl_Gmk (H1 := H1) G (w := w) hr (by rw [← hH1, Array.getElem?_push_size]) (by rw [← hH1, Array.size_push]) (fun q hq => by rw [← hH1, Array.getElem?_push, if_neg (Nat.ne_of_lt hq)])
  obtain ⟨t, b1, b2⟩ := kk _ H1 _ _ g1 g2 g3 ((TT.setVm vm').pushCell (arrV (D.2.2.1 1) n (fun j => Value.int (σ.1 w j)))) (by rw [← hH1, ← hT]; rfl) X'
  refine ⟨t, st t ?_, b2⟩
  rw [hcellE, hT, h1]
  exact b1
theorem cl_castI (C : cl_C D p s m args meth c cc nL ret own) (G : cl_G b D c0 R s T0 T σ H locs cells slots) {w n idx : Nat} (hw : T w = (1, n)) (w1 : Cond.classLink own idx "[I" ∈ rf_tb) (hdg : decode cc pc = .ok (.checkcast idx, 3))
    (kk : W p l e R s m args below meth c H locs cells slots Q (F0 m (pc + 3) ls (.ref (c0 + w) :: rest))) : W p l e R s m args below meth c H locs cells slots Q (F0 m pc ls (.ref (c0 + w) :: rest)) := by
  have hcell := cl_arrI G hw (by decide) (by decide) (by decide)
  have hnm : s.vm.findClass "[I" = some (D.2.2.1 1) := (C.2.2.2.2.2.1.2.1 1 (by decide) (by decide)).2
  intro TT hT X
  obtain ⟨vm', X', st⟩ := X.checkcastYes C.1 C.2.2.2.1 (C.2.2.2.2.1 _ w1) (by rw [hT]; exact hcell) rfl hnm (va_asg _ _) (g := F0 m pc ls (.ref (c0 + w) :: rest)) rfl rfl (by rw [C.2.1]; exact hdg)
  obtain ⟨t, a1, b1⟩ := kk (TT.setVm vm') hT X'
  exact ⟨t, st t a1, b1⟩
/-- a call of a method of String, on a constant text -/
theorem cl_callJ {y : MethodName} {cy : ByteArray} {mL idx n fr lo q qv : Nat} {bs : List Int32} {rt : Option FieldType} {rv : Option Value} (C : cl_C D p s m args meth c cc nL ret own) (G : cl_G b D c0 R s T0 T σ H locs cells slots) (hj : jk_S D.2.2.2.1 q qv bs s) (w1 : Cond.methodLink own idx y ∈ rf_tb) (w2 : Cond.instanceMethod y ∈ rf_tb) (w3 : Cond.code y cy mL rt ∈ rf_tb) (w4 : Cond.initialized y.cls ∈ rf_tb) (w5 : Cond.selects RJ0 y y ∈ rf_tb) (hd : y.cls ≠ "java/lang/invoke/MethodHandle" ∧ y.cls ≠ "java/lang/invoke/VarHandle" ∧ (parseMethodDescriptor y.desc).map (fun d => d.parameters.length) = some n) (As : List Value) (st0 : List Value) (hM : jk_Met l D.2.2.2.1 q qv bs y cy mL rt fr lo (.ref q :: As) rv) (hfr : fr + 1 ≤ R.frames) (hlo : 8 + (mL + 11) + lo ≤ R.locals) (hn : As.length = n) (hst : st0 = As.reverse ++ .ref q :: rest) (hls : ls.size = nL) (hW : (rest.map fun v => v.category).sum ≤ 8) (hdg : decode cc pc = .ok (.invokevirtual idx, 3))
    (kk : W p l e R s m args below meth c H locs cells slots Q (F0 m (pc + 3) ls (rv.toList ++ rest))) : W p l e R s m args below meth c H locs cells slots Q (F0 m pc ls st0) := by
  subst hst
  have hce := cl_le1 G
  have hsl := cl_le2 G
  obtain ⟨hx, hb, hml, hown, hts, hB, -, -⟩ := C
  have hpre : jk_pre D.2.2.2.1 H := ⟨by rw [G.2.1.1]; exact Nat.le_trans G.2.1.2.2.2.2.1 (Nat.le_add_right _ _), G.2.1.2.2.2.2.2⟩
  have hJ : jk_B D.2.2.2.1 q qv bs s := ⟨hB.2.2.2.2.2.2.2.2.2, hj⟩
  have hrec : ∃ cell : Cell, H[q]? = some cell ∧ cell.vm.isStatics = false ∧ s.vm.findClass RJ0 = some cell.cls := by
    obtain ⟨cell, h1, h2, h3, -⟩ := hj.2.1.kept (fun a ha _ => hpre.2 a ha)
    exact ⟨cell, h1, h2, h3⟩
  have hC : CallB R s args own idx y cy mL rt (Cond.code y cy mL rt :: rf_tb) ({ frames := fr, cells := 0, slots := 0, locals := lo }) 0 0 n := callB_of n hts (rf_gw w3) rfl rfl rfl (hts _ w4) (hts _ w1) hd ⟨hfr, hlo⟩
  have hrun := va_runV (p := p) (l := l) (e := e) (R := R) (below := below) (meth := meth) (locs := locs) (cells := cells) (slots := slots) (g := F0 m pc ls (As.reverse ++ .ref q :: rest)) ⟨hx, hb, hml, hown, hts⟩ hM ⟨hC, hts _ w2, hts _ w5⟩ (H := H) (b := q) (As := As) ⟨jk_blind, hrec, fun U hU hW => ⟨rfl, by rw [hU]; exact hpre, hJ.moved hW.alike⟩⟩ rfl hn hls rfl (lv_room hW) hdg ⟨by omega, by omega⟩
  intro T hT X
  obtain ⟨v, st₀, t, T', L, g0, X', hL, e1, e2, ⟨hv, hP⟩, st⟩ := hrun T hT X
  cases hv
  cases jk_nil hL
  rw [List.append_nil] at X'
  obtain ⟨t2, a1, b1⟩ := kk T' (by rw [e1, hP, g0]) X'
  exact ⟨t2, st t2 a1, b1⟩
end CRW
