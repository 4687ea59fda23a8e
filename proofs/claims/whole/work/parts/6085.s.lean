section Z2_S
variable {K : Bd} {W : Wd} {k : Nat} {σ σ' σ0 : cl_S} {ρ ρ' ρ0 : rf_S} {l : List Nat}
/-! LAYER 2: SHOW. Each side writes octets one after another; at the end the two lists are the same. -/
def ShC (σ0 σ : cl_S) (l : List Nat) : Prop := (σ.1 6 15 = nI l.length) ∧ (l.length ≤ 40) ∧ (∀ j, j < l.length → σ.1 14 j = nI (l.getD j 0)) ∧ (∀ d j, d ≠ 14 → ¬ (d = 6 ∧ j = 15) → σ.1 d j = σ0.1 d j) ∧ (σ.2 = σ0.2)
theorem ShC.n {σ0 σ : cl_S} {l : List Nat} (hS : ShC σ0 σ l) : σ.1 6 15 = nI l.length := hS.1
theorem ShC.le {σ0 σ : cl_S} {l : List Nat} (hS : ShC σ0 σ l) : l.length ≤ 40 := hS.2.1
theorem ShC.tx {σ0 σ : cl_S} {l : List Nat} (hS : ShC σ0 σ l) : ∀ j, j < l.length → σ.1 14 j = nI (l.getD j 0) := hS.2.2.1
theorem ShC.I {σ0 σ : cl_S} {l : List Nat} (hS : ShC σ0 σ l) : ∀ d j, d ≠ 14 → ¬ (d = 6 ∧ j = 15) → σ.1 d j = σ0.1 d j := hS.2.2.2.1
theorem ShC.c2 {σ0 σ : cl_S} {l : List Nat} (hS : ShC σ0 σ l) : σ.2 = σ0.2 := hS.2.2.2.2
def ShQ (ρ0 ρ : rf_S) (l : List Nat) : Prop := (ρ.1 0 43 = nI l.length) ∧ (l.length ≤ 64) ∧ (∀ j, j < l.length → ρ.1 25 j = nI (l.getD j 0)) ∧ (∀ c, c ≠ 0 → c ≠ 25 → ρ.1 c = ρ0.1 c) ∧ (∀ j, j ≠ 43 → ρ.1 0 j = ρ0.1 0 j) ∧ (ρ.2 = ρ0.2)
theorem ShQ.n {ρ0 ρ : rf_S} {l : List Nat} (hS : ShQ ρ0 ρ l) : ρ.1 0 43 = nI l.length := hS.1
theorem ShQ.le {ρ0 ρ : rf_S} {l : List Nat} (hS : ShQ ρ0 ρ l) : l.length ≤ 64 := hS.2.1
theorem ShQ.tx {ρ0 ρ : rf_S} {l : List Nat} (hS : ShQ ρ0 ρ l) : ∀ j, j < l.length → ρ.1 25 j = nI (l.getD j 0) := hS.2.2.1
theorem ShQ.q {ρ0 ρ : rf_S} {l : List Nat} (hS : ShQ ρ0 ρ l) : ∀ c, c ≠ 0 → c ≠ 25 → ρ.1 c = ρ0.1 c := hS.2.2.2.1
theorem ShQ.f {ρ0 ρ : rf_S} {l : List Nat} (hS : ShQ ρ0 ρ l) : ∀ j, j ≠ 43 → ρ.1 0 j = ρ0.1 0 j := hS.2.2.2.2.1
theorem ShQ.l2 {ρ0 ρ : rf_S} {l : List Nat} (hS : ShQ ρ0 ρ l) : ρ.2 = ρ0.2 := hS.2.2.2.2.2
theorem getD_app {c j : Nat} (hj : j < (l ++ [c]).length) : (l ++ [c]).getD j 0 = if j = l.length then c else l.getD j 0 := by
  rw [List.length_append, List.length_singleton] at hj
  by_cases w : j = l.length
  · rw [if_pos w, w]
    simp [List.getD_eq_getElem?_getD]
  · rw [if_neg w, List.getD_eq_getElem?_getD, List.getD_eq_getElem?_getD, List.getElem?_append_left (by omega)]
set_option maxRecDepth 20000 in
theorem i8_id : ∀ c, c < 128 → ((nI c).toInt8.toInt32).toInt8.toInt32 = nI c := by decide
theorem ShC.put (S : ShC σ0 σ l) (hn : l.length < 40) {c : Nat} (hc : c < 128) : ∃ σ', fc_X0_showOctet 6 (nI c) σ = some σ' ∧ ShC σ0 σ' (l ++ [c]) := by
  have el : (l ++ [c]).length = l.length + 1 := by rw [List.length_append, List.length_singleton]
  refine ⟨cl_w (cl_w σ 14 l.length (nI c)) 6 15 (nI (l.length + 1)), ?_, ⟨by rw [r_ws, el], by rw [el]; omega, fun j hj => ?_, fun d j h1 h2 => by rw [g_w, if_neg h2, r_w h1]; exact S.I d j h1 h2, S.c2⟩⟩
  · unfold fc_X0_showOctet bc_X0_showOctet_0
    simp only [Nat.reduceAdd]
    rw [S.n, if_neg (fun q => by have := (n_le (by omega) (by omega)).mp q; omega), n_ix hn (by omega), n_cl (show l.length < 2147483648 by omega), char_id (show c < 65536 by omega), vln, r_w (by decide), S.n, vln, show nI l.length + (1:Int32) = nI (l.length + 1) from n_add _ 1]
  · rw [r_w (by decide), g_w, getD_app hj]
    by_cases w : j = l.length
    · rw [if_pos ⟨rfl, w⟩, if_pos w]
    · rw [if_neg (fun q => w q.2), if_neg w]; exact S.tx j (by rw [el] at hj; omega)
theorem ShQ.put (S : ShQ ρ0 ρ l) (hn : l.length < 64) {c : Nat} (hc : c < 128) : ∃ ρ', fq_put8 (nI c) ρ = some ρ' ∧ ShQ ρ0 ρ' (l ++ [c]) := by
  have el : (l ++ [c]).length = l.length + 1 := by rw [List.length_append, List.length_singleton]
  refine ⟨rf_w (rf_w ρ 25 l.length (nI c)) 0 43 (nI (l.length + 1)), ?_, ⟨by rw [q_ws, el], by rw [el]; omega, fun j hj => ?_, fun d h1 h2 => by rw [q_w h1, q_w h2]; exact S.q d h1 h2, fun j hj => by rw [q_wk hj, q_w (by decide)]; exact S.f j hj, S.l2⟩⟩
  · unfold fq_put8 bq_put8_0
    rw [S.n, n_ix hn (by omega), n_cl (show l.length < 2147483648 by omega), i8_id c hc, vln, q_w (by decide), S.n, vln, show nI l.length + (1:Int32) = nI (l.length + 1) from n_add _ 1]
  · rw [q_w (by decide), g_q, getD_app hj]
    by_cases w : j = l.length
    · rw [if_pos ⟨rfl, w⟩, if_pos w]
    · rw [if_neg (fun q => w q.2), if_neg w]; exact S.tx j (by rw [el] at hj; omega)
theorem ShC.start : ShC σ (cl_w σ 6 15 (0:Int32)) [] := ⟨r_ws, by simp, fun j hj => absurd hj (by simp), fun d j _ h2 => by rw [g_w, if_neg h2], rfl⟩
theorem ShQ.start : ShQ ρ (rf_w ρ 0 43 (0:Int32)) [] := ⟨q_ws, by simp, fun j hj => absurd hj (by simp), fun c h1 _ => q_w h1, fun j hj => q_wk hj, rfl⟩
/-- a text of the class -/
theorem ShC.txt : ∀ (t : List Nat) (σ : cl_S) (l : List Nat), ShC σ0 σ l → (∀ c, c ∈ t → c < 128) → l.length + t.length ≤ 40 → ∃ σ', sh_T 6 (t.map nI) σ = some σ' ∧ ShC σ0 σ' (l ++ t) := by
  intro t
  induction t with
  | nil =>
    intro σ l S _ _
    exact ⟨σ, rfl, by rw [List.append_nil]; exact S⟩
  | cons c t ih =>
    intro σ l S hc hl
    rw [List.length_cons] at hl
    obtain ⟨σ1, e1, S1⟩ := S.put (by omega) (hc c List.mem_cons_self)
    obtain ⟨σ2, e2, S2⟩ := ih σ1 (l ++ [c]) S1 (fun d hd => hc d (List.mem_cons_of_mem _ hd)) (by rw [List.length_append, List.length_singleton]; omega)
    refine ⟨σ2, ?_, by rw [List.append_assoc] at S2; exact S2⟩
    rw [List.map_cons]
    unfold sh_T
    rw [e1, bd1n]; exact e2
/-- the two sides have shown the same -/
theorem RC.shown (h : RC k σ ρ) (hk : k < 64) (C : ShC σ σ' l) (Q : ShQ ρ ρ' l) (hc : ∀ c, c ∈ l → c < 128) : RC (k + 1) σ' ρ' := by
  obtain ⟨W, R⟩ := id h
  have cA : ∀ d, d ≠ 14 → d ≠ 6 → σ'.1 d = σ.1 d := fun d h1 h2 => funext fun j => C.I d j h1 (fun q => h2 q.1)
  refine h.tx hk (fun a ha => cA a (by omega) (by omega)) (by rw [cA 0 (by decide) (by decide)]) (by rw [C.c2]) (by rw [C.c2]) (by rw [C.c2]) (fun c h1 h2 h3 => Q.q c h1 (by omega)) (fun j _ _ _ _ h4 => Q.f j h4) (by rw [Q.l2]) ?_
  have O := R.oA
  refine ⟨?_, ?_, ?_, ?_, ?_⟩
  · rw [cA 1 (by decide) (by decide), cA 2 (by decide) (by decide), Q.q 16 (by decide) (by decide), Q.f 26 (by decide)]; exact O.tx
  · rw [cA 0 (by decide) (by decide), cA 18 (by decide) (by decide), Q.q 17 (by decide) (by decide), Q.f 28 (by decide)]; exact O.rw
  · intro i hi; rw [cA 30 (by decide) (by decide), cA (20 + i) (by omega) (by omega), Q.q 26 (by decide) (by decide), Q.q 27 (by decide) (by decide)]; exact O.kp i hi
  · refine ⟨l.length, ⟨C.le, C.n, Q.n⟩, fun j hj => ?_⟩
    rw [C.tx j hj, Q.tx j hj]
    have hm : l.getD j 0 < 128 := by
      rw [List.getD_eq_getElem?_getD, List.getElem?_eq_getElem hj]
      exact hc _ (List.getElem_mem hj)
    have : nI (l.getD j 0) &&& (255:Int32) = nI (l.getD j 0 % 256) := n_and (q := l.getD j 0) (k := 8) (by omega) (by omega)
    rw [this, Nat.mod_eq_of_lt (by omega)]
  · rw [C.I 6 13 (by decide) (by decide), Q.f 41 (by decide)]; exact O.pl
end Z2_S
