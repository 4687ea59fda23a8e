section Z2_S9
variable {k : Nat} {σ σ' σ0 : cl_S} {ρ ρ' ρ0 : rf_S} {l : List Nat} {o : Nat}
/-- the figures of a number -/
def Fig (x : Int32) (t : List Nat) : Prop := (t.length ≤ 11 ∧ ∀ m, m < 100 → x = nI m → t.length ≤ 2) ∧ (∀ c, c ∈ t → c < 128) ∧ (∀ (σ0 σ : cl_S) (l : List Nat), ShC σ0 σ l → l.length + 11 ≤ 40 → ∃ σ', fc_X0_showNumber 6 x σ = some σ' ∧ ShC σ0 σ' (l ++ t)) ∧ (∀ (ρ0 ρ : rf_S) (l : List Nat), ShQ ρ0 ρ l → l.length + 11 ≤ 64 → ∃ ρ', fq_putFigures x.toInt64 ρ = some ρ' ∧ ShQ ρ0 ρ' (l ++ t))
theorem ShC.text (t : List Nat) (ht : t = [32] ∨ t = [32, 114] ∨ t = [44, 32, 114] ∨ t = [44, 32]) (hl : l.length + 3 ≤ 40) (S : ShC σ0 σ l) : ∃ σ', fc_X0_showText 6 (t.map nI) σ = some σ' ∧ ShC σ0 σ' (l ++ t) := by
  have hm : t.map nI ∈ cl_strs.map (fun q => q.2.2) := by
    have e : cl_strs.map (fun q => q.2.2) = [nm_tab, [32], [32, 114], [44, 32, 114], [44, 32]] := rfl
    rw [e]
    rcases ht with rfl | rfl | rfl | rfl
    · exact List.mem_cons_of_mem _ List.mem_cons_self
    · exact List.mem_cons_of_mem _ (List.mem_cons_of_mem _ List.mem_cons_self)
    · exact List.mem_cons_of_mem _ (List.mem_cons_of_mem _ (List.mem_cons_of_mem _ List.mem_cons_self))
    · exact List.mem_cons_of_mem _ (List.mem_cons_of_mem _ (List.mem_cons_of_mem _ (List.mem_cons_of_mem _ List.mem_cons_self)))
  obtain ⟨σ', e, S'⟩ := ShC.txt t σ l S (by rcases ht with rfl | rfl | rfl | rfl <;> intro c hc <;> simp at hc <;> omega) (by rcases ht with rfl | rfl | rfl | rfl <;> simp <;> omega)
  exact ⟨σ', by unfold fc_X0_showText; rw [if_pos hm]; exact e, S'⟩
theorem fig_ex (x : Int32) : ∃ t, Fig x t := num_both x
theorem ShC.reg {x : Int32} {f : List Nat} (F : Fig x f) (t : List Nat) (ht : t = [32, 114] ∨ t = [44, 32, 114]) (hl : l.length + 14 ≤ 40) (S : ShC σ0 σ l) : ∃ σ', fc_X0_showRegister 6 (t.map nI) x σ = some σ' ∧ ShC σ0 σ' (l ++ t ++ f) := by
  obtain ⟨σ1, e1, S1⟩ := S.text t (by rcases ht with h | h <;> simp [h]) (by omega)
  have tl : t.length ≤ 3 := by rcases ht with rfl | rfl <;> simp
  obtain ⟨σ2, e2, S2⟩ := F.2.2.1 σ0 σ1 _ S1 (by rw [List.length_append]; omega)
  exact ⟨σ2, by unfold fc_X0_showRegister bc_X0_showRegister_0; rw [e1, bd1n, e2, bd1n], S2⟩
theorem ShQ.reg0 {x : Int32} {f : List Nat} (F : Fig x f) (hl : l.length + 12 ≤ 64) (S : ShQ ρ0 ρ l) : ∃ ρ', fq_putRegister x (0:Int32) ρ = some ρ' ∧ ShQ ρ0 ρ' (l ++ [114] ++ f) := by
  obtain ⟨ρ1, e1, S1⟩ := S.put (c := 114) (by omega) (by omega)
  obtain ⟨ρ2, e2, S2⟩ := F.2.2.2 ρ0 ρ1 _ S1 (by rw [List.length_append, List.length_singleton]; omega)
  exact ⟨ρ2, by unfold fq_putRegister bq_putRegister_0; rw [show (114:Int32) = nI 114 from rfl, e1, bd1n, e2, bd1n, if_pos rfl], S2⟩
theorem ShQ.reg1 {x : Int32} {f : List Nat} (F : Fig x f) (hl : l.length + 14 ≤ 64) (S : ShQ ρ0 ρ l) : ∃ ρ', fq_putRegister x (1:Int32) ρ = some ρ' ∧ ShQ ρ0 ρ' (l ++ [114] ++ f ++ [44] ++ [32]) := by
  have F1 := F.1.1
  obtain ⟨ρ1, e1, S1⟩ := S.put (c := 114) (by omega) (by omega)
  obtain ⟨ρ2, e2, S2⟩ := F.2.2.2 ρ0 ρ1 _ S1 (by rw [List.length_append, List.length_singleton]; omega)
  obtain ⟨ρ3, e3, S3⟩ := S2.put (c := 44) (by simp only [List.length_append, List.length_singleton]; omega) (by omega)
  obtain ⟨ρ4, e4, S4⟩ := S3.put (c := 32) (by simp only [List.length_append, List.length_singleton]; omega) (by omega)
  exact ⟨ρ4, by unfold fq_putRegister bq_putRegister_0; rw [show (114:Int32) = nI 114 from rfl, e1, bd1n, e2, bd1n, if_neg (by decide), show (44:Int32) = nI 44 from rfl, e3, bd1n, show (32:Int32) = nI 32 from rfl, e4, bd1n], S4⟩
/-- the register's number in a word -/
theorem fig_reg (x : Int32) : ∃ t, Fig (x &&& (15:Int32)) t ∧ t.length ≤ 2 := by
  obtain ⟨t, F⟩ := fig_ex (x &&& (15:Int32))
  obtain ⟨q, hq, e⟩ := n_and15 x
  exact ⟨t, F, F.1.2 q (by omega) e⟩
theorem nm_128 (ho : 0 < o) (h : o < 42) : ∀ c, c ∈ opN o → c < 128 := by
  intro c hc
  obtain ⟨j, hj, rfl⟩ := List.mem_iff_getElem.mp hc
  have := (nm_ok o h ho j hj).2.2.1
  rw [List.getD_eq_getElem?_getD, List.getElem?_eq_getElem hj] at this
  exact this
/-- show -/
theorem call_show (h : RC k σ ρ) (hk : k < 64) (x : Int32) : CO k (fc_X11_show 0 x σ) (fq_show x ρ) := by
  obtain ⟨W, R⟩ := id h
  have NM := R.nm
  have fin : ∀ {l : List Nat} {σ' : cl_S} {ρ' : rf_S}, ShC σ σ' l → ShQ ρ ρ' l → (∀ c, c ∈ l → c < 128) → fc_X0_describe 6 x σ = some (σ'.1 6 15, σ') → fq_show x ρ = some (ρ'.1 0 43, ρ') → CO k (fc_X11_show 0 x σ) (fq_show x ρ) := by
    intro l σ' ρ' C Q hc e1 e2
    refine ⟨nI l.length, σ', ρ', ?_, by rw [e2, Q.n], h.shown hk C Q hc⟩
    unfold fc_X11_show bc_X11_show_0
    rw [e1, bd2n, C.n]
  obtain ⟨o, ho, ex⟩ := n_usr x 26 (by omega) (by omega)
  have ho : o < 64 := ho
  rw [show (nI 26) = (26:Int32) from rfl] at ex
  obtain ⟨r, m1, m2, m3⟩ := made ho x ex
  obtain ⟨fx, Fx⟩ := fig_ex x
  have C0 : ShC σ (cl_w σ 6 15 (0:Int32)) [] := ShC.start
  have Q0 : ShQ ρ (rf_w ρ 0 43 (0:Int32)) [] := ShQ.start
  have qn : ∀ p, 0 < p → p < 42 → ∃ ρ' y, (bq_show_21 x (nI p) (rf_w ρ 0 43 (0:Int32)) = eq_show_29 x (nI p) y ρ') ∧ ShQ ρ ρ' (opN p) := by
    intro p h1 h2
    obtain ⟨-, -, a3, a4⟩ := NM p h1 h2
    obtain ⟨ρ1, y, e1, S1⟩ := Q0.name (x1 := x) h1 h2 (by simp) a4
    refine ⟨ρ1, y, ?_, S1⟩
    unfold bq_show_21
    rw [n_ix h2 (by omega), n_cl (by omega), vln, Q0.q 14 (by decide) (by decide), a3]
    unfold bq_show_29
    rw [e1, Option.bind_some]
  by_cases c0 : r = 0
  · obtain ⟨σ1, d1, C1⟩ := C0.name (op := 40) (by omega) (by omega) (by simp)
    obtain ⟨ρ1, y, f1, Q1⟩ := qn 40 (by omega) (by omega)
    have l40 : (opN 40).length ≤ 6 := (nm_len 40 (by omega) (by omega)).1
    rw [List.nil_append] at C1
    obtain ⟨σ2, d2, C2⟩ := C1.text [32] (Or.inl rfl) (by omega)
    obtain ⟨ρ2, f2, Q2⟩ := Q1.put (c := 32) (by omega) (by omega)
    obtain ⟨σ3, d3, C3⟩ := Fx.2.2.1 _ _ _ C2 (by simp only [List.length_append, List.length_singleton]; omega)
    obtain ⟨ρ3, f3, Q3⟩ := Fx.2.2.2 _ _ _ Q2 (by simp only [List.length_append, List.length_singleton]; omega)
    refine fin C3 Q3 ?_ ?_ ?_
    · intro c hc
      simp only [List.mem_append, List.mem_singleton] at hc
      rcases hc with (hc | hc) | hc
      · exact nm_128 (by omega) (by omega) c hc
      · omega
      · exact Fx.2.1 c hc
    · unfold fc_X0_describe bc_X0_describe_0
      rw [vln, vln, ex, m1, bd2n, if_pos c0, show (40:Int32) = nI 40 from rfl, d1, bd1n, show fc_X0_showText 6 [32] σ1 = _ from d2, bd1n, d3, bd1n]
    · unfold fq_show bq_show_0
      rw [vln, m2, bd2n, if_pos c0, show (40:Int32) = nI 40 from rfl, f1]
      unfold eq_show_29
      rw [if_neg (show ¬ nI 40 = (39:Int32) by decide), show (32:Int32) = nI 32 from rfl, f2, bd1n, if_pos (show nI 40 = (40:Int32) from rfl), f3, bd1n]
  obtain ⟨o1, o39⟩ := m3 c0
  obtain ⟨σ1, d1, C1⟩ := C0.name (op := o) (by omega) (by omega) (by simp)
  obtain ⟨ρ1, y, f1, Q1⟩ := qn o (by omega) (by omega)
  have lo : (opN o).length ≤ 6 := (nm_len o (by omega) (by omega)).1
  have no : ∀ c, c ∈ opN o → c < 128 := nm_128 (by omega) (by omega)
  rw [List.nil_append] at C1
  have A1 : ∀ {z : Option (Int32 × cl_S)}, (if 1 ≤ o ∧ o ≤ 37 then bd1 (fc_X0_showRegister 6 ([32, 114]) (((x.toUInt32 >>> ((22:Int32).toUInt32 &&& Int32.toUInt32 31)).toInt32) &&& (15:Int32)) σ1) (fun σ_75 => bc_X0_describe_65 6 x (nI o) σ_75) else bc_X0_describe_65 6 x (nI o) σ1) = z → fc_X0_describe 6 x σ = z := by
    intro z hz
    unfold fc_X0_describe bc_X0_describe_0
    rw [vln, vln, ex, m1, bd2n, if_neg c0, d1, bd1n, has_D ho, bd2n, ← hz]
    by_cases c : 1 ≤ o ∧ o ≤ 37
    · rw [if_pos c, if_neg (by decide), if_pos c]
    · rw [if_neg c, if_pos rfl, if_neg c]
  have B1 : ∀ {z : Option (Int32 × rf_S)}, eq_show_29 x (nI o) y ρ1 = z → fq_show x ρ = z := by
    intro z hz
    unfold fq_show bq_show_0
    rw [vln, m2, bd2n, if_neg c0, ex, f1, hz]
  have D65 : ∀ σ, bc_X0_describe_65 6 x (nI o) σ = (if 1 ≤ o ∧ o ≤ 37 ∧ o ≠ 21 ∧ o ≠ 36 then bd1 (fc_X0_showRegister 6 ([44, 32, 114]) (((x.toUInt32 >>> ((18:Int32).toUInt32 &&& Int32.toUInt32 31)).toInt32) &&& (15:Int32)) σ) (fun σ_70 => bc_X0_describe_85 6 x (nI o) σ_70) else bc_X0_describe_85 6 x (nI o) σ) := by
    intro σ
    unfold bc_X0_describe_65
    rw [has_A ho, bd2n]
    by_cases c : 1 ≤ o ∧ o ≤ 37 ∧ o ≠ 21 ∧ o ≠ 36
    · rw [if_pos c, if_neg (by decide), if_pos c]
    · rw [if_neg c, if_pos rfl, if_neg c]
  have D85 : ∀ σ, bc_X0_describe_85 6 x (nI o) σ = (if 1 ≤ o ∧ o ≤ 11 then bd1 (fc_X0_showRegister 6 ([44, 32, 114]) (((x.toUInt32 >>> ((14:Int32).toUInt32 &&& Int32.toUInt32 31)).toInt32) &&& (15:Int32)) σ) (fun σ_65 => bc_X0_describe_105 6 x (nI o) σ_65) else bc_X0_describe_105 6 x (nI o) σ) := by
    intro σ
    unfold bc_X0_describe_85
    rw [has_B ho, bd2n]
    by_cases c : 1 ≤ o ∧ o ≤ 11
    · rw [if_pos c, if_neg (by decide), if_pos c]
    · rw [if_neg c, if_pos rfl, if_neg c]
  have D105 : ∀ σ, bc_X0_describe_105 6 x (nI o) σ = (if 12 ≤ o ∧ o ≤ 38 then (if 1 ≤ o ∧ o ≤ 37 then bc_X0_describe_127 6 x (nI o) (some 6) [44, 32] σ else bc_X0_describe_127 6 x (nI o) (some 6) [32] σ) else some ((σ.1 6 15), σ)) := by
    intro σ
    unfold bc_X0_describe_105
    rw [has_M ho, bd2n]
    by_cases c : 12 ≤ o ∧ o ≤ 38
    · rw [if_pos c, if_neg (by decide), if_pos c, has_D ho, bd2n]
      by_cases c' : 1 ≤ o ∧ o ≤ 37
      · rw [if_pos c', if_neg (by decide), if_pos c']
      · rw [if_neg c', if_pos rfl, if_neg c']
    · rw [if_neg c, if_pos rfl, if_neg c]
  by_cases c39 : o = 39
  · refine fin C1 Q1 no (A1 ?_) (B1 ?_)
    · rw [if_neg (by omega), D65, if_neg (by omega), D85, if_neg (by omega), D105, if_neg (by omega)]
    · unfold eq_show_29
      rw [if_pos (show nI o = (39:Int32) from (eq_l (c := 39) ho (by omega)).mpr c39)]
  have n39 : ¬ nI o = (39:Int32) := fun q => c39 ((eq_l (c := 39) ho (by omega)).mp q)
  have n40 : ¬ nI o = (40:Int32) := fun q => absurd ((eq_l (c := 40) ho (by omega)).mp q) (by omega)
  obtain ⟨ρ2, f2, Q2⟩ := Q1.put (c := 32) (by omega) (by omega)
  by_cases c38 : o = 38
  · obtain ⟨fs, Fs⟩ := fig_ex ((x <<< ((14:Int32) &&& 31)) >>> ((14:Int32) &&& 31))
    obtain ⟨σ2, d2, C2⟩ := C1.text [32] (Or.inl rfl) (by omega)
    obtain ⟨σ3, d3, C3⟩ := Fs.2.2.1 _ _ _ C2 (by simp only [List.length_append, List.length_singleton]; omega)
    obtain ⟨ρ3, f3, Q3⟩ := Fs.2.2.2 _ _ _ Q2 (by simp only [List.length_append, List.length_singleton]; omega)
    refine fin C3 Q3 ?_ (A1 ?_) (B1 ?_)
    · intro c hc
      simp only [List.mem_append, List.mem_singleton] at hc
      rcases hc with (hc | hc) | hc
      · exact no c hc
      · omega
      · exact Fs.2.1 c hc
    · rw [if_neg (by omega), D65, if_neg (by omega), D85, if_neg (by omega), D105, if_pos (by omega), if_neg (by omega)]
      unfold bc_X0_describe_127 bc_X0_describe_151
      simp only [nn_eq]
      rw [show fc_X0_showText 6 [32] σ1 = _ from d2, bd1n, if_neg (show ¬ nI o = (21:Int32) from fun q => absurd ((eq_l (c := 21) ho (by omega)).mp q) (by omega)), d3, bd1n]
    · unfold eq_show_29 fq_signed bq_signed_0
      rw [if_neg n39, show (32:Int32) = nI 32 from rfl, f2, bd1n, if_neg n40, if_pos (show nI o = (38:Int32) from (eq_l (c := 38) ho (by omega)).mpr c38), bd2n, f3, bd1n]
  have n38 : ¬ nI o = (38:Int32) := fun q => c38 ((eq_l (c := 38) ho (by omega)).mp q)
  obtain ⟨fd, Fd, ld⟩ := fig_reg ((x.toUInt32 >>> ((22:Int32).toUInt32 &&& Int32.toUInt32 31)).toInt32)
  obtain ⟨fa, Fa, la⟩ := fig_reg ((x.toUInt32 >>> ((18:Int32).toUInt32 &&& Int32.toUInt32 31)).toInt32)
  obtain ⟨fb, Fb, lb⟩ := fig_reg ((x.toUInt32 >>> ((14:Int32).toUInt32 &&& Int32.toUInt32 31)).toInt32)
  obtain ⟨σ2, d2, C2⟩ := C1.reg Fd [32, 114] (Or.inl rfl) (by omega)
  have d2 : fc_X0_showRegister 6 ([32, 114]) (((x.toUInt32 >>> ((22:Int32).toUInt32 &&& Int32.toUInt32 31)).toInt32) &&& (15:Int32)) σ1 = some σ2 := d2
  obtain ⟨ρ3, f3, Q3⟩ := Q2.reg1 Fd (by simp only [List.length_append, List.length_singleton]; omega)
  have ed : opN o ++ [32] ++ [114] ++ fd = opN o ++ [32, 114] ++ fd := by simp
  rw [ed] at Q3
  have A2 : ∀ {z : Option (Int32 × cl_S)}, bc_X0_describe_65 6 x (nI o) σ2 = z → fc_X0_describe 6 x σ = z := by
    intro z hz
    refine A1 ?_
    rw [if_pos (by omega), d2, bd1n, hz]
  have l2 : (opN o ++ [32, 114] ++ fd).length ≤ 10 := by simp only [List.length_append, List.length_cons, List.length_nil]; omega
  have n2 : ∀ c, c ∈ opN o ++ [32, 114] ++ fd → c < 128 := by
    intro c hc
    simp only [List.mem_append, List.mem_cons, List.not_mem_nil, or_false] at hc
    rcases hc with (hc | hc) | hc
    · exact no c hc
    · omega
    · exact Fd.2.1 c hc
  generalize opN o ++ [32, 114] ++ fd = L at C2 Q3 l2 n2
  by_cases c21 : o = 21
  · obtain ⟨fs, Fs⟩ := fig_ex (x &&& (262143:Int32))
    obtain ⟨σ3, d3, C3⟩ := C2.text [44, 32] (by simp) (by omega)
    obtain ⟨σ4, d4, C4⟩ := Fs.2.2.1 _ _ _ C3 (by simp only [List.length_append, List.length_cons, List.length_nil]; omega)
    obtain ⟨ρ4, f4, Q4⟩ := Fs.2.2.2 _ _ _ Q3 (by simp only [List.length_append, List.length_cons, List.length_nil]; omega)
    rw [show L ++ [44] ++ [32] ++ fs = L ++ [44, 32] ++ fs by simp] at Q4
    refine fin C4 Q4 ?_ (A2 ?_) (B1 ?_)
    · intro c hc
      simp only [List.mem_append, List.mem_cons, List.not_mem_nil, or_false] at hc
      rcases hc with (hc | hc) | hc
      · exact n2 c hc
      · omega
      · exact Fs.2.1 c hc
    · rw [D65, if_neg (by omega), D85, if_neg (by omega), D105, if_pos (by omega), if_pos (by omega)]
      unfold bc_X0_describe_127 bc_X0_describe_151
      simp only [nn_eq]
      rw [show fc_X0_showText 6 [44, 32] σ2 = _ from d3, bd1n, if_pos (show nI o = (21:Int32) from (eq_l (c := 21) ho (by omega)).mpr c21), d4, bd1n]
    · unfold eq_show_29
      rw [if_neg n39, show (32:Int32) = nI 32 from rfl, f2, bd1n, if_neg n40, if_neg n38, f3, bd1n, if_pos (show nI o = (21:Int32) from (eq_l (c := 21) ho (by omega)).mpr c21), f4, bd1n]
  have n21 : ¬ nI o = (21:Int32) := fun q => c21 ((eq_l (c := 21) ho (by omega)).mp q)
  by_cases c12 : 12 ≤ o
  · have p12 : (12:Int32) ≤ nI o := (le_l (o := 12) (c := o) (by omega) ho).mpr c12
    obtain ⟨fs, Fs⟩ := fig_ex ((x <<< ((14:Int32) &&& 31)) >>> ((14:Int32) &&& 31))
    by_cases c36 : o = 36
    · obtain ⟨σ3, d3, C3⟩ := C2.text [44, 32] (by simp) (by omega)
      obtain ⟨σ4, d4, C4⟩ := Fs.2.2.1 _ _ _ C3 (by simp only [List.length_append, List.length_cons, List.length_nil]; omega)
      obtain ⟨ρ4, f4, Q4⟩ := Fs.2.2.2 _ _ _ Q3 (by simp only [List.length_append, List.length_cons, List.length_nil]; omega)
      rw [show L ++ [44] ++ [32] ++ fs = L ++ [44, 32] ++ fs by simp] at Q4
      refine fin C4 Q4 ?_ (A2 ?_) (B1 ?_)
      · intro c hc
        simp only [List.mem_append, List.mem_cons, List.not_mem_nil, or_false] at hc
        rcases hc with (hc | hc) | hc
        · exact n2 c hc
        · omega
        · exact Fs.2.1 c hc
      · rw [D65, if_neg (by omega), D85, if_neg (by omega), D105, if_pos (by omega), if_pos (by omega)]
        unfold bc_X0_describe_127 bc_X0_describe_151
        simp only [nn_eq]
        rw [show fc_X0_showText 6 [44, 32] σ2 = _ from d3, bd1n, if_neg n21, d4, bd1n]
      · unfold eq_show_29 bq_show_188 fq_signed bq_signed_0
        rw [if_neg n39, show (32:Int32) = nI 32 from rfl, f2, bd1n, if_neg n40, if_neg n38, f3, bd1n, if_neg n21, if_pos p12, if_pos (show nI o = (36:Int32) from (eq_l (c := 36) ho (by omega)).mpr c36), bd2n, f4, bd1n]
    · have n36 : ¬ nI o = (36:Int32) := fun q => c36 ((eq_l (c := 36) ho (by omega)).mp q)
      obtain ⟨σ3, d3, C3⟩ := C2.reg Fa [44, 32, 114] (by simp) (by omega)
      obtain ⟨ρ4, f4, Q4⟩ := Q3.reg1 Fa (by simp only [List.length_append, List.length_cons, List.length_nil]; omega)
      obtain ⟨σ4, d4, C4⟩ := C3.text [44, 32] (by simp) (by simp only [List.length_append, List.length_cons, List.length_nil]; omega)
      obtain ⟨σ5, d5, C5⟩ := Fs.2.2.1 _ _ _ C4 (by simp only [List.length_append, List.length_cons, List.length_nil]; omega)
      obtain ⟨ρ5, f5, Q5⟩ := Fs.2.2.2 _ _ _ Q4 (by simp only [List.length_append, List.length_cons, List.length_nil]; omega)
      rw [show L ++ [44] ++ [32] ++ [114] ++ fa ++ [44] ++ [32] ++ fs = L ++ [44, 32, 114] ++ fa ++ [44, 32] ++ fs by simp] at Q5
      refine fin C5 Q5 ?_ (A2 ?_) (B1 ?_)
      · intro c hc
        simp only [List.mem_append, List.mem_cons, List.not_mem_nil, or_false] at hc
        rcases hc with (((hc | hc) | hc) | hc) | hc
        · exact n2 c hc
        · omega
        · exact Fa.2.1 c hc
        · omega
        · exact Fs.2.1 c hc
      · rw [D65, if_pos (by omega), show fc_X0_showRegister 6 [44, 32, 114] _ σ2 = _ from d3, bd1n, D85, if_neg (by omega), D105, if_pos (by omega), if_pos (by omega)]
        unfold bc_X0_describe_127 bc_X0_describe_151
        simp only [nn_eq]
        rw [show fc_X0_showText 6 [44, 32] σ3 = _ from d4, bd1n, if_neg n21, d5, bd1n]
      · unfold eq_show_29 bq_show_188 fq_signed bq_signed_0
        rw [if_neg n39, show (32:Int32) = nI 32 from rfl, f2, bd1n, if_neg n40, if_neg n38, f3, bd1n, if_neg n21, if_pos p12, if_neg n36, f4, bd1n, bd2n, f5, bd1n]
  have n12 : ¬ (12:Int32) ≤ nI o := fun q => c12 ((le_l (o := 12) (c := o) (by omega) ho).mp q)
  obtain ⟨σ3, d3, C3⟩ := C2.reg Fa [44, 32, 114] (by simp) (by omega)
  obtain ⟨ρ4, f4, Q4⟩ := Q3.reg1 Fa (by simp only [List.length_append, List.length_cons, List.length_nil]; omega)
  obtain ⟨σ4, d4, C4⟩ := C3.reg Fb [44, 32, 114] (by simp) (by simp only [List.length_append, List.length_cons, List.length_nil]; omega)
  obtain ⟨ρ5, f5, Q5⟩ := Q4.reg0 Fb (by simp only [List.length_append, List.length_cons, List.length_nil]; omega)
  rw [show L ++ [44] ++ [32] ++ [114] ++ fa ++ [44] ++ [32] ++ [114] ++ fb = L ++ [44, 32, 114] ++ fa ++ [44, 32, 114] ++ fb by simp] at Q5
  refine fin C4 Q5 ?_ (A2 ?_) (B1 ?_)
  · intro c hc
    simp only [List.mem_append, List.mem_cons, List.not_mem_nil, or_false] at hc
    rcases hc with (((hc | hc) | hc) | hc) | hc
    · exact n2 c hc
    · omega
    · exact Fa.2.1 c hc
    · omega
    · exact Fb.2.1 c hc
  · rw [D65, if_pos (by omega), show fc_X0_showRegister 6 [44, 32, 114] _ σ2 = _ from d3, bd1n, D85, if_pos (by omega), show fc_X0_showRegister 6 [44, 32, 114] _ σ3 = _ from d4, bd1n, D105, if_neg (by omega)]
  · unfold eq_show_29
    rw [if_neg n39, show (32:Int32) = nI 32 from rfl, f2, bd1n, if_neg n40, if_neg n38, f3, bd1n, if_neg n21, if_neg n12, f4, bd1n, f5, bd1n]
end Z2_S9
