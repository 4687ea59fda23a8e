section Z2_Y5
variable {σ σ' σ0 : cl_S} {ts L E l : List Nat} {v v' : Nat → Option Nat} {G : Gr} {r : Nat}
def usr (σ0 : cl_S) (u y : Nat) : Prop := σ0.2.2.1 u 3 = some y ∨ σ0.2.2.1 u 4 = some y ∨ σ0.2.2.1 u 5 = some y
theorem usr_cm (C : CSt σ0 ts) {u y : Nat} (hu : u ∈ ts) (hy : y ∈ ts) (h : usr σ0 u y) : ¬ σ0.2.2.1 u 3 = some 33 := by
  intro q
  obtain ⟨k, -, -, sh, -⟩ := C.kd u hu
  have y33 := lt33 C hy
  unfold shp at sh
  by_cases c : k < 3
  · rw [if_pos c] at sh
    obtain ⟨s3, s4, s5⟩ := sh
    rcases h with h | h | h
    · rw [s3] at h; cases h; exact y33 rfl
    · rw [s4] at h; cases h; exact y33 rfl
    · rw [s5] at h; cases h; exact y33 rfl
  · rw [if_neg c] at sh
    have : inT ts (σ0.2.2.1 u 3) := by
      split at sh
      · exact sh.1
      split at sh
      · exact sh.1
      · exact sh.1
    obtain ⟨a, ea, ha⟩ := this
    rw [q] at ea; cases ea
    exact lt33 C ha rfl
/-- one user -/
theorem JG.user {y u : Nat} (X : JX σ0 ts r v L) (J : JG σ0 σ ts r v L E) (hy : y ∈ ts) (ey : v y = some r) (hu : u ∈ ts) (huy : usr σ0 u y) : ∃ σ' E', lc_X10_putTogether_10 31 (some y) (nI r) (some u) σ = some (.inl (nxU σ0 y u, σ')) ∧ JG σ0 σ' ts r v L (E ++ E') ∧ ((∀ z, usr σ0 u z → hd v r z) → u ∈ L ++ (E ++ E')) ∧ (σ0.1 u 0 = (8:Int32) → σ0.2.2.1 u 3 = some y → hd v r u → ∀ x, σ0.2.2.1 u 5 = some x → x ∈ ts → x ∈ L ++ (E ++ E')) := by
  have u31 : u ≠ 31 := fun q => by have := (X.C.mem u hu).1; omega
  have ky : Kn (grC σ0 ts) r y := X.so y r ey
  obtain ⟨a, b, c, ea, eb, ec, ha, hb, hc⟩ := part_in X.C hu
  -- behind: the next user
  have t95 : ∀ {σ' : cl_S} {E' : List Nat}, JG σ0 σ' ts r v L E' → bc_X10_putTogether_95i10 31 (some y) (nI r) (some u) σ' = some (.inl (nxU σ0 y u, σ')) := by
    intro σ' E' J'
    unfold bc_X10_putTogether_95i10 fc_X9_nextUserOf bc_X9_nextUserOf_0 nxU
    simp only [nn_eq, vl_eq]
    rw [J'.R (j := 3) (by decide) u31, J'.R (j := 4) (by decide) u31, J'.R (j := 13) (by decide) u31, J'.R (j := 14) (by decide) u31, J'.R (j := 15) (by decide) u31]
    by_cases c1 : some y = σ0.2.2.1 u 3
    · rw [if_pos c1, if_pos c1, bd2_eq]
    · rw [if_neg c1, if_neg c1]
      by_cases c2 : some y = σ0.2.2.1 u 4
      · rw [if_pos c2, if_pos c2, bd2_eq]
      · rw [if_neg c2, if_neg c2, bd2_eq]
  -- the middle: what it closes
  have t58 : ∀ {σ1 : cl_S} {E1 : List Nat}, JG σ0 σ1 ts r v L E1 → ∃ σ' E', bc_X10_putTogether_58i10 31 (some y) (nI r) (some u) σ1 = some (.inl (nxU σ0 y u, σ')) ∧ JG σ0 σ' ts r v L (E1 ++ E') ∧ (σ0.1 u 0 = (8:Int32) → σ0.2.2.1 u 3 = some y → hd v r u → ∀ x, σ0.2.2.1 u 5 = some x → x ∈ ts → x ∈ L ++ (E1 ++ E')) := by
    intro σ1 E1 J1
    unfold bc_X10_putTogether_58i10
    simp only [nn_eq, vl_eq]
    rw [J1.I (a := u) (j := 0) (by decide)]
    have stop : ¬ (σ0.1 u 0 = (8:Int32) ∧ σ0.2.2.1 u 3 = some y ∧ hd v r u) → bc_X10_putTogether_95i10 31 (some y) (nI r) (some u) σ1 = some (.inl (nxU σ0 y u, σ1)) ∧ JG σ0 σ1 ts r v L (E1 ++ []) ∧ (σ0.1 u 0 = (8:Int32) → σ0.2.2.1 u 3 = some y → hd v r u → ∀ x, σ0.2.2.1 u 5 = some x → x ∈ ts → x ∈ L ++ (E1 ++ [])) := by
      intro h
      exact ⟨t95 J1, by rw [List.append_nil]; exact J1, fun q1 q2 q3 => absurd ⟨q1, q2, q3⟩ h⟩
    by_cases c8 : σ0.1 u 0 = (8:Int32)
    rotate_left
    · rw [if_neg c8]
      exact ⟨σ1, [], stop (fun q => c8 q.1)⟩
    rw [if_pos c8, J1.R (j := 3) (by decide) u31]
    by_cases c3 : σ0.2.2.1 u 3 = some y
    rotate_left
    · rw [if_neg c3]
      exact ⟨σ1, [], stop (fun q => c3 q.2.1)⟩
    rw [if_pos c3, J1.had X (Or.inr hu), bd2_eq]
    by_cases ch : hd v r u
    rotate_left
    · rw [if_neg ch, if_pos rfl]
      exact ⟨σ1, [], stop (fun q => ch q.2.2)⟩
    rw [if_pos ch, if_neg (by decide), J1.R (j := 5) (by decide) u31]
    obtain ⟨-, -, ⟨c', ec', hc'⟩⟩ := part_k X.C hu (k := 8) (by omega) c8
    rw [ec']
    obtain ⟨σ2, E2, e2, J2, m2⟩ := J1.learn X hc' (Or.inr ⟨hc', Or.inr (Or.inl ⟨u, y, X.had ch (lt33 X.C hu), ky, hu, c8, c3, ec'⟩)⟩)
    rw [e2, bd1_eq]
    refine ⟨σ2, E2, t95 J2, J2, fun _ _ _ x ex hx => ?_⟩
    cases ex; exact m2
  unfold lc_X10_putTogether_10
  rw [if_neg (fun q => by cases q)]
  simp only [nn_eq, vl_eq]
  rw [J.R (j := 3) (by decide) u31, ea, J.had X ha, bd2_eq]
  have pass : ¬ (hd v r a ∧ hd v r b ∧ hd v r c) → ∃ σ' E', bc_X10_putTogether_58i10 31 (some y) (nI r) (some u) σ = some (.inl (nxU σ0 y u, σ')) ∧ JG σ0 σ' ts r v L (E ++ E') ∧ ((∀ z, usr σ0 u z → hd v r z) → u ∈ L ++ (E ++ E')) ∧ (σ0.1 u 0 = (8:Int32) → some a = some y → hd v r u → ∀ x, σ0.2.2.1 u 5 = some x → x ∈ ts → x ∈ L ++ (E ++ E')) := by
    intro h
    obtain ⟨σ', E', e, J', k'⟩ := t58 J
    rw [ea] at k'
    exact ⟨σ', E', e, J', fun q => absurd ⟨q a (Or.inl ea), q b (Or.inr (Or.inl eb)), q c (Or.inr (Or.inr ec))⟩ h, k'⟩
  by_cases h1 : hd v r a
  rotate_left
  · rw [if_neg h1, if_pos rfl]; exact pass (fun q => h1 q.1)
  rw [if_pos h1, if_neg (by decide), J.R (j := 4) (by decide) u31, eb, J.had X hb, bd2_eq]
  by_cases h2 : hd v r b
  rotate_left
  · rw [if_neg h2, if_pos rfl]; exact pass (fun q => h2 q.2.1)
  rw [if_pos h2, if_neg (by decide), J.R (j := 5) (by decide) u31, ec, J.had X hc, bd2_eq]
  by_cases h3 : hd v r c
  rotate_left
  · rw [if_neg h3, if_pos rfl]; rw [ec] at pass; exact pass (fun q => h3 q.2.2)
  rw [if_pos h3, if_neg (by decide)]
  obtain ⟨σ1, E1, e1, J1, m1⟩ := J.learn X hu (Or.inr ⟨hu, Or.inr (Or.inr ⟨⟨hu, usr_cm X.C hu hy huy⟩, fun z hz => by
    obtain ⟨-, z33, q⟩ := hz
    rcases q with q | q | q
    · rw [ea] at q; cases q; exact X.had h1 z33
    · rw [eb] at q; cases q; exact X.had h2 z33
    · rw [ec] at q; cases q; exact X.had h3 z33⟩)⟩)
  rw [e1, bd1_eq]
  obtain ⟨σ2, E2, e2, J2, k2⟩ := t58 J1
  rw [ea, ec] at k2
  refine ⟨σ2, E1 ++ E2, e2, by rw [← List.append_assoc]; exact J2, fun _ => ?_, by rw [← List.append_assoc E]; exact k2⟩
  rw [← List.append_assoc E, ← List.append_assoc]
  exact List.mem_append.mpr (Or.inl m1)
/-- all users -/
theorem JG.users {y : Nat} (X : JX σ0 ts r v L) (hy : y ∈ ts) (ey : v y = some r) : ∀ (l : List Nat) (x3 : Option Nat) (σ : cl_S) (E : List Nat), Lst (nxU σ0 y) x3 l → (∀ u, u ∈ l → u ∈ ts ∧ usr σ0 u y) → JG σ0 σ ts r v L E → ∃ σ' E', lp (fun z : ((Option Nat) × cl_S) => lc_X10_putTogether_10 31 (some y) (nI r) z.1 z.2) (x3, σ) = some (none, σ') ∧ JG σ0 σ' ts r v L (E ++ E') ∧ (∀ u, u ∈ l → ((∀ z, usr σ0 u z → hd v r z) → u ∈ L ++ (E ++ E')) ∧ (σ0.1 u 0 = (8:Int32) → σ0.2.2.1 u 3 = some y → hd v r u → ∀ x, σ0.2.2.1 u 5 = some x → x ∈ ts → x ∈ L ++ (E ++ E'))) := by
  intro l
  induction l with
  | nil =>
    intro x3 σ E H hl J
    cases (show x3 = none from H)
    refine ⟨σ, [], lp_end (s := ((none : Option Nat), σ)) ?_, by rw [List.append_nil]; exact J, fun u hu => absurd hu List.not_mem_nil⟩
    show lc_X10_putTogether_10 31 (some y) (nI r) none σ = _
    unfold lc_X10_putTogether_10
    rw [if_pos rfl]
  | cons u l ih =>
    intro x3 σ E H hl J
    obtain ⟨rfl, H⟩ := H
    obtain ⟨hu, huy⟩ := hl u List.mem_cons_self
    obtain ⟨σ1, E1, e1, J1, a1, b1⟩ := J.user X hy ey hu huy
    obtain ⟨σ2, E2, e2, J2, k2⟩ := ih _ σ1 (E ++ E1) H (fun w hw => hl w (List.mem_cons_of_mem _ hw)) J1
    refine ⟨σ2, E1 ++ E2, by rw [lp_next (s := (some u, σ)) e1]; exact e2, by rw [← List.append_assoc]; exact J2, fun w hw => ?_⟩
    have up : ∀ x, x ∈ L ++ (E ++ E1) → x ∈ L ++ (E ++ (E1 ++ E2)) := fun x hx => by
      rw [← List.append_assoc E, ← List.append_assoc]
      exact List.mem_append.mpr (Or.inl hx)
    rcases List.mem_cons.mp hw with rfl | hw
    · exact ⟨fun q => up _ (a1 q), fun q1 q2 q3 x ex hx => up _ (b1 q1 q2 q3 x ex hx)⟩
    · rw [← List.append_assoc E]; exact k2 w hw
/-- putting together -/
theorem JG.together {y : Nat} (X : JX σ0 ts r v L) (J : JG σ0 σ ts r v L E) (hy : y ∈ ts) (ey : v y = some r) : ∃ σ' E', fc_X10_putTogether 31 (some y) σ = some σ' ∧ JG σ0 σ' ts r v L (E ++ E') ∧ (∀ u, u ∈ ts → usr σ0 u y → ((∀ z, usr σ0 u z → hd v r z) → u ∈ L ++ (E ++ E')) ∧ (σ0.1 u 0 = (8:Int32) → σ0.2.2.1 u 3 = some y → hd v r u → ∀ x, σ0.2.2.1 u 5 = some x → x ∈ ts → x ∈ L ++ (E ++ E'))) := by
  have y31 : y ≠ 31 := fun q => by have := (X.C.mem y hy).1; omega
  obtain ⟨l, Hl, ml⟩ := X.C.us y hy
  obtain ⟨σ', E', e, J', k⟩ := JG.users X hy ey l _ σ E Hl (fun u hu => (ml u).mp hu) J
  refine ⟨σ', E', ?_, J', fun u hu huy => k u ((ml u).mpr ⟨hu, huy⟩)⟩
  unfold fc_X10_putTogether bc_X10_putTogether_0
  simp only [nn_eq, vl_eq]
  rw [J.rd X ey, J.R (j := 12) (by decide) y31]
  unfold bc_X10_putTogether_10
  rw [e, Option.bind_some]
  rfl
end Z2_Y5
