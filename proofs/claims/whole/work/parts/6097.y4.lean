section Z2_Y4
variable {σ σ' σ0 : cl_S} {ts L E l : List Nat} {v v' : Nat → Option Nat} {G : Gr} {r : Nat}
/-- the class while one of the queue is gone through -/
def JG (σ0 σ : cl_S) (ts : List Nat) (r : Nat) (v : Nat → Option Nat) (L E : List Nat) : Prop := ∃ v', JS σ0 σ ts v' (L ++ E) ∧ Gw (grC σ0 ts) r v L v' E
def JX (σ0 : cl_S) (ts : List Nat) (r : Nat) (v : Nat → Option Nat) (L : List Nat) : Prop := (CSt σ0 ts) ∧ (r + 1 < 1000000000) ∧ (∀ x, x ∈ L ↔ ∃ s, v x = some s) ∧ (∀ x s, v x = some s → Kn (grC σ0 ts) s x)
theorem JX.C {σ0 : cl_S} {ts : List Nat} {r : Nat} {v : Nat → Option Nat} {L : List Nat} (hS : JX σ0 ts r v L) : CSt σ0 ts := hS.1
theorem JX.hr {σ0 : cl_S} {ts : List Nat} {r : Nat} {v : Nat → Option Nat} {L : List Nat} (hS : JX σ0 ts r v L) : r + 1 < 1000000000 := hS.2.1
theorem JX.kn {σ0 : cl_S} {ts : List Nat} {r : Nat} {v : Nat → Option Nat} {L : List Nat} (hS : JX σ0 ts r v L) : ∀ x, x ∈ L ↔ ∃ s, v x = some s := hS.2.2.1
theorem JX.so {σ0 : cl_S} {ts : List Nat} {r : Nat} {v : Nat → Option Nat} {L : List Nat} (hS : JX σ0 ts r v L) : ∀ x s, v x = some s → Kn (grC σ0 ts) s x := hS.2.2.2
theorem JG.learn {x : Nat} (X : JX σ0 ts r v L) (J : JG σ0 σ ts r v L E) (hx : x ∈ ts) (hk : Kn (grC σ0 ts) (r + 1) x) : ∃ σ' E', fc_X10_learn 31 (some x) (nI r + (1:Int32)) σ = some σ' ∧ JG σ0 σ' ts r v L (E ++ E') ∧ x ∈ L ++ (E ++ E') := by
  obtain ⟨v', S, W⟩ := J
  obtain ⟨σ', e, h⟩ := S.learn X.C hx X.hr
  rw [show nI r + (1:Int32) = nI (r + 1) from n_add r 1]
  rcases h with ⟨hL, rfl⟩ | ⟨hL, S'⟩
  · exact ⟨σ', [], e, ⟨v', by rw [List.append_nil]; exact S, by rw [List.append_nil]; exact W⟩, by rw [List.append_nil]; exact hL⟩
  · refine ⟨σ', [x], e, ⟨_, by rw [← List.append_assoc]; exact S', W.add hL hk (vset_s rfl) (fun y hy => vset_n hy)⟩, by simp⟩
theorem JG.had {z : Nat} (X : JX σ0 ts r v L) (J : JG σ0 σ ts r v L E) (hz : z = 33 ∨ z ∈ ts) : fc_X10_isHad 31 (some z) (nI r) σ = some (@ite Int32 (hd v r z) (Classical.propDecidable _) 1 0, σ) := by
  obtain ⟨v', S, W⟩ := J
  have hr := X.hr
  rw [S.had X.C hz (by omega)]
  have e : hd v' r z ↔ hd v r z := by
    unfold hd
    by_cases c : z ∈ E
    · have w := (W.new z c).1
      have nv : v z = none := by
        cases q : v z with
        | none => rfl
        | some s =>
          exfalso
          exact (List.nodup_append.mp W.nd).2.2 z ((X.kn z).mpr ⟨s, q⟩) z c rfl
      refine ⟨?_, ?_⟩
      · rintro (q | ⟨s, q, hs⟩)
        · exact Or.inl q
        · rw [w] at q; cases q; omega
      · rintro (q | ⟨s, q, hs⟩)
        · exact Or.inl q
        · rw [nv] at q; cases q
    · rw [W.old z c]
  by_cases c : hd v r z
  · rw [if_pos c, if_pos (e.mpr c)]
  · rw [if_neg c, if_neg (fun q => c (e.mp q))]
theorem JG.R {a j : Nat} (J : JG σ0 σ ts r v L E) (h1 : j ≠ 11) (h2 : a ≠ 31) : σ.2.2.1 a j = σ0.2.2.1 a j := by
  obtain ⟨v', S, W⟩ := J
  exact S.R a j (fun q => h1 q.2) (fun q => h2 q.1)
theorem JG.I {a j : Nat} (J : JG σ0 σ ts r v L E) (h1 : j ≠ 10) : σ.1 a j = σ0.1 a j := by
  obtain ⟨v', S, W⟩ := J
  exact S.I a j (fun q => h1 q.2)
theorem JG.rd {a s : Nat} (X : JX σ0 ts r v L) (J : JG σ0 σ ts r v L E) (e : v a = some s) : σ.1 a 10 = nI s := by
  obtain ⟨v', S, W⟩ := J
  have aL := (X.kn a).mpr ⟨s, e⟩
  have nE : a ∉ E := fun c => (List.nodup_append.mp W.nd).2.2 a aL a c rfl
  exact S.v1 a s (S.ql a (List.mem_append.mpr (Or.inl aL))) (by rw [W.old a nE]; exact e)
theorem JX.had {z : Nat} (X : JX σ0 ts r v L) (h : hd v r z) (h33 : z ≠ 33) : Kn (grC σ0 ts) r z := by
  obtain ⟨s, e, hs⟩ := h.resolve_left h33
  exact (X.so z s e).mono hs
theorem part_in (C : CSt σ0 ts) {a : Nat} (ha : a ∈ ts) : ∃ x y z, σ0.2.2.1 a 3 = some x ∧ σ0.2.2.1 a 4 = some y ∧ σ0.2.2.1 a 5 = some z ∧ (x = 33 ∨ x ∈ ts) ∧ (y = 33 ∨ y ∈ ts) ∧ (z = 33 ∨ z ∈ ts) := by
  obtain ⟨k, -, -, sh, -⟩ := C.kd a ha
  have t : ∀ {w : Option Nat}, (inT ts w ∨ isN w) → ∃ x, w = some x ∧ (x = 33 ∨ x ∈ ts) := by
    rintro w (⟨x, e, h⟩ | e)
    · exact ⟨x, e, Or.inr h⟩
    · exact ⟨33, e, Or.inl rfl⟩
  have : (inT ts (σ0.2.2.1 a 3) ∨ isN (σ0.2.2.1 a 3)) ∧ (inT ts (σ0.2.2.1 a 4) ∨ isN (σ0.2.2.1 a 4)) ∧ (inT ts (σ0.2.2.1 a 5) ∨ isN (σ0.2.2.1 a 5)) := by
    unfold shp at sh
    split at sh
    · exact ⟨Or.inr sh.1, Or.inr sh.2.1, Or.inr sh.2.2⟩
    split at sh
    · exact ⟨Or.inl sh.1, Or.inr sh.2.1, Or.inr sh.2.2⟩
    split at sh
    · exact ⟨Or.inl sh.1, Or.inl sh.2.1, Or.inl sh.2.2⟩
    · exact ⟨Or.inl sh.1, Or.inl sh.2.1, Or.inr sh.2.2⟩
  obtain ⟨x, e1, h1⟩ := t this.1
  obtain ⟨y, e2, h2⟩ := t this.2.1
  obtain ⟨z, e3, h3⟩ := t this.2.2
  exact ⟨x, y, z, e1, e2, e3, h1, h2, h3⟩
/-- the parts by the kind -/
theorem part_k (C : CSt σ0 ts) {a : Nat} (ha : a ∈ ts) {k : Nat} (hk : k < 10) (e : σ0.1 a 0 = nI k) : shp (inT ts) isN k (σ0.2.2.1 a 3) (σ0.2.2.1 a 4) (σ0.2.2.1 a 5) := by
  obtain ⟨k', hk', ek', sh, -⟩ := C.kd a ha
  have := (k_eq hk' hk).mp (ek'.symm.trans e)
  subst this
  exact sh
/-- taking apart -/
theorem JG.apart {y : Nat} (X : JX σ0 ts r v L) (J : JG σ0 σ ts r v L E) (hy : y ∈ ts) (ey : v y = some r) : ∃ σ' E', fc_X10_takeApart 31 (some y) σ = some σ' ∧ JG σ0 σ' ts r v L (E ++ E') ∧ (∀ x, x ∈ ts → (grC σ0 ts).o1 y x → x ∈ L ++ (E ++ E')) ∧ (∀ k x, hd v r k → x ∈ ts → (grC σ0 ts).o2 y k x → x ∈ L ++ (E ++ E')) := by
  have y31 : y ≠ 31 := fun q => by have := (X.C.mem y hy).1; omega
  have ky : Kn (grC σ0 ts) r y := X.so y r ey
  unfold fc_X10_takeApart bc_X10_takeApart_0
  simp only [nn_eq, vl_eq]
  rw [J.rd X ey, J.I (a := y) (j := 0) (by decide)]
  have base : (E ++ []) = E := List.append_nil E
  by_cases c3 : σ0.1 y 0 = (3:Int32)
  · rw [if_pos c3]
    have sh := part_k X.C hy (k := 3) (by omega) c3
    obtain ⟨⟨a, ea, ha⟩, ⟨b, eb, hb⟩, -⟩ := sh
    rw [J.R (by decide) y31, ea]
    obtain ⟨σ1, E1, e1, J1, m1⟩ := J.learn X ha (Or.inr ⟨ha, Or.inl ⟨y, ky, hy, Or.inl ⟨c3, Or.inl ea⟩⟩⟩)
    rw [e1, bd1_eq, J1.R (by decide) y31, eb]
    obtain ⟨σ2, E2, e2, J2, m2⟩ := J1.learn X hb (Or.inr ⟨hb, Or.inl ⟨y, ky, hy, Or.inl ⟨c3, Or.inr eb⟩⟩⟩)
    rw [e2, bd1_eq]
    refine ⟨σ2, E1 ++ E2, rfl, by rw [← List.append_assoc]; exact J2, fun x hx ho => ?_, fun k x hk hx ho => ?_⟩
    · rw [← List.append_assoc E]
      obtain ⟨-, ⟨-, q | q⟩ | ⟨q, -⟩⟩ := ho
      · rw [ea] at q; cases q
        rw [← List.append_assoc] at m1 ⊢; rw [← List.append_assoc]
        exact List.mem_append.mpr (Or.inl m1)
      · rw [eb] at q; cases q; exact m2
      · rcases q with q | q
        · rw [c3] at q; exact absurd q (by decide)
        · rw [c3] at q; exact absurd q (by decide)
    · obtain ⟨-, q, -⟩ := ho
      rw [c3] at q; exact absurd q (by decide)
  rw [if_neg c3]
  by_cases c7 : σ0.1 y 0 = (7:Int32)
  · rw [if_pos c7]
    have sh := part_k X.C hy (k := 7) (by omega) c7
    obtain ⟨⟨a, ea, ha⟩, ⟨b, eb, hb⟩, -⟩ := sh
    rw [J.R (by decide) y31, eb]
    obtain ⟨σ1, E1, e1, J1, m1⟩ := J.learn X hb (Or.inr ⟨hb, Or.inl ⟨y, ky, hy, Or.inr ⟨Or.inl c7, eb⟩⟩⟩)
    rw [e1, bd1_eq]
    refine ⟨σ1, E1, rfl, J1, fun x hx ho => ?_, fun k x hk hx ho => ?_⟩
    · obtain ⟨-, ⟨q, -⟩ | ⟨-, q⟩⟩ := ho
      · exact absurd q c3
      · rw [eb] at q; cases q; exact m1
    · obtain ⟨-, q, -⟩ := ho
      rw [c7] at q; exact absurd q (by decide)
  rw [if_neg c7]
  by_cases c8 : σ0.1 y 0 = (8:Int32)
  · rw [if_pos c8]
    have sh := part_k X.C hy (k := 8) (by omega) c8
    obtain ⟨⟨a, ea, ha⟩, ⟨b, eb, hb⟩, ⟨c, ec, hc⟩⟩ := sh
    rw [J.R (by decide) y31, eb]
    obtain ⟨σ1, E1, e1, J1, m1⟩ := J.learn X hb (Or.inr ⟨hb, Or.inl ⟨y, ky, hy, Or.inr ⟨Or.inr c8, eb⟩⟩⟩)
    rw [e1, bd1_eq, J1.R (by decide) y31, ea, J1.rd X ey, J1.had X (Or.inr ha), bd2_eq]
    have t1 : ∀ E2, ∀ x, x ∈ ts → (grC σ0 ts).o1 y x → x ∈ L ++ (E ++ (E1 ++ E2)) := by
      intro E2 x hx ho
      obtain ⟨-, ⟨q, -⟩ | ⟨-, q⟩⟩ := ho
      · exact absurd q c3
      · rw [eb] at q; cases q
        rw [← List.append_assoc E, ← List.append_assoc]
        exact List.mem_append.mpr (Or.inl m1)
    by_cases ch : hd v r a
    · rw [if_pos ch, if_neg (by decide), J1.R (by decide) y31, ec]
      obtain ⟨σ2, E2, e2, J2, m2⟩ := J1.learn X hc (Or.inr ⟨hc, Or.inr (Or.inl ⟨y, a, ky, X.had ch (lt33 X.C ha), hy, c8, ea, ec⟩)⟩)
      rw [e2, bd1_eq]
      refine ⟨σ2, E1 ++ E2, rfl, by rw [← List.append_assoc]; exact J2, t1 E2, fun k x hk hx ho => ?_⟩
      obtain ⟨-, -, -, q⟩ := ho
      rw [ec] at q; cases q
      rw [← List.append_assoc E]; exact m2
    · rw [if_neg ch, if_pos rfl]
      refine ⟨σ1, E1, rfl, J1, by have := t1 []; rw [List.append_nil] at this; exact this, fun k x hk hx ho => ?_⟩
      obtain ⟨-, -, q, -⟩ := ho
      rw [ea] at q; cases q; exact absurd hk ch
  rw [if_neg c8]
  refine ⟨σ, [], rfl, by rw [base]; exact J, fun x hx ho => ?_, fun k x hk hx ho => ?_⟩
  · obtain ⟨-, ⟨q, -⟩ | ⟨q | q, -⟩⟩ := ho
    · exact absurd q c3
    · exact absurd q c7
    · exact absurd q c8
  · exact absurd ho.2.1 c8
end Z2_Y4
