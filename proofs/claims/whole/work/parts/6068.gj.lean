section Z2_GJ
variable {K : Bd} {W W' : Wd} {b : Bool} {k s p : Nat} {σ σ' : cl_S} {ρ ρ' : rf_S}
/-- the class alone has one term more -/
theorem TL.xtr {ts : List Nat} {tm : Nat → Nat} {N a dc ds : Nat} (L : TL σ ρ ts tm N) (F : TFr σ σ' ts (a :: ts) dc ds) (ft : ∀ b ∈ ts, σ'.1 b 9 = σ.1 b 9) (h0 : σ'.1 a 0 ≠ nI 1) (h9 : σ'.1 a 9 = 0) (hn : ∀ t, t < N → tm t ≠ a) : TL σ' ρ (a :: ts) tm N := by
  have m : ∀ t, t < N → pt ts (tm t) := fun t ht => Or.inr (L.inm t ht)
  refine ⟨fun t ht => List.mem_cons_of_mem _ (L.inm t ht), L.inj, fun t ht => by rw [F.fI _ (m t ht) 0 (by omega)]; exact L.kd t ht, fun t ht q => by rw [F.fI _ (m t ht) 1 (by omega)]; exact L.nu t ht q, fun t k a ht h1 h2 h3 h4 h5 => by rw [F.fR _ (m t ht) 3 (by omega) (by omega)]; exact L.pa t k a ht h1 h2 h3 h4 h5, fun t k a ht h1 h2 h3 h4 h5 h6 h7 => by rw [F.fR _ (m t ht) 4 (by omega) (by omega)]; exact L.pb t k a ht h1 h2 h3 h4 h5 h6 h7, fun t a ht h1 h2 h3 => by rw [F.fR _ (m t ht) 5 (by omega) (by omega)]; exact L.pc t a ht h1 h2 h3, fun t o l ht h1 h2 h3 h4 h5 => (L.rw t o l ht h1 h2 h3 h4 h5).fr F (L.inm t ht), fun b hb q => ?_, fun t ht => by rw [ft _ (L.inm t ht)]; exact L.told t ht, fun b hb q => ?_⟩
  · rcases List.mem_cons.mp hb with rfl | hb'
    · exact absurd q h0
    · rw [F.fI b (Or.inr hb') 0 (by omega)] at q; exact L.rall b hb' q
  · rcases List.mem_cons.mp hb with rfl | hb'
    · exact h9
    · rw [ft b hb']; exact L.tex b hb' q
theorem t_extra {n0 N t : Nat} {ts : List Nat} {tm : Nat → Nat} (T : TermR n0 σ ρ ts tm N) (ht : t < N) (h1 : 1 ≤ σ.2.2.2.2.2.1) (h16 : 16 ≤ σ.2.2.2.2.2.2) : ∃ σ' ts' a, fc_X10_made 31 (9:Int32) (some 34) (some (tm t)) (some 33) σ = some (some a, σ') ∧ a ∈ ts' ∧ σ'.1 a 0 = nI 9 ∧ σ'.2.2.1 a 3 = some 34 ∧ σ'.2.2.1 a 4 = some (tm t) ∧ ts'.length ≤ ts.length + 1 ∧ TFr σ σ' ts ts' 0 0 ∧ TermR n0 σ' ρ ts' tm N := by
  obtain ⟨k0, k1, -⟩ := T.k0
  have h : argR tm N 9 0 34 (tm t) 33 (nI 0) (nI t) 0 := by
    unfold argR
    rw [if_neg (by omega), if_neg (by omega), if_neg (by omega)]
    exact ⟨rfl, ⟨0, by omega, rfl, k1.symm⟩, ⟨t, ht, rfl, rfl⟩, rfl, rfl⟩
  have e33 := T.C.tms.2.2.1
  obtain ⟨C, Q, L, K, J1, J2, J3⟩ := T
  obtain ⟨sh, hn0⟩ := argR.shp L h (by omega) (by omega)
  obtain ⟨x', y', z', ex, ey, ez, hx, hy, hz⟩ := shp_pt sh
  cases ex; cases ey; cases ez
  unfold fc_X10_made bc_X10_made_0
  rcases c_find C.toCSt0 (nI 9) 0 34 (tm t) 33 with ⟨d, hd, hkd, ed⟩ | ⟨hno, ed⟩
  · refine ⟨σ, ts, d, ?_, hd, hkd.1, hkd.2.2.1, hkd.2.2.2.1, by omega, TFr.refl _ _, ⟨C, Q, L, K, J1, J2, J3⟩⟩
    rw [show (9:Int32) = nI 9 from rfl, ed, bd2_eq, e33, vl_eq, if_neg (fun q => by have := C.mem _ hd; have := Option.some.inj q; omega)]
  · obtain ⟨mb, hmb, emb⟩ := hB_lt (nI 9) 0 (σ.1 34 2) (σ.1 (tm t) 2) (σ.1 33 2)
    obtain ⟨σ', ec, A'⟩ := c_add_eq C.toCSt0 (nI 9) 0 hx hy hz h1 h16 hmb emb
    have F := A'.fr C.toCSt0 hx hy hz h1 h16
    have C' := c_add_st C.toCSt0 (show 9 < 10 by omega) sh hn0 hmb emb (fun _ => hno) A'
    refine ⟨σ', σ.2.2.2.2.1 :: ts, σ.2.2.2.2.1, ?_, List.mem_cons_self, A'.A0, A'.A3, A'.A4, by simp, F, ⟨C.add (by omega) (by omega) (by omega) A' F C', Q, ?_, K, Or.inl A'.I8, J2, J3⟩⟩
    · rw [show (9:Int32) = nI 9 from rfl, ed, bd2_eq, e33, vl_eq, if_pos rfl, ec, bd2_eq]
    · refine L.xtr F (fun b hb => ?_) (by rw [A'.A0]; decide) A'.A9 (fun t ht q => ?_)
      · have := C.mem b hb
        rw [A'.I b (by omega) (by omega)]
      · have := C.mem _ (L.inm t ht)
        omega
/-- how measuring goes on: the rows of X and the refs of Y may change -/
def MsF (X Y : Nat → Prop) (σ σ' : cl_S) (ts ts' : List Nat) (dc ds : Nat) : Prop := (∀ b, ¬ X b → (b < 31 ∨ 37 < b) → b < 325 → σ'.1 b = σ.1 b) ∧ (∀ b, b < 325 → σ'.2.1 b = σ.2.1 b) ∧ (∀ b, ¬ Y b → (b < 31 ∨ 37 < b) → b < 325 → σ'.2.2.1 b = σ.2.2.1 b) ∧ (∀ b, b < σ.2.2.2.2.1 → σ'.2.2.2.1 b = σ.2.2.2.1 b) ∧ (σ.2.2.2.2.1 ≤ σ'.2.2.2.2.1) ∧ (∀ a ∈ ts, a ∈ ts') ∧ (∀ b, pt ts b → ∀ j, j < 3 → σ'.1 b j = σ.1 b j) ∧ (∀ b, pt ts b → ∀ j, 2 < j → j < 7 → σ'.2.2.1 b j = σ.2.2.1 b j) ∧ (∀ b, 324 < b → b < σ.2.2.2.2.1 → (σ.2.2.2.1 b).1 = 1 → σ'.1 b = σ.1 b) ∧ (∀ j, 3 < j → j < 8 → σ'.2.2.1 31 j = σ.2.2.1 31 j) ∧ (σ.2.2.2.2.2.1 + ts.length ≤ σ'.2.2.2.2.2.1 + ts'.length + dc) ∧ (σ.2.2.2.2.2.2 + 16 * ts.length ≤ σ'.2.2.2.2.2.2 + 16 * ts'.length + ds)
theorem MsF.I {X Y : Nat → Prop} {σ σ' : cl_S} {ts ts' : List Nat} {dc ds : Nat} (hS : MsF X Y σ σ' ts ts' dc ds) : ∀ b, ¬ X b → (b < 31 ∨ 37 < b) → b < 325 → σ'.1 b = σ.1 b := hS.1
theorem MsF.L {X Y : Nat → Prop} {σ σ' : cl_S} {ts ts' : List Nat} {dc ds : Nat} (hS : MsF X Y σ σ' ts ts' dc ds) : ∀ b, b < 325 → σ'.2.1 b = σ.2.1 b := hS.2.1
theorem MsF.R {X Y : Nat → Prop} {σ σ' : cl_S} {ts ts' : List Nat} {dc ds : Nat} (hS : MsF X Y σ σ' ts ts' dc ds) : ∀ b, ¬ Y b → (b < 31 ∨ 37 < b) → b < 325 → σ'.2.2.1 b = σ.2.2.1 b := hS.2.2.1
theorem MsF.T {X Y : Nat → Prop} {σ σ' : cl_S} {ts ts' : List Nat} {dc ds : Nat} (hS : MsF X Y σ σ' ts ts' dc ds) : ∀ b, b < σ.2.2.2.2.1 → σ'.2.2.2.1 b = σ.2.2.2.1 b := hS.2.2.2.1
theorem MsF.n {X Y : Nat → Prop} {σ σ' : cl_S} {ts ts' : List Nat} {dc ds : Nat} (hS : MsF X Y σ σ' ts ts' dc ds) : σ.2.2.2.2.1 ≤ σ'.2.2.2.2.1 := hS.2.2.2.2.1
theorem MsF.sub {X Y : Nat → Prop} {σ σ' : cl_S} {ts ts' : List Nat} {dc ds : Nat} (hS : MsF X Y σ σ' ts ts' dc ds) : ∀ a ∈ ts, a ∈ ts' := hS.2.2.2.2.2.1
theorem MsF.fI {X Y : Nat → Prop} {σ σ' : cl_S} {ts ts' : List Nat} {dc ds : Nat} (hS : MsF X Y σ σ' ts ts' dc ds) : ∀ b, pt ts b → ∀ j, j < 3 → σ'.1 b j = σ.1 b j := hS.2.2.2.2.2.2.1
theorem MsF.fR {X Y : Nat → Prop} {σ σ' : cl_S} {ts ts' : List Nat} {dc ds : Nat} (hS : MsF X Y σ σ' ts ts' dc ds) : ∀ b, pt ts b → ∀ j, 2 < j → j < 7 → σ'.2.2.1 b j = σ.2.2.1 b j := hS.2.2.2.2.2.2.2.1
theorem MsF.w {X Y : Nat → Prop} {σ σ' : cl_S} {ts ts' : List Nat} {dc ds : Nat} (hS : MsF X Y σ σ' ts ts' dc ds) : ∀ b, 324 < b → b < σ.2.2.2.2.1 → (σ.2.2.2.1 b).1 = 1 → σ'.1 b = σ.1 b := hS.2.2.2.2.2.2.2.2.1
theorem MsF.R31 {X Y : Nat → Prop} {σ σ' : cl_S} {ts ts' : List Nat} {dc ds : Nat} (hS : MsF X Y σ σ' ts ts' dc ds) : ∀ j, 3 < j → j < 8 → σ'.2.2.1 31 j = σ.2.2.1 31 j := hS.2.2.2.2.2.2.2.2.2.1
theorem MsF.rc {X Y : Nat → Prop} {σ σ' : cl_S} {ts ts' : List Nat} {dc ds : Nat} (hS : MsF X Y σ σ' ts ts' dc ds) : σ.2.2.2.2.2.1 + ts.length ≤ σ'.2.2.2.2.2.1 + ts'.length + dc := hS.2.2.2.2.2.2.2.2.2.2.1
theorem MsF.rs {X Y : Nat → Prop} {σ σ' : cl_S} {ts ts' : List Nat} {dc ds : Nat} (hS : MsF X Y σ σ' ts ts' dc ds) : σ.2.2.2.2.2.2 + 16 * ts.length ≤ σ'.2.2.2.2.2.2 + 16 * ts'.length + ds := hS.2.2.2.2.2.2.2.2.2.2.2
variable {X Y : Nat → Prop} {ts ts' ts'' : List Nat} {dc ds dc' ds' : Nat}
theorem TFr.ms (h : TFr σ σ' ts ts' dc ds) : MsF X Y σ σ' ts ts' dc ds := ⟨fun b _ h1 h2 => h.I b h1 h2, h.L, fun b _ h1 h2 => h.R b h1 h2, h.T, h.n, h.sub, h.fI, h.fR, h.w, h.R31, h.rc, h.rs⟩
theorem MsF.trans {σ'' : cl_S} (h : MsF X Y σ σ' ts ts' dc ds) (k : MsF X Y σ' σ'' ts' ts'' dc' ds') : MsF X Y σ σ'' ts ts'' (dc + dc') (ds + ds') := by
  refine ⟨fun b a1 a2 a3 => (k.I b a1 a2 a3).trans (h.I b a1 a2 a3), fun b a1 => (k.L b a1).trans (h.L b a1), fun b a1 a2 a3 => (k.R b a1 a2 a3).trans (h.R b a1 a2 a3), fun b hb => (k.T b (Nat.lt_of_lt_of_le hb h.n)).trans (h.T b hb), Nat.le_trans h.n k.n, fun a ha => k.sub a (h.sub a ha), fun b hb j hj => (k.fI b (pt_sub h.sub hb) j hj).trans (h.fI b hb j hj), fun b hb j h1 h2 => (k.fR b (pt_sub h.sub hb) j h1 h2).trans (h.fR b hb j h1 h2), fun b h1 h2 h3 => ?_, fun j h1 h2 => (k.R31 j h1 h2).trans (h.R31 j h1 h2), ?_, ?_⟩
  · rw [k.w b h1 (Nat.lt_of_lt_of_le h2 h.n) (by rw [h.T b h2]; exact h3), h.w b h1 h2 h3]
  · have := h.rc; have := k.rc; omega
  · have := h.rs; have := k.rs; omega
theorem MsF.wk {X' Y' : Nat → Prop} (h : MsF X Y σ σ' ts ts' dc ds) (hX : ∀ b, X b → X' b) (hY : ∀ b, Y b → Y' b) (h1 : dc ≤ dc') (h2 : ds ≤ ds') : MsF X' Y' σ σ' ts ts' dc' ds' := ⟨fun b a => h.I b (fun q => a (hX b q)), h.L, fun b a => h.R b (fun q => a (hY b q)), h.T, h.n, h.sub, h.fI, h.fR, h.w, h.R31, by have := h.rc; omega, by have := h.rs; omega⟩
/-- a write to the rows that may change -/
theorem MsF.wr (hX : ∀ b, ¬ X b → σ'.1 b = σ.1 b) (hY : ∀ b, ¬ Y b → σ'.2.2.1 b = σ.2.2.1 b) (hL : σ'.2.1 = σ.2.1) (hT : σ'.2.2.2 = σ.2.2.2) (x1 : ∀ b, X b → 37 < b ∧ b < 325) (y1 : ∀ b, Y b → 37 < b ∧ b < 325) (C : CSt0 σ ts) : MsF X Y σ σ' ts ts 0 0 := by
  have lo : ∀ b, pt ts b → ¬ X b ∧ ¬ Y b := by
    intro b hb
    have : b < 38 ∨ 324 < b := by
      rcases hb with rfl | hb
      · omega
      · have := C.mem b hb; omega
    exact ⟨fun q => by have := x1 b q; omega, fun q => by have := y1 b q; omega⟩
  refine ⟨fun b a _ _ => hX b a, fun b _ => by rw [hL], fun b a _ _ => hY b a, fun b _ => by rw [hT], by rw [hT]; exact Nat.le_refl _, fun _ h => h, fun b hb j _ => by rw [hX b (lo b hb).1], fun b hb j _ _ => by rw [hY b (lo b hb).2], fun b h1 _ _ => hX b (fun q => by have := x1 b q; omega), fun j _ _ => by rw [hY 31 (fun q => by have := y1 31 q; omega)], by rw [hT]; exact Nat.le_refl _, by rw [hT]; exact Nat.le_refl _⟩
theorem MsF.wd (F : MsF X Y σ σ' ts ts' dc ds) {a n : Nat} {f : Nat → Int32} (ha : a ∈ ts) (h : wdL σ a n f) : wdL σ' a n f := by
  obtain ⟨w, h1, h2, h3, h4, h5⟩ := h
  refine ⟨w, by rw [F.fR a (Or.inr ha) 6 (by omega) (by omega)]; exact h1, h2, Nat.lt_of_lt_of_le h3 F.n, by rw [F.T w h3]; exact h4, ?_⟩
  intro j hj
  rw [F.w w h2 h3 (by rw [h4])]; exact h5 j hj
end Z2_GJ
