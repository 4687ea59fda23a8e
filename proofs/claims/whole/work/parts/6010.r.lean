section Z2_R
/-! LAYER 2: the relation of the two states -/
abbrev Wd : Type := List Nat × (Nat → Nat) × Nat × Nat × Nat × Nat × Nat × (Nat → Nat) × (Nat → Nat) × (Nat → Nat) × (Nat → Nat) × (Nat → Nat) × (Nat → Nat) × (Nat → Nat) × (Nat → Nat) × (Nat → Nat) × Nat
def Wd.ts (W : Wd) : List Nat := W.1
def Wd.tm (W : Wd) : Nat → Nat := W.2.1
def Wd.N (W : Wd) : Nat := W.2.2.1
def Wd.cf (W : Wd) : Nat := W.2.2.2.1
def Wd.np (W : Wd) : Nat := W.2.2.2.2.1
def Wd.nc (W : Wd) : Nat := W.2.2.2.2.2.1
def Wd.ns (W : Wd) : Nat := W.2.2.2.2.2.2.1
def Wd.bs (W : Wd) : Nat → Nat := W.2.2.2.2.2.2.2.1
def Wd.sz (W : Wd) : Nat → Nat := W.2.2.2.2.2.2.2.2.1
def Wd.ar (W : Wd) : Nat → Nat := W.2.2.2.2.2.2.2.2.2.1
def Wd.ad (W : Wd) : Nat → Nat := W.2.2.2.2.2.2.2.2.2.2.1
def Wd.fr (W : Wd) : Nat → Nat := W.2.2.2.2.2.2.2.2.2.2.2.1
def Wd.to (W : Wd) : Nat → Nat := W.2.2.2.2.2.2.2.2.2.2.2.2.1
def Wd.ln (W : Wd) : Nat → Nat := W.2.2.2.2.2.2.2.2.2.2.2.2.2.1
def Wd.who (W : Wd) : Nat → Nat := W.2.2.2.2.2.2.2.2.2.2.2.2.2.2.1
def Wd.stp (W : Wd) : Nat → Nat := W.2.2.2.2.2.2.2.2.2.2.2.2.2.2.2.1
def Wd.n0 (W : Wd) : Nat := W.2.2.2.2.2.2.2.2.2.2.2.2.2.2.2.2
/-- a TERM on both sides -/
def TV (W : Wd) (r : Option Nat) (v : Int32) : Prop := ∃ t, t < W.N ∧ v = nI t ∧ r = some (W.tm t)
/-- a TERM or none -/
def TO (W : Wd) (r : Option Nat) (v : Int32) : Prop := (r = some 33 ∧ v = -1) ∨ TV W r v
/-- a word or a TERM -/
def OV (W : Wd) (w : Int32) (r : Option Nat) (v f : Int32) : Prop := (f = 0 ∧ r = some 33 ∧ w = v) ∨ (f = 1 ∧ w = 0 ∧ TV W r v)
/-- more terms, the same config -/
def Wd.le (W W' : Wd) : Prop := (∀ a ∈ W.ts, a ∈ W'.ts) ∧ (∀ t, t < W.N → W'.tm t = W.tm t) ∧ (W.N ≤ W'.N) ∧ (W'.cf = W.cf) ∧ (W'.np = W.np) ∧ (W'.nc = W.nc) ∧ (W'.ns = W.ns) ∧ (W'.bs = W.bs) ∧ (W'.sz = W.sz) ∧ (W'.ar = W.ar) ∧ (W'.ad = W.ad) ∧ (W'.fr = W.fr) ∧ (W'.to = W.to) ∧ (W'.ln = W.ln) ∧ (W'.who = W.who) ∧ (W'.stp = W.stp) ∧ (W'.n0 = W.n0)
theorem Wd.le.ts {W W' : Wd} (hS : Wd.le W W') : ∀ a ∈ W.ts, a ∈ W'.ts := hS.1
theorem Wd.le.tm {W W' : Wd} (hS : Wd.le W W') : ∀ t, t < W.N → W'.tm t = W.tm t := hS.2.1
theorem Wd.le.N {W W' : Wd} (hS : Wd.le W W') : W.N ≤ W'.N := hS.2.2.1
theorem Wd.le.cf {W W' : Wd} (hS : Wd.le W W') : W'.cf = W.cf := hS.2.2.2.1
theorem Wd.le.np {W W' : Wd} (hS : Wd.le W W') : W'.np = W.np := hS.2.2.2.2.1
theorem Wd.le.nc {W W' : Wd} (hS : Wd.le W W') : W'.nc = W.nc := hS.2.2.2.2.2.1
theorem Wd.le.ns {W W' : Wd} (hS : Wd.le W W') : W'.ns = W.ns := hS.2.2.2.2.2.2.1
theorem Wd.le.bs {W W' : Wd} (hS : Wd.le W W') : W'.bs = W.bs := hS.2.2.2.2.2.2.2.1
theorem Wd.le.sz {W W' : Wd} (hS : Wd.le W W') : W'.sz = W.sz := hS.2.2.2.2.2.2.2.2.1
theorem Wd.le.ar {W W' : Wd} (hS : Wd.le W W') : W'.ar = W.ar := hS.2.2.2.2.2.2.2.2.2.1
theorem Wd.le.ad {W W' : Wd} (hS : Wd.le W W') : W'.ad = W.ad := hS.2.2.2.2.2.2.2.2.2.2.1
theorem Wd.le.fr {W W' : Wd} (hS : Wd.le W W') : W'.fr = W.fr := hS.2.2.2.2.2.2.2.2.2.2.2.1
theorem Wd.le.to {W W' : Wd} (hS : Wd.le W W') : W'.to = W.to := hS.2.2.2.2.2.2.2.2.2.2.2.2.1
theorem Wd.le.ln {W W' : Wd} (hS : Wd.le W W') : W'.ln = W.ln := hS.2.2.2.2.2.2.2.2.2.2.2.2.2.1
theorem Wd.le.who {W W' : Wd} (hS : Wd.le W W') : W'.who = W.who := hS.2.2.2.2.2.2.2.2.2.2.2.2.2.2.1
theorem Wd.le.stp {W W' : Wd} (hS : Wd.le W W') : W'.stp = W.stp := hS.2.2.2.2.2.2.2.2.2.2.2.2.2.2.2.1
theorem Wd.le.n0 {W W' : Wd} (hS : Wd.le W W') : W'.n0 = W.n0 := hS.2.2.2.2.2.2.2.2.2.2.2.2.2.2.2.2
theorem Wd.le.refl (W : Wd) : W.le W := ⟨fun _ h => h, fun _ _ => rfl, Nat.le_refl _, rfl, rfl, rfl, rfl, rfl, rfl, rfl, rfl, rfl, rfl, rfl, rfl, rfl, rfl⟩
theorem Wd.le.trans {W W' W'' : Wd} (h : W.le W') (k : W'.le W'') : W.le W'' := ⟨fun a ha => k.ts a (h.ts a ha), fun t ht => (k.tm t (Nat.lt_of_lt_of_le ht h.N)).trans (h.tm t ht), Nat.le_trans h.N k.N, k.cf.trans h.cf, k.np.trans h.np, k.nc.trans h.nc, k.ns.trans h.ns, k.bs.trans h.bs, k.sz.trans h.sz, k.ar.trans h.ar, k.ad.trans h.ad, k.fr.trans h.fr, k.to.trans h.to, k.ln.trans h.ln, k.who.trans h.who, k.stp.trans h.stp, k.n0.trans h.n0⟩
theorem TV.le {W W' : Wd} (h : W.le W') {r : Option Nat} {v : Int32} (k : TV W r v) : TV W' r v := by
  obtain ⟨t, ht, e1, e2⟩ := k
  exact ⟨t, Nat.lt_of_lt_of_le ht h.N, e1, by rw [h.tm t ht]; exact e2⟩
theorem TO.le {W W' : Wd} (h : W.le W') {r : Option Nat} {v : Int32} (k : TO W r v) : TO W' r v := k.imp id (fun q => q.le h)
theorem OV.le {W W' : Wd} (h : W.le W') {w : Int32} {r : Option Nat} {v f : Int32} (k : OV W w r v f) : OV W' w r v f := k.imp id (fun q => ⟨q.1, q.2.1, q.2.2.le h⟩)
/-- what is counted on both sides -/
def Cnt (x y : Int32) (lim n : Nat) : Prop := n ≤ lim ∧ x = nI n ∧ y = nI n
def PCore (W : Wd) (s p : Nat) (σ : cl_S) (ρ : rf_S) : Prop := (σ.1 (83 + 135 * s + 12 * p) 3 = nI p) ∧ (σ.1 (84 + 135 * s + 12 * p) 2 = nI (W.sz p)) ∧ (σ.1 (84 + 135 * s + 12 * p) 3 = ρ.1 54 (8 * s + p)) ∧ (σ.1 (84 + 135 * s + 12 * p) 4 = ρ.1 58 (8 * s + p)) ∧ (σ.1 (84 + 135 * s + 12 * p) 5 = ρ.1 56 (8 * s + p)) ∧ (σ.1 (84 + 135 * s + 12 * p) 6 = ρ.1 57 (8 * s + p)) ∧ (σ.1 (84 + 135 * s + 12 * p) 7 = ρ.1 55 (8 * s + p)) ∧ (σ.1 (84 + 135 * s + 12 * p) 8 = ρ.1 59 (8 * s + p)) ∧ (∀ r, r < 16 → σ.1 (86 + 135 * s + 12 * p) r = ρ.1 53 (16 * (8 * s + p) + r)) ∧ (∀ i, i < W.sz p → σ.1 (85 + 135 * s + 12 * p) i = ρ.1 52 (8192 * s + W.bs p + i))
theorem PCore.ix {W : Wd} {s p : Nat} {σ : cl_S} {ρ : rf_S} (hS : PCore W s p σ ρ) : σ.1 (83 + 135 * s + 12 * p) 3 = nI p := hS.1
theorem PCore.sz {W : Wd} {s p : Nat} {σ : cl_S} {ρ : rf_S} (hS : PCore W s p σ ρ) : σ.1 (84 + 135 * s + 12 * p) 2 = nI (W.sz p) := hS.2.1
theorem PCore.pc {W : Wd} {s p : Nat} {σ : cl_S} {ρ : rf_S} (hS : PCore W s p σ ρ) : σ.1 (84 + 135 * s + 12 * p) 3 = ρ.1 54 (8 * s + p) := hS.2.2.1
theorem PCore.hd {W : Wd} {s p : Nat} {σ : cl_S} {ρ : rf_S} (hS : PCore W s p σ ρ) : σ.1 (84 + 135 * s + 12 * p) 4 = ρ.1 58 (8 * s + p) := hS.2.2.2.1
theorem PCore.ca {W : Wd} {s p : Nat} {σ : cl_S} {ρ : rf_S} (hS : PCore W s p σ ρ) : σ.1 (84 + 135 * s + 12 * p) 5 = ρ.1 56 (8 * s + p) := hS.2.2.2.2.1
theorem PCore.wh {W : Wd} {s p : Nat} {σ : cl_S} {ρ : rf_S} (hS : PCore W s p σ ρ) : σ.1 (84 + 135 * s + 12 * p) 6 = ρ.1 57 (8 * s + p) := hS.2.2.2.2.2.1
theorem PCore.ha {W : Wd} {s p : Nat} {σ : cl_S} {ρ : rf_S} (hS : PCore W s p σ ρ) : σ.1 (84 + 135 * s + 12 * p) 7 = ρ.1 55 (8 * s + p) := hS.2.2.2.2.2.2.1
theorem PCore.ih {W : Wd} {s p : Nat} {σ : cl_S} {ρ : rf_S} (hS : PCore W s p σ ρ) : σ.1 (84 + 135 * s + 12 * p) 8 = ρ.1 59 (8 * s + p) := hS.2.2.2.2.2.2.2.1
theorem PCore.rg {W : Wd} {s p : Nat} {σ : cl_S} {ρ : rf_S} (hS : PCore W s p σ ρ) : ∀ r, r < 16 → σ.1 (86 + 135 * s + 12 * p) r = ρ.1 53 (16 * (8 * s + p) + r) := hS.2.2.2.2.2.2.2.2.1
theorem PCore.me {W : Wd} {s p : Nat} {σ : cl_S} {ρ : rf_S} (hS : PCore W s p σ ρ) : ∀ i, i < W.sz p → σ.1 (85 + 135 * s + 12 * p) i = ρ.1 52 (8192 * s + W.bs p + i) := hS.2.2.2.2.2.2.2.2.2
def PTab (W : Wd) (s p : Nat) (σ : cl_S) (ρ : rf_S) : Prop := (∃ h, TabR σ W.tm W.N (92 + 135 * s + 12 * p) 100 256 (fun j => ρ.1 60 (100 * (8 * s + p) + j)) (ρ.1 61 (8 * s + p)) h ∧ ∃ k m, k ≤ 100 ∧ m ≤ 100 ∧ ρ.1 70 (8 * s + p) = nI k ∧ σ.1 (83 + 135 * s + 12 * p) 13 = nI k ∧ ρ.1 43 p = nI m ∧ (s = 0 → k = m) ∧ σ.1 (83 + 135 * s + 12 * p) 12 = nI (max k m) ∧ (∀ i, i < m → TV W (σ.2.2.1 (91 + 135 * s + 12 * p) i) (ρ.1 42 (100 * p + i))) ∧ (∀ i, i < max k m → ∃ a, a ∈ W.ts ∧ σ.2.2.1 (91 + 135 * s + 12 * p) i = some a) ∧ (∀ i j, i < j → j < max k m → σ.2.2.1 (91 + 135 * s + 12 * p) i ≠ σ.2.2.1 (91 + 135 * s + 12 * p) j) ∧ (∀ i, i < k → ∃ j, j < h ∧ σ.2.2.1 (93 + 135 * s + 12 * p) (j + 1) = σ.2.2.1 (91 + 135 * s + 12 * p) i)) ∧ (σ.1 (92 + 135 * s + 12 * p) 2 = 0)
theorem PTab.tb {W : Wd} {s p : Nat} {σ : cl_S} {ρ : rf_S} (hS : PTab W s p σ ρ) : ∃ h, TabR σ W.tm W.N (92 + 135 * s + 12 * p) 100 256 (fun j => ρ.1 60 (100 * (8 * s + p) + j)) (ρ.1 61 (8 * s + p)) h ∧ ∃ k m, k ≤ 100 ∧ m ≤ 100 ∧ ρ.1 70 (8 * s + p) = nI k ∧ σ.1 (83 + 135 * s + 12 * p) 13 = nI k ∧ ρ.1 43 p = nI m ∧ (s = 0 → k = m) ∧ σ.1 (83 + 135 * s + 12 * p) 12 = nI (max k m) ∧ (∀ i, i < m → TV W (σ.2.2.1 (91 + 135 * s + 12 * p) i) (ρ.1 42 (100 * p + i))) ∧ (∀ i, i < max k m → ∃ a, a ∈ W.ts ∧ σ.2.2.1 (91 + 135 * s + 12 * p) i = some a) ∧ (∀ i j, i < j → j < max k m → σ.2.2.1 (91 + 135 * s + 12 * p) i ≠ σ.2.2.1 (91 + 135 * s + 12 * p) j) ∧ (∀ i, i < k → ∃ j, j < h ∧ σ.2.2.1 (93 + 135 * s + 12 * p) (j + 1) = σ.2.2.1 (91 + 135 * s + 12 * p) i) := hS.1
theorem PTab.tf {W : Wd} {s p : Nat} {σ : cl_S} {ρ : rf_S} (hS : PTab W s p σ ρ) : σ.1 (92 + 135 * s + 12 * p) 2 = 0 := hS.2
def POut (W : Wd) (s p : Nat) (σ : cl_S) (ρ : rf_S) : Prop := ∃ n, Cnt (σ.1 (83 + 135 * s + 12 * p) 6) (ρ.1 64 (8 * s + p)) 200 n ∧ ∀ j, j < n → OV W (σ.1 (87 + 135 * s + 12 * p) j) (σ.2.2.1 (88 + 135 * s + 12 * p) j) (ρ.1 62 (200 * (8 * s + p) + j)) (ρ.1 63 (200 * (8 * s + p) + j))
def PWw (s p : Nat) (σ : cl_S) (ρ : rf_S) : Prop := ∃ n, Cnt (σ.1 (83 + 135 * s + 12 * p) 8) (ρ.1 66 (8 * s + p)) 64 n ∧ ∀ j, j < n → σ.1 (89 + 135 * s + 12 * p) j = ρ.1 65 (64 * (8 * s + p) + j)
def PWt (W : Wd) (s p : Nat) (σ : cl_S) (ρ : rf_S) : Prop := ∃ n, Cnt (σ.1 (83 + 135 * s + 12 * p) 10) (ρ.1 68 (8 * s + p)) 64 n ∧ ∀ j, j < n → TV W (σ.2.2.1 (90 + 135 * s + 12 * p) j) (ρ.1 67 (64 * (8 * s + p) + j))
def PSe (s p : Nat) (σ : cl_S) (ρ : rf_S) : Prop := ∃ n, Cnt (σ.1 (83 + 135 * s + 12 * p) 14) (ρ.1 69 (8 * s + p)) 40 n
def PMs (W : Wd) (s p : Nat) (σ : cl_S) (ρ : rf_S) : Prop := (TV W (σ.2.2.1 (83 + 135 * s + 12 * p) 15) (ρ.1 38 p) ∧ ∃ a, σ.2.2.1 (83 + 135 * s + 12 * p) 15 = some a ∧ σ.1 a 0 = nI 1 ∧ ∃ w, σ.2.2.1 a 6 = some w ∧ w < σ.2.2.2.2.1 ∧ (σ.2.2.2.1 w).2 ≤ W.sz p) ∧ (TV W (σ.2.2.1 (83 + 135 * s + 12 * p) 16) (ρ.1 39 p)) ∧ (∃ a, a ∈ W.ts ∧ σ.2.2.1 (83 + 135 * s + 12 * p) 17 = some a ∧ σ.1 a 0 = nI 9 ∧ σ.2.2.1 a 3 = some 34 ∧ σ.2.2.1 a 4 = σ.2.2.1 (83 + 135 * s + 12 * p) 16)
theorem PMs.im {W : Wd} {s p : Nat} {σ : cl_S} {ρ : rf_S} (hS : PMs W s p σ ρ) : TV W (σ.2.2.1 (83 + 135 * s + 12 * p) 15) (ρ.1 38 p) ∧ ∃ a, σ.2.2.1 (83 + 135 * s + 12 * p) 15 = some a ∧ σ.1 a 0 = nI 1 ∧ ∃ w, σ.2.2.1 a 6 = some w ∧ w < σ.2.2.2.2.1 ∧ (σ.2.2.2.1 w).2 ≤ W.sz p := hS.1
theorem PMs.ms {W : Wd} {s p : Nat} {σ : cl_S} {ρ : rf_S} (hS : PMs W s p σ ρ) : TV W (σ.2.2.1 (83 + 135 * s + 12 * p) 16) (ρ.1 39 p) := hS.2.1
theorem PMs.sk {W : Wd} {s p : Nat} {σ : cl_S} {ρ : rf_S} (hS : PMs W s p σ ρ) : ∃ a, a ∈ W.ts ∧ σ.2.2.1 (83 + 135 * s + 12 * p) 17 = some a ∧ σ.1 a 0 = nI 9 ∧ σ.2.2.1 a 3 = some 34 ∧ σ.2.2.1 a 4 = σ.2.2.1 (83 + 135 * s + 12 * p) 16 := hS.2.2
def PRel (W : Wd) (s p : Nat) (σ : cl_S) (ρ : rf_S) : Prop := (PCore W s p σ ρ) ∧ (PTab W s p σ ρ) ∧ (POut W s p σ ρ) ∧ (PWw s p σ ρ) ∧ (PWt W s p σ ρ) ∧ (PSe s p σ ρ) ∧ (PMs W s p σ ρ)
theorem PRel.co {W : Wd} {s p : Nat} {σ : cl_S} {ρ : rf_S} (hS : PRel W s p σ ρ) : PCore W s p σ ρ := hS.1
theorem PRel.tb {W : Wd} {s p : Nat} {σ : cl_S} {ρ : rf_S} (hS : PRel W s p σ ρ) : PTab W s p σ ρ := hS.2.1
theorem PRel.ou {W : Wd} {s p : Nat} {σ : cl_S} {ρ : rf_S} (hS : PRel W s p σ ρ) : POut W s p σ ρ := hS.2.2.1
theorem PRel.ww {W : Wd} {s p : Nat} {σ : cl_S} {ρ : rf_S} (hS : PRel W s p σ ρ) : PWw s p σ ρ := hS.2.2.2.1
theorem PRel.wt {W : Wd} {s p : Nat} {σ : cl_S} {ρ : rf_S} (hS : PRel W s p σ ρ) : PWt W s p σ ρ := hS.2.2.2.2.1
theorem PRel.se {W : Wd} {s p : Nat} {σ : cl_S} {ρ : rf_S} (hS : PRel W s p σ ρ) : PSe s p σ ρ := hS.2.2.2.2.2.1
theorem PRel.ms {W : Wd} {s p : Nat} {σ : cl_S} {ρ : rf_S} (hS : PRel W s p σ ρ) : PMs W s p σ ρ := hS.2.2.2.2.2.2
/-- immutable parts of terms: how the two states and worlds go on -/
def TGo (W W' : Wd) (σ σ' : cl_S) : Prop := (W.le W') ∧ (∀ b, pt W.ts b → ∀ j, j < 3 → σ'.1 b j = σ.1 b j) ∧ (∀ b, pt W.ts b → ∀ j, 2 < j → j < 7 → σ'.2.2.1 b j = σ.2.2.1 b j) ∧ (∀ t, t < W.N → W.tm t ∈ W.ts) ∧ (∀ b, b < σ.2.2.2.2.1 → σ'.2.2.2.1 b = σ.2.2.2.1 b) ∧ (σ.2.2.2.2.1 ≤ σ'.2.2.2.2.1)
theorem TGo.le {W W' : Wd} {σ σ' : cl_S} (hS : TGo W W' σ σ') : W.le W' := hS.1
theorem TGo.fI {W W' : Wd} {σ σ' : cl_S} (hS : TGo W W' σ σ') : ∀ b, pt W.ts b → ∀ j, j < 3 → σ'.1 b j = σ.1 b j := hS.2.1
theorem TGo.fR {W W' : Wd} {σ σ' : cl_S} (hS : TGo W W' σ σ') : ∀ b, pt W.ts b → ∀ j, 2 < j → j < 7 → σ'.2.2.1 b j = σ.2.2.1 b j := hS.2.2.1
theorem TGo.tm {W W' : Wd} {σ σ' : cl_S} (hS : TGo W W' σ σ') : ∀ t, t < W.N → W.tm t ∈ W.ts := hS.2.2.2.1
theorem TGo.T {W W' : Wd} {σ σ' : cl_S} (hS : TGo W W' σ σ') : ∀ b, b < σ.2.2.2.2.1 → σ'.2.2.2.1 b = σ.2.2.2.1 b := hS.2.2.2.2.1
theorem TGo.n {W W' : Wd} {σ σ' : cl_S} (hS : TGo W W' σ σ') : σ.2.2.2.2.1 ≤ σ'.2.2.2.2.1 := hS.2.2.2.2.2
theorem TGo.refl {W : Wd} {σ : cl_S} (h : ∀ t, t < W.N → W.tm t ∈ W.ts) : TGo W W σ σ := ⟨Wd.le.refl W, fun _ _ _ _ => rfl, fun _ _ _ _ _ => rfl, h, fun _ _ => rfl, Nat.le_refl _⟩
theorem PCore.fr {W W' : Wd} {s p : Nat} {σ σ' : cl_S} {ρ ρ' : rf_S} (h : PCore W s p σ ρ) (hs : W'.sz = W.sz) (hb : W'.bs = W.bs)
    (h0 : σ'.1 (83 + 135 * s + 12 * p) 3 = σ.1 (83 + 135 * s + 12 * p) 3) (h1 : σ'.1 (84 + 135 * s + 12 * p) = σ.1 (84 + 135 * s + 12 * p)) (h2 : σ'.1 (85 + 135 * s + 12 * p) = σ.1 (85 + 135 * s + 12 * p)) (h3 : σ'.1 (86 + 135 * s + 12 * p) = σ.1 (86 + 135 * s + 12 * p))
    (q1 : ∀ c, 53 < c → c < 60 → ρ'.1 c (8 * s + p) = ρ.1 c (8 * s + p)) (q2 : ∀ r, r < 16 → ρ'.1 53 (16 * (8 * s + p) + r) = ρ.1 53 (16 * (8 * s + p) + r)) (q3 : ∀ i, i < W.sz p → ρ'.1 52 (8192 * s + W.bs p + i) = ρ.1 52 (8192 * s + W.bs p + i)) : PCore W' s p σ' ρ' := by
  refine ⟨?_, ?_, ?_, ?_, ?_, ?_, ?_, ?_, ?_, ?_⟩
  · rw [h0]; exact h.ix
  · rw [h1, hs]; exact h.sz
  · rw [h1, q1 54 (by omega) (by omega)]; exact h.pc
  · rw [h1, q1 58 (by omega) (by omega)]; exact h.hd
  · rw [h1, q1 56 (by omega) (by omega)]; exact h.ca
  · rw [h1, q1 57 (by omega) (by omega)]; exact h.wh
  · rw [h1, q1 55 (by omega) (by omega)]; exact h.ha
  · rw [h1, q1 59 (by omega) (by omega)]; exact h.ih
  · intro r hr; rw [h3, q2 r hr]; exact h.rg r hr
  · intro i hi; rw [hs] at hi; rw [h2, hb, q3 i hi]; exact h.me i hi
theorem TabR.fr {W W' : Wd} {σ σ' : cl_S} {a lim sl h : Nat} {tb tb' : Nat → Int32} {cnt cnt' : Int32} (B : TabR σ W.tm W.N a lim sl tb cnt h) (G : TGo W W' σ σ') (h1 : σ'.1 a = σ.1 a) (h2 : σ'.2.2.1 (a + 1) = σ.2.2.1 (a + 1)) (h3 : σ'.1 (a + 2) = σ.1 (a + 2)) (q1 : ∀ j, j < lim → tb' j = tb j) (q2 : cnt' = cnt) : TabR σ' W'.tm W'.N a lim sl tb' cnt' h := by
  have hl := B.hl
  refine ⟨?_, ?_, ?_, ?_, ?_, ?_, ?_, ?_, ?_, ?_, ?_⟩
  · exact B.sh
  · exact B.cs
  · exact B.hl
  · rw [h1]; exact B.cc
  · rw [q2]; exact B.cq
  · rw [h1]; exact B.lm
  · intro j hj
    obtain ⟨t, ht, e1, e2⟩ := B.en j hj
    exact ⟨t, Nat.lt_of_lt_of_le ht G.le.N, by rw [q1 j (by omega)]; exact e1, by rw [h2, G.le.tm t ht]; exact e2⟩
  · intro i j hij hj; rw [q1 i (by omega), q1 j (by omega)]; exact B.nd i j hij hj
  · rw [h3]; exact B.sv
  · rw [h3]; exact B.si
  · intro j hj
    obtain ⟨x, s, d, ex, hs, es, r⟩ := B.po j hj
    obtain ⟨t, ht, e1, e2⟩ := B.en j hj
    refine ⟨x, s, d, by rw [h2]; exact ex, hs, ?_, by rw [h3]; exact r⟩
    rw [e2] at ex
    cases ex
    rw [G.fI _ (Or.inr (G.tm t ht)) 2 (by omega)]; exact es
theorem PTab.fr {W W' : Wd} {s p : Nat} {σ σ' : cl_S} {ρ ρ' : rf_S} (h : PTab W s p σ ρ) (G : TGo W W' σ σ')
    (h0 : σ'.1 (83 + 135 * s + 12 * p) 12 = σ.1 (83 + 135 * s + 12 * p) 12) (h0' : σ'.1 (83 + 135 * s + 12 * p) 13 = σ.1 (83 + 135 * s + 12 * p) 13) (h1 : σ'.1 (92 + 135 * s + 12 * p) = σ.1 (92 + 135 * s + 12 * p)) (h2 : σ'.2.2.1 (93 + 135 * s + 12 * p) = σ.2.2.1 (93 + 135 * s + 12 * p)) (h3 : σ'.1 (94 + 135 * s + 12 * p) = σ.1 (94 + 135 * s + 12 * p)) (h4 : σ'.2.2.1 (91 + 135 * s + 12 * p) = σ.2.2.1 (91 + 135 * s + 12 * p))
    (q1 : ∀ j, j < 100 → ρ'.1 60 (100 * (8 * s + p) + j) = ρ.1 60 (100 * (8 * s + p) + j)) (q2 : ρ'.1 61 (8 * s + p) = ρ.1 61 (8 * s + p)) (q3 : ρ'.1 70 (8 * s + p) = ρ.1 70 (8 * s + p)) (q4 : ρ'.1 43 p = ρ.1 43 p) (q5 : ∀ i, i < 100 → ρ'.1 42 (100 * p + i) = ρ.1 42 (100 * p + i)) : PTab W' s p σ' ρ' := by
  obtain ⟨⟨hh, B, k, m, hk, hm, e1, e2, e3, e4, e5, e6, e7, e8, e9⟩, tf⟩ := h
  refine ⟨⟨hh, ?_, k, m, hk, hm, by rw [q3]; exact e1, by rw [h0']; exact e2, by rw [q4]; exact e3, e4, by rw [h0]; exact e5, ?_, ?_, by rw [h4]; exact e8, by rw [h4, h2]; exact e9⟩, by rw [h1]; exact tf⟩
  · exact B.fr G h1 (by rw [show 92 + 135 * s + 12 * p + 1 = 93 + 135 * s + 12 * p by omega]; exact h2) (by rw [show 92 + 135 * s + 12 * p + 2 = 94 + 135 * s + 12 * p by omega]; exact h3) q1 q2
  · intro i hi; rw [h4, q5 i (by omega)]; exact (e6 i hi).le G.le
  · intro i hi; obtain ⟨a, ha, ea⟩ := e7 i hi; exact ⟨a, G.le.ts a ha, by rw [h4]; exact ea⟩
theorem POut.fr {W W' : Wd} {s p : Nat} {σ σ' : cl_S} {ρ ρ' : rf_S} (h : POut W s p σ ρ) (G : W.le W')
    (h0 : σ'.1 (83 + 135 * s + 12 * p) 6 = σ.1 (83 + 135 * s + 12 * p) 6) (h1 : σ'.1 (87 + 135 * s + 12 * p) = σ.1 (87 + 135 * s + 12 * p)) (h2 : σ'.2.2.1 (88 + 135 * s + 12 * p) = σ.2.2.1 (88 + 135 * s + 12 * p))
    (q1 : ρ'.1 64 (8 * s + p) = ρ.1 64 (8 * s + p)) (q2 : ∀ c j, c = 62 ∨ c = 63 → j < 200 → ρ'.1 c (200 * (8 * s + p) + j) = ρ.1 c (200 * (8 * s + p) + j)) : POut W' s p σ' ρ' := by
  obtain ⟨n, ⟨hn, e1, e2⟩, e3⟩ := h
  refine ⟨n, ⟨hn, by rw [h0]; exact e1, by rw [q1]; exact e2⟩, fun j hj => ?_⟩
  rw [h1, h2, q2 62 j (by omega) (by omega), q2 63 j (by omega) (by omega)]
  exact (e3 j hj).le G
theorem PWw.fr {s p : Nat} {σ σ' : cl_S} {ρ ρ' : rf_S} (h : PWw s p σ ρ)
    (h0 : σ'.1 (83 + 135 * s + 12 * p) 8 = σ.1 (83 + 135 * s + 12 * p) 8) (h1 : σ'.1 (89 + 135 * s + 12 * p) = σ.1 (89 + 135 * s + 12 * p))
    (q1 : ρ'.1 66 (8 * s + p) = ρ.1 66 (8 * s + p)) (q2 : ∀ j, j < 64 → ρ'.1 65 (64 * (8 * s + p) + j) = ρ.1 65 (64 * (8 * s + p) + j)) : PWw s p σ' ρ' := by
  obtain ⟨n, ⟨hn, e1, e2⟩, e3⟩ := h
  refine ⟨n, ⟨hn, by rw [h0]; exact e1, by rw [q1]; exact e2⟩, fun j hj => ?_⟩
  rw [h1, q2 j (by omega)]
  exact e3 j hj
theorem PWt.fr {W W' : Wd} {s p : Nat} {σ σ' : cl_S} {ρ ρ' : rf_S} (h : PWt W s p σ ρ) (G : W.le W')
    (h0 : σ'.1 (83 + 135 * s + 12 * p) 10 = σ.1 (83 + 135 * s + 12 * p) 10) (h1 : σ'.2.2.1 (90 + 135 * s + 12 * p) = σ.2.2.1 (90 + 135 * s + 12 * p))
    (q1 : ρ'.1 68 (8 * s + p) = ρ.1 68 (8 * s + p)) (q2 : ∀ j, j < 64 → ρ'.1 67 (64 * (8 * s + p) + j) = ρ.1 67 (64 * (8 * s + p) + j)) : PWt W' s p σ' ρ' := by
  obtain ⟨n, ⟨hn, e1, e2⟩, e3⟩ := h
  refine ⟨n, ⟨hn, by rw [h0]; exact e1, by rw [q1]; exact e2⟩, fun j hj => ?_⟩
  rw [h1, q2 j (by omega)]
  exact (e3 j hj).le G
theorem PSe.fr {s p : Nat} {σ σ' : cl_S} {ρ ρ' : rf_S} (h : PSe s p σ ρ) (h0 : σ'.1 (83 + 135 * s + 12 * p) 14 = σ.1 (83 + 135 * s + 12 * p) 14) (q1 : ρ'.1 69 (8 * s + p) = ρ.1 69 (8 * s + p)) : PSe s p σ' ρ' := by
  obtain ⟨n, hn, e1, e2⟩ := h
  exact ⟨n, hn, by rw [h0]; exact e1, by rw [q1]; exact e2⟩
theorem PMs.fr {W W' : Wd} {s p : Nat} {σ σ' : cl_S} {ρ ρ' : rf_S} (h : PMs W s p σ ρ) (G : TGo W W' σ σ') (h0 : ∀ j, 14 < j → j < 18 → σ'.2.2.1 (83 + 135 * s + 12 * p) j = σ.2.2.1 (83 + 135 * s + 12 * p) j) (q1 : ρ'.1 38 p = ρ.1 38 p) (q2 : ρ'.1 39 p = ρ.1 39 p) : PMs W' s p σ' ρ' := by
  obtain ⟨⟨i1, a, i2, i3, w, i4, i5, i6⟩, ms, b, b1, b2, b3, b4, b5⟩ := h
  have ha : a ∈ W.ts := by
    obtain ⟨t, ht, -, e⟩ := i1
    rw [i2] at e
    cases e
    exact G.tm t ht
  refine ⟨?_, ?_, ?_⟩
  · rw [h0 15 (by omega) (by omega), q1]
    exact ⟨i1.le G.le, a, i2, by rw [G.fI a (Or.inr ha) 0 (by omega)]; exact i3, w, by rw [G.fR a (Or.inr ha) 6 (by omega) (by omega)]; exact i4, Nat.lt_of_lt_of_le i5 G.n, by rw [G.T w i5, G.le.sz]; exact i6⟩
  · rw [h0 16 (by omega) (by omega), q2]; exact ms.le G.le
  · rw [h0 16 (by omega) (by omega), h0 17 (by omega) (by omega)]
    exact ⟨b, G.le.ts b b1, b2, by rw [G.fI b (Or.inr b1) 0 (by omega)]; exact b3, by rw [G.fR b (Or.inr b1) 3 (by omega) (by omega)]; exact b4, by rw [G.fR b (Or.inr b1) 4 (by omega) (by omega)]; exact b5⟩
/-- the reference's places of a partition -/
def seg (W : Wd) (s p c j : Nat) : Prop := (53 < c ∧ c < 60 ∧ j = 8 * s + p) ∨ ((c = 61 ∨ c = 64 ∨ c = 66 ∨ c = 68 ∨ c = 69 ∨ c = 70) ∧ j = 8 * s + p) ∨ (c = 53 ∧ ∃ i, i < 16 ∧ j = 16 * (8 * s + p) + i) ∨ (c = 52 ∧ ∃ i, i < W.sz p ∧ j = 8192 * s + W.bs p + i) ∨ (c = 60 ∧ ∃ i, i < 100 ∧ j = 100 * (8 * s + p) + i) ∨ ((c = 62 ∨ c = 63) ∧ ∃ i, i < 200 ∧ j = 200 * (8 * s + p) + i) ∨ ((c = 65 ∨ c = 67) ∧ ∃ i, i < 64 ∧ j = 64 * (8 * s + p) + i) ∨ ((c = 38 ∨ c = 39 ∨ c = 43) ∧ j = p) ∨ (c = 42 ∧ ∃ i, i < 100 ∧ j = 100 * p + i)
theorem seg.co {W : Wd} {s p : Nat} (c : Nat) (h1 : 53 < c) (h2 : c < 60) : seg W s p c (8 * s + p) := Or.inl ⟨h1, h2, rfl⟩
theorem seg.ct {W : Wd} {s p : Nat} (c : Nat) (h : c = 61 ∨ c = 64 ∨ c = 66 ∨ c = 68 ∨ c = 69 ∨ c = 70) : seg W s p c (8 * s + p) := Or.inr (Or.inl ⟨h, rfl⟩)
theorem seg.rg {W : Wd} {s p : Nat} (i : Nat) (h : i < 16) : seg W s p 53 (16 * (8 * s + p) + i) := Or.inr (Or.inr (Or.inl ⟨rfl, i, h, rfl⟩))
theorem seg.me {W : Wd} {s p : Nat} (i : Nat) (h : i < W.sz p) : seg W s p 52 (8192 * s + W.bs p + i) := Or.inr (Or.inr (Or.inr (Or.inl ⟨rfl, i, h, rfl⟩)))
theorem seg.tb {W : Wd} {s p : Nat} (i : Nat) (h : i < 100) : seg W s p 60 (100 * (8 * s + p) + i) := Or.inr (Or.inr (Or.inr (Or.inr (Or.inl ⟨rfl, i, h, rfl⟩))))
theorem seg.ou {W : Wd} {s p : Nat} (c i : Nat) (hc : c = 62 ∨ c = 63) (h : i < 200) : seg W s p c (200 * (8 * s + p) + i) := Or.inr (Or.inr (Or.inr (Or.inr (Or.inr (Or.inl ⟨hc, i, h, rfl⟩)))))
theorem seg.wa {W : Wd} {s p : Nat} (c i : Nat) (hc : c = 65 ∨ c = 67) (h : i < 64) : seg W s p c (64 * (8 * s + p) + i) := Or.inr (Or.inr (Or.inr (Or.inr (Or.inr (Or.inr (Or.inl ⟨hc, i, h, rfl⟩))))))
theorem seg.ms {W : Wd} {s p : Nat} (c : Nat) (h : c = 38 ∨ c = 39 ∨ c = 43) : seg W s p c p := Or.inr (Or.inr (Or.inr (Or.inr (Or.inr (Or.inr (Or.inr (Or.inl ⟨h, rfl⟩)))))))
theorem seg.sc {W : Wd} {s p : Nat} (i : Nat) (h : i < 100) : seg W s p 42 (100 * p + i) := Or.inr (Or.inr (Or.inr (Or.inr (Or.inr (Or.inr (Or.inr (Or.inr ⟨rfl, i, h, rfl⟩)))))))
theorem PRel.fr {W W' : Wd} {s p : Nat} {σ σ' : cl_S} {ρ ρ' : rf_S} (h : PRel W s p σ ρ) (G : TGo W W' σ σ') (hI : ∀ i, i < 12 → σ'.1 (83 + 135 * s + 12 * p + i) = σ.1 (83 + 135 * s + 12 * p + i)) (hR : ∀ i, i < 12 → σ'.2.2.1 (83 + 135 * s + 12 * p + i) = σ.2.2.1 (83 + 135 * s + 12 * p + i)) (hq : ∀ c j, seg W s p c j → ρ'.1 c j = ρ.1 c j) : PRel W' s p σ' ρ' := by
  have I : ∀ b, 83 + 135 * s + 12 * p ≤ b → b < 95 + 135 * s + 12 * p → σ'.1 b = σ.1 b := by
    intro b h1 h2
    have := hI (b - (83 + 135 * s + 12 * p)) (by omega)
    rw [show 83 + 135 * s + 12 * p + (b - (83 + 135 * s + 12 * p)) = b by omega] at this
    exact this
  have R : ∀ b, 83 + 135 * s + 12 * p ≤ b → b < 95 + 135 * s + 12 * p → σ'.2.2.1 b = σ.2.2.1 b := by
    intro b h1 h2
    have := hR (b - (83 + 135 * s + 12 * p)) (by omega)
    rw [show 83 + 135 * s + 12 * p + (b - (83 + 135 * s + 12 * p)) = b by omega] at this
    exact this
  refine ⟨?_, ?_, ?_, ?_, ?_, ?_, ?_⟩
  · exact h.co.fr G.le.sz G.le.bs (by rw [I _ (by omega) (by omega)]) (I _ (by omega) (by omega)) (I _ (by omega) (by omega)) (I _ (by omega) (by omega)) (fun c h1 h2 => hq _ _ (.co c h1 h2)) (fun r hr => hq _ _ (.rg r hr)) (fun i hi => hq _ _ (.me i hi))
  · exact h.tb.fr G (by rw [I _ (by omega) (by omega)]) (by rw [I _ (by omega) (by omega)]) (I _ (by omega) (by omega)) (R _ (by omega) (by omega)) (I _ (by omega) (by omega)) (R _ (by omega) (by omega)) (fun j hj => hq _ _ (.tb j hj)) (hq _ _ (.ct 61 (by decide))) (hq _ _ (.ct 70 (by decide))) (hq _ _ (.ms 43 (by decide))) (fun j hj => hq _ _ (.sc j hj))
  · exact h.ou.fr G.le (by rw [I _ (by omega) (by omega)]) (I _ (by omega) (by omega)) (R _ (by omega) (by omega)) (hq _ _ (.ct 64 (by decide))) (fun c j hc hj => hq _ _ (.ou c j hc hj))
  · exact h.ww.fr (by rw [I _ (by omega) (by omega)]) (I _ (by omega) (by omega)) (hq _ _ (.ct 66 (by decide))) (fun j hj => hq _ _ (.wa 65 j (by decide) hj))
  · exact h.wt.fr G.le (by rw [I _ (by omega) (by omega)]) (R _ (by omega) (by omega)) (hq _ _ (.ct 68 (by decide))) (fun j hj => hq _ _ (.wa 67 j (by decide) hj))
  · exact h.se.fr (by rw [I _ (by omega) (by omega)]) (hq _ _ (.ct 69 (by decide)))
  · exact h.ms.fr G (fun j _ _ => by rw [R _ (by omega) (by omega)]) (hq _ _ (.ms 38 (by decide))) (hq _ _ (.ms 39 (by decide)))
end Z2_R
