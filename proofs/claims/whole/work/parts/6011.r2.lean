section Z2_R2
/-- who flows to p, after c channels of a round -/
def flC (W : Wd) (F : Nat → Bool) : Nat → Nat → Bool
  | 0 => F
  | c + 1 => fun q => flC W F c q || (flC W F c (W.to c) && (q == W.fr c))
def flR (W : Wd) (p : Nat) : Nat → Nat → Bool
  | 0 => fun q => q == p
  | r + 1 => flC W (flR W p r) W.nc
def CfgR (W : Wd) (σ : cl_S) (ρ : rf_S) : Prop := (W.cf = 48 ∨ W.cf = 314) ∧ (W.np ≤ 8 ∧ σ.1 W.cf 0 = nI W.np ∧ ρ.1 0 55 = nI W.np) ∧ (W.nc ≤ 16 ∧ σ.1 W.cf 5 = nI W.nc ∧ ρ.1 0 60 = nI W.nc) ∧ (W.ns ≤ 32 ∧ (0 < W.np → 0 < W.ns) ∧ σ.1 W.cf 9 = nI W.ns ∧ ρ.1 0 64 = nI W.ns) ∧ (∀ p, p < W.np → (16 ≤ W.sz p ∧ W.sz p ≤ 2048 ∧ W.bs p + W.sz p ≤ 8192 ∧ W.ar p ≤ 8 ∧ W.ad p + W.ar p ≤ 32) ∧ σ.1 (W.cf + 2) p = nI (W.sz p) ∧ ρ.1 29 p = nI (W.sz p) ∧ ρ.1 28 p = nI (W.bs p) ∧ σ.1 (W.cf + 3) p = nI (W.ar p) ∧ ρ.1 30 p = nI (W.ar p) ∧ σ.1 (W.cf + 4) p = nI (W.ad p) ∧ ρ.1 31 p = nI (W.ad p)) ∧ (∀ p q, p < W.np → q < W.np → p ≠ q → W.bs p + W.sz p ≤ W.bs q ∨ W.bs q + W.sz q ≤ W.bs p) ∧ (∀ p q, p < q → q < W.np → W.ad p + W.ar p ≤ W.ad q) ∧ (∀ c, c < W.nc → (W.fr c < W.np ∧ W.to c < W.np ∧ 1 ≤ W.ln c ∧ W.ln c ≤ 16) ∧ σ.1 (W.cf + 5) c = nI (W.fr c) ∧ ρ.1 32 c = nI (W.fr c) ∧ σ.1 (W.cf + 6) c = nI (W.to c) ∧ ρ.1 33 c = nI (W.to c) ∧ σ.1 (W.cf + 7) c = nI (W.ln c) ∧ ρ.1 34 c = nI (W.ln c)) ∧ (∀ k, k < W.ns → ((W.who k < W.np ∨ W.who k = 255) ∧ 1 ≤ W.stp k ∧ W.stp k ≤ 1000) ∧ σ.1 (W.cf + 8) k = nI (W.who k) ∧ ρ.1 35 k = nI (W.who k) ∧ σ.1 (W.cf + 9) k = nI (W.stp k) ∧ ρ.1 36 k = nI (W.stp k)) ∧ (∀ q p, q < 8 → p < 8 → 0 < W.np → ρ.1 37 (8 * q + p) = if flR W p 8 q then 1 else 0)
theorem CfgR.cf {W : Wd} {σ : cl_S} {ρ : rf_S} (hS : CfgR W σ ρ) : W.cf = 48 ∨ W.cf = 314 := hS.1
theorem CfgR.np {W : Wd} {σ : cl_S} {ρ : rf_S} (hS : CfgR W σ ρ) : W.np ≤ 8 ∧ σ.1 W.cf 0 = nI W.np ∧ ρ.1 0 55 = nI W.np := hS.2.1
theorem CfgR.nc {W : Wd} {σ : cl_S} {ρ : rf_S} (hS : CfgR W σ ρ) : W.nc ≤ 16 ∧ σ.1 W.cf 5 = nI W.nc ∧ ρ.1 0 60 = nI W.nc := hS.2.2.1
theorem CfgR.ns {W : Wd} {σ : cl_S} {ρ : rf_S} (hS : CfgR W σ ρ) : W.ns ≤ 32 ∧ (0 < W.np → 0 < W.ns) ∧ σ.1 W.cf 9 = nI W.ns ∧ ρ.1 0 64 = nI W.ns := hS.2.2.2.1
theorem CfgR.pa {W : Wd} {σ : cl_S} {ρ : rf_S} (hS : CfgR W σ ρ) : ∀ p, p < W.np → (16 ≤ W.sz p ∧ W.sz p ≤ 2048 ∧ W.bs p + W.sz p ≤ 8192 ∧ W.ar p ≤ 8 ∧ W.ad p + W.ar p ≤ 32) ∧ σ.1 (W.cf + 2) p = nI (W.sz p) ∧ ρ.1 29 p = nI (W.sz p) ∧ ρ.1 28 p = nI (W.bs p) ∧ σ.1 (W.cf + 3) p = nI (W.ar p) ∧ ρ.1 30 p = nI (W.ar p) ∧ σ.1 (W.cf + 4) p = nI (W.ad p) ∧ ρ.1 31 p = nI (W.ad p) := hS.2.2.2.2.1
theorem CfgR.dj {W : Wd} {σ : cl_S} {ρ : rf_S} (hS : CfgR W σ ρ) : ∀ p q, p < W.np → q < W.np → p ≠ q → W.bs p + W.sz p ≤ W.bs q ∨ W.bs q + W.sz q ≤ W.bs p := hS.2.2.2.2.2.1
theorem CfgR.aj {W : Wd} {σ : cl_S} {ρ : rf_S} (hS : CfgR W σ ρ) : ∀ p q, p < q → q < W.np → W.ad p + W.ar p ≤ W.ad q := hS.2.2.2.2.2.2.1
theorem CfgR.ch {W : Wd} {σ : cl_S} {ρ : rf_S} (hS : CfgR W σ ρ) : ∀ c, c < W.nc → (W.fr c < W.np ∧ W.to c < W.np ∧ 1 ≤ W.ln c ∧ W.ln c ≤ 16) ∧ σ.1 (W.cf + 5) c = nI (W.fr c) ∧ ρ.1 32 c = nI (W.fr c) ∧ σ.1 (W.cf + 6) c = nI (W.to c) ∧ ρ.1 33 c = nI (W.to c) ∧ σ.1 (W.cf + 7) c = nI (W.ln c) ∧ ρ.1 34 c = nI (W.ln c) := hS.2.2.2.2.2.2.2.1
theorem CfgR.sl {W : Wd} {σ : cl_S} {ρ : rf_S} (hS : CfgR W σ ρ) : ∀ k, k < W.ns → ((W.who k < W.np ∨ W.who k = 255) ∧ 1 ≤ W.stp k ∧ W.stp k ≤ 1000) ∧ σ.1 (W.cf + 8) k = nI (W.who k) ∧ ρ.1 35 k = nI (W.who k) ∧ σ.1 (W.cf + 9) k = nI (W.stp k) ∧ ρ.1 36 k = nI (W.stp k) := hS.2.2.2.2.2.2.2.2.1
theorem CfgR.fl {W : Wd} {σ : cl_S} {ρ : rf_S} (hS : CfgR W σ ρ) : ∀ q p, q < 8 → p < 8 → 0 < W.np → ρ.1 37 (8 * q + p) = if flR W p 8 q then 1 else 0 := hS.2.2.2.2.2.2.2.2.2
theorem flC_cg {W W' : Wd} (h1 : W'.to = W.to) (h2 : W'.fr = W.fr) (F : Nat → Bool) : ∀ c, flC W' F c = flC W F c := by
  intro c
  induction c with
  | zero => rfl
  | succ c ih => unfold flC; rw [ih, h1, h2]
theorem flR_cg {W W' : Wd} (h1 : W'.to = W.to) (h2 : W'.fr = W.fr) (h3 : W'.nc = W.nc) (p : Nat) : ∀ r, flR W' p r = flR W p r := by
  intro r
  induction r with
  | zero => rfl
  | succ r ih => unfold flR; rw [ih, h3, flC_cg h1 h2]
def Stc (σ : cl_S) : Prop := (∀ i, i < 10 → σ.2.2.1 19 i = some (20 + i) ∧ σ.2.2.2.1 (20 + i) = (1, 2048)) ∧ (∀ s p, s < 2 → p < 8 → σ.2.2.1 (59 + 135 * s) p = some (83 + 135 * s + 12 * p)) ∧ (∀ s c, s < 2 → c < 16 → σ.2.2.1 (60 + 135 * s) c = some (61 + 135 * s + c) ∧ σ.2.2.2.1 (61 + 135 * s + c) = (1, 16)) ∧ (∀ s, s < 2 → σ.2.2.1 (47 + 132 * s) 1 = some (41 + 139 * s)) ∧ (∀ s p, s < 2 → p < 8 → (σ.2.2.2.1 (85 + 135 * s + 12 * p)).2 = 2048 ∧ (σ.2.2.2.1 (86 + 135 * s + 12 * p)).2 = 16 ∧ (σ.2.2.2.1 (94 + 135 * s + 12 * p)).2 = 256) ∧ (∀ s p, s < 2 → p < 8 → σ.1 (83 + 135 * s + 12 * p) 3 = nI p ∧ σ.1 (92 + 135 * s + 12 * p) 1 = nI 100 ∧ σ.1 (92 + 135 * s + 12 * p) 2 = 0) ∧ (σ.1 179 2 = 0) ∧ ((σ.2.2.2.1 16).2 = 2048 ∧ (σ.2.2.2.1 8).2 = 2048)
theorem Stc.kp {σ : cl_S} (hS : Stc σ) : ∀ i, i < 10 → σ.2.2.1 19 i = some (20 + i) ∧ σ.2.2.2.1 (20 + i) = (1, 2048) := hS.1
theorem Stc.pp {σ : cl_S} (hS : Stc σ) : ∀ s p, s < 2 → p < 8 → σ.2.2.1 (59 + 135 * s) p = some (83 + 135 * s + 12 * p) := hS.2.1
theorem Stc.sp {σ : cl_S} (hS : Stc σ) : ∀ s c, s < 2 → c < 16 → σ.2.2.1 (60 + 135 * s) c = some (61 + 135 * s + c) ∧ σ.2.2.2.1 (61 + 135 * s + c) = (1, 16) := hS.2.2.1
theorem Stc.dp {σ : cl_S} (hS : Stc σ) : ∀ s, s < 2 → σ.2.2.1 (47 + 132 * s) 1 = some (41 + 139 * s) := hS.2.2.2.1
theorem Stc.tl {σ : cl_S} (hS : Stc σ) : ∀ s p, s < 2 → p < 8 → (σ.2.2.2.1 (85 + 135 * s + 12 * p)).2 = 2048 ∧ (σ.2.2.2.1 (86 + 135 * s + 12 * p)).2 = 16 ∧ (σ.2.2.2.1 (94 + 135 * s + 12 * p)).2 = 256 := hS.2.2.2.2.1
theorem Stc.pi {σ : cl_S} (hS : Stc σ) : ∀ s p, s < 2 → p < 8 → σ.1 (83 + 135 * s + 12 * p) 3 = nI p ∧ σ.1 (92 + 135 * s + 12 * p) 1 = nI 100 ∧ σ.1 (92 + 135 * s + 12 * p) 2 = 0 := hS.2.2.2.2.2.1
theorem Stc.re {σ : cl_S} (hS : Stc σ) : σ.1 179 2 = 0 := hS.2.2.2.2.2.2.1
theorem Stc.t2 {σ : cl_S} (hS : Stc σ) : (σ.2.2.2.1 16).2 = 2048 ∧ (σ.2.2.2.1 8).2 = 2048 := hS.2.2.2.2.2.2.2
def MRel (W : Wd) (s : Nat) (σ : cl_S) (ρ : rf_S) : Prop := (∀ p, p < W.np → PRel W s p σ ρ) ∧ (σ.2.2.1 (47 + 132 * s) 3 = some W.cf) ∧ (σ.1 (47 + 132 * s) 2 = nI (1 - s)) ∧ (∃ t, t ≤ 60000 ∧ σ.1 (47 + 132 * s) 9 = nI t ∧ ρ.1 48 s = nI t) ∧ (∃ i j, i ≤ 32 ∧ j ≤ 1000 ∧ σ.1 (47 + 132 * s) 10 = nI i ∧ ρ.1 49 s = nI i ∧ σ.1 (47 + 132 * s) 11 = nI j ∧ ρ.1 50 s = nI j ∧ (0 < W.np → i < W.ns ∧ j < W.stp i)) ∧ (σ.1 (47 + 132 * s) 12 = ρ.1 51 s) ∧ (∃ n, n ≤ 1000 ∧ σ.1 (47 + 132 * s) 13 = nI n ∧ (s = 0 → ρ.1 0 54 = nI n) ∧ (s = 1 → n = 0)) ∧ (∀ c i, c < 16 → i < 16 → σ.1 (61 + 135 * s + c) i = ρ.1 71 (16 * (16 * s + c) + i)) ∧ (∀ c, c < 16 → σ.1 (77 + 135 * s) c = ρ.1 72 (16 * s + c) ∧ (ρ.1 72 (16 * s + c) = 0 ∨ ρ.1 72 (16 * s + c) = 1)) ∧ (∀ c, c < 16 → 0 < W.np → TO W (σ.2.2.1 (78 + 135 * s) c) (ρ.1 73 (16 * s + c))) ∧ (∀ b, b < 64 → σ.1 (42 + 139 * s) b = ρ.1 74 (64 * s + b) ∧ TO W (σ.2.2.1 (43 + 139 * s) b) (ρ.1 75 (64 * s + b)) ∧ (ρ.1 75 (64 * s + b) = -1 → ρ.1 74 (64 * s + b) = 0)) ∧ (s = 1 → σ.1 179 8 = 1)
theorem MRel.pr {W : Wd} {s : Nat} {σ : cl_S} {ρ : rf_S} (hS : MRel W s σ ρ) : ∀ p, p < W.np → PRel W s p σ ρ := hS.1
theorem MRel.cp {W : Wd} {s : Nat} {σ : cl_S} {ρ : rf_S} (hS : MRel W s σ ρ) : σ.2.2.1 (47 + 132 * s) 3 = some W.cf := hS.2.1
theorem MRel.re {W : Wd} {s : Nat} {σ : cl_S} {ρ : rf_S} (hS : MRel W s σ ρ) : σ.1 (47 + 132 * s) 2 = nI (1 - s) := hS.2.2.1
theorem MRel.tk {W : Wd} {s : Nat} {σ : cl_S} {ρ : rf_S} (hS : MRel W s σ ρ) : ∃ t, t ≤ 60000 ∧ σ.1 (47 + 132 * s) 9 = nI t ∧ ρ.1 48 s = nI t := hS.2.2.2.1
theorem MRel.sl {W : Wd} {s : Nat} {σ : cl_S} {ρ : rf_S} (hS : MRel W s σ ρ) : ∃ i j, i ≤ 32 ∧ j ≤ 1000 ∧ σ.1 (47 + 132 * s) 10 = nI i ∧ ρ.1 49 s = nI i ∧ σ.1 (47 + 132 * s) 11 = nI j ∧ ρ.1 50 s = nI j ∧ (0 < W.np → i < W.ns ∧ j < W.stp i) := hS.2.2.2.2.1
theorem MRel.yl {W : Wd} {s : Nat} {σ : cl_S} {ρ : rf_S} (hS : MRel W s σ ρ) : σ.1 (47 + 132 * s) 12 = ρ.1 51 s := hS.2.2.2.2.2.1
theorem MRel.ct {W : Wd} {s : Nat} {σ : cl_S} {ρ : rf_S} (hS : MRel W s σ ρ) : ∃ n, n ≤ 1000 ∧ σ.1 (47 + 132 * s) 13 = nI n ∧ (s = 0 → ρ.1 0 54 = nI n) ∧ (s = 1 → n = 0) := hS.2.2.2.2.2.2.1
theorem MRel.sn {W : Wd} {s : Nat} {σ : cl_S} {ρ : rf_S} (hS : MRel W s σ ρ) : ∀ c i, c < 16 → i < 16 → σ.1 (61 + 135 * s + c) i = ρ.1 71 (16 * (16 * s + c) + i) := hS.2.2.2.2.2.2.2.1
theorem MRel.ur {W : Wd} {s : Nat} {σ : cl_S} {ρ : rf_S} (hS : MRel W s σ ρ) : ∀ c, c < 16 → σ.1 (77 + 135 * s) c = ρ.1 72 (16 * s + c) ∧ (ρ.1 72 (16 * s + c) = 0 ∨ ρ.1 72 (16 * s + c) = 1) := hS.2.2.2.2.2.2.2.2.1
theorem MRel.st {W : Wd} {s : Nat} {σ : cl_S} {ρ : rf_S} (hS : MRel W s σ ρ) : ∀ c, c < 16 → 0 < W.np → TO W (σ.2.2.1 (78 + 135 * s) c) (ρ.1 73 (16 * s + c)) := hS.2.2.2.2.2.2.2.2.2.1
theorem MRel.dk {W : Wd} {s : Nat} {σ : cl_S} {ρ : rf_S} (hS : MRel W s σ ρ) : ∀ b, b < 64 → σ.1 (42 + 139 * s) b = ρ.1 74 (64 * s + b) ∧ TO W (σ.2.2.1 (43 + 139 * s) b) (ρ.1 75 (64 * s + b)) ∧ (ρ.1 75 (64 * s + b) = -1 → ρ.1 74 (64 * s + b) = 0) := hS.2.2.2.2.2.2.2.2.2.2.1
theorem MRel.on {W : Wd} {s : Nat} {σ : cl_S} {ρ : rf_S} (hS : MRel W s σ ρ) : s = 1 → σ.1 179 8 = 1 := hS.2.2.2.2.2.2.2.2.2.2.2
/-- what is left of a partition's room for terms -/
def phG (ρ : rf_S) (g : Nat) : Nat := 2 * (100 - (ρ.1 61 g).toNatClampNeg) + 5 * (40 - (ρ.1 69 g).toNatClampNeg)
def phi (s : Nat) (ρ : rf_S) : Nat := phG ρ (8 * s) + phG ρ (8 * s + 1) + phG ρ (8 * s + 2) + phG ρ (8 * s + 3) + phG ρ (8 * s + 4) + phG ρ (8 * s + 5) + phG ρ (8 * s + 6) + phG ρ (8 * s + 7)
abbrev Bd : Type := Nat × Nat × Nat × Nat
def Bd.kn (K : Bd) : Nat := K.1
def Bd.kl (K : Bd) : Nat := K.2.1
def Bd.kc (K : Bd) : Nat := K.2.2.1
def Bd.ks (K : Bd) : Nat := K.2.2.2
/-- the room is enough, with some to spare -/
def KV (K : Bd) : Prop := K.kn + 8 ≤ 112000 ∧ K.kl + 8 < K.kc ∧ 16 * (K.kl + 8) + 16 ≤ K.ks ∧ K.kl ≤ 1000000
def Bd.up (K : Bd) (e : Nat) : Bd := ⟨K.kn + e, K.kl + e, K.kc, K.ks⟩
def Bud (K : Bd) (W : Wd) (b : Bool) (σ : cl_S) (ρ : rf_S) : Prop := (W.N + phi 0 ρ + (if b then phi 1 ρ else 0) ≤ K.kn) ∧ (W.ts.length + phi 0 ρ + (if b then phi 1 ρ else 0) ≤ K.kl) ∧ (K.kc ≤ σ.2.2.2.2.2.1 + W.ts.length) ∧ (K.ks ≤ σ.2.2.2.2.2.2 + 16 * W.ts.length)
theorem Bud.n {K : Bd} {W : Wd} {b : Bool} {σ : cl_S} {ρ : rf_S} (hS : Bud K W b σ ρ) : W.N + phi 0 ρ + (if b then phi 1 ρ else 0) ≤ K.kn := hS.1
theorem Bud.l {K : Bd} {W : Wd} {b : Bool} {σ : cl_S} {ρ : rf_S} (hS : Bud K W b σ ρ) : W.ts.length + phi 0 ρ + (if b then phi 1 ρ else 0) ≤ K.kl := hS.2.1
theorem Bud.c {K : Bd} {W : Wd} {b : Bool} {σ : cl_S} {ρ : rf_S} (hS : Bud K W b σ ρ) : K.kc ≤ σ.2.2.2.2.2.1 + W.ts.length := hS.2.2.1
theorem Bud.s {K : Bd} {W : Wd} {b : Bool} {σ : cl_S} {ρ : rf_S} (hS : Bud K W b σ ρ) : K.ks ≤ σ.2.2.2.2.2.2 + 16 * W.ts.length := hS.2.2.2
/-- texts and rows -/
def kat (i : Nat) : Nat := if i < 8 then 2048 * i else if i = 8 then 16384 else 16640
def kap (i : Nat) : Nat := if i < 8 then 2048 else if i = 8 then 256 else 200
def OthA (σ : cl_S) (ρ : rf_S) : Prop := (∃ n, Cnt (σ.1 1 1) (ρ.1 0 26) 6000 n ∧ ∀ j, σ.1 2 j = ρ.1 16 j &&& 255) ∧ (∃ n, Cnt (σ.1 0 4) (ρ.1 0 28) 2048 n ∧ ∀ j, σ.1 18 j = ρ.1 17 j) ∧ (∀ i, i < 10 → ∃ n, Cnt (σ.1 30 i) (ρ.1 27 i) (kap i) n ∧ ∀ j, j < n → σ.1 (20 + i) j = ρ.1 26 (kat i + j)) ∧ (∃ n, Cnt (σ.1 6 15) (ρ.1 0 43) 40 n ∧ ∀ j, j < n → σ.1 14 j = ρ.1 25 j &&& 255) ∧ (σ.1 6 13 = ρ.1 0 41)
theorem OthA.tx {σ : cl_S} {ρ : rf_S} (hS : OthA σ ρ) : ∃ n, Cnt (σ.1 1 1) (ρ.1 0 26) 6000 n ∧ ∀ j, σ.1 2 j = ρ.1 16 j &&& 255 := hS.1
theorem OthA.rw {σ : cl_S} {ρ : rf_S} (hS : OthA σ ρ) : ∃ n, Cnt (σ.1 0 4) (ρ.1 0 28) 2048 n ∧ ∀ j, σ.1 18 j = ρ.1 17 j := hS.2.1
theorem OthA.kp {σ : cl_S} {ρ : rf_S} (hS : OthA σ ρ) : ∀ i, i < 10 → ∃ n, Cnt (σ.1 30 i) (ρ.1 27 i) (kap i) n ∧ ∀ j, j < n → σ.1 (20 + i) j = ρ.1 26 (kat i + j) := hS.2.2.1
theorem OthA.sh {σ : cl_S} {ρ : rf_S} (hS : OthA σ ρ) : ∃ n, Cnt (σ.1 6 15) (ρ.1 0 43) 40 n ∧ ∀ j, j < n → σ.1 14 j = ρ.1 25 j &&& 255 := hS.2.2.2.1
theorem OthA.pl {σ : cl_S} {ρ : rf_S} (hS : OthA σ ρ) : σ.1 6 13 = ρ.1 0 41 := hS.2.2.2.2
/-- the outside, the disk at the boot, the inputs -/
def OthB (W : Wd) (k : Nat) (σ : cl_S) (ρ : rf_S) : Prop := (∃ h, TabR σ W.tm W.N 38 600 2048 (ρ.1 76) (ρ.1 0 110) h) ∧ (σ.1 38 2 = 1) ∧ (∀ b, b < 64 → 0 < W.np → σ.1 45 b = ρ.1 40 b ∧ TO W (σ.2.2.1 46 b) (ρ.1 41 b) ∧ (ρ.1 41 b = -1 → ρ.1 40 b = 0)) ∧ (∃ n, n ≤ k ∧ σ.1 47 15 = nI n ∧ ρ.1 0 78 = nI n ∧ (∀ j, j < n → ∃ t q, σ.1 79 j = nI t ∧ ρ.1 44 j = nI t ∧ t ≤ (ρ.1 48 0).toNatClampNeg ∧ σ.1 80 j = nI q ∧ ρ.1 45 j = nI q ∧ q < W.np ∧ OV W (σ.1 81 j) (σ.2.2.1 82 j) (ρ.1 47 j) (ρ.1 46 j)) ∧ (∀ i j, i < j → j < n → (ρ.1 44 i).toNatClampNeg ≤ (ρ.1 44 j).toNatClampNeg)) ∧ (σ.1 47 8 = ρ.1 0 51 ∧ (ρ.1 0 51 = 0 ∨ ρ.1 0 51 = 1) ∧ (ρ.1 0 51 = 1 → 0 < W.np)) ∧ (∃ n, σ.1 0 14 = nI n ∧ ρ.1 0 52 = nI n ∧ 2 * n ≤ k + (if ρ.1 0 51 = 0 then 0 else 1) ∧ ∃ E, ρ.1 0 18 = nI E ∧ E ≤ 16840 * n) ∧ (σ.1 47 14 = ρ.1 0 53) ∧ (σ.2.2.1 0 13 = some (362 - W.cf))
theorem OthB.ou {W : Wd} {k : Nat} {σ : cl_S} {ρ : rf_S} (hS : OthB W k σ ρ) : ∃ h, TabR σ W.tm W.N 38 600 2048 (ρ.1 76) (ρ.1 0 110) h := hS.1
theorem OthB.of {W : Wd} {k : Nat} {σ : cl_S} {ρ : rf_S} (hS : OthB W k σ ρ) : σ.1 38 2 = 1 := hS.2.1
theorem OthB.d0 {W : Wd} {k : Nat} {σ : cl_S} {ρ : rf_S} (hS : OthB W k σ ρ) : ∀ b, b < 64 → 0 < W.np → σ.1 45 b = ρ.1 40 b ∧ TO W (σ.2.2.1 46 b) (ρ.1 41 b) ∧ (ρ.1 41 b = -1 → ρ.1 40 b = 0) := hS.2.2.1
theorem OthB.ip {W : Wd} {k : Nat} {σ : cl_S} {ρ : rf_S} (hS : OthB W k σ ρ) : ∃ n, n ≤ k ∧ σ.1 47 15 = nI n ∧ ρ.1 0 78 = nI n ∧ (∀ j, j < n → ∃ t q, σ.1 79 j = nI t ∧ ρ.1 44 j = nI t ∧ t ≤ (ρ.1 48 0).toNatClampNeg ∧ σ.1 80 j = nI q ∧ ρ.1 45 j = nI q ∧ q < W.np ∧ OV W (σ.1 81 j) (σ.2.2.1 82 j) (ρ.1 47 j) (ρ.1 46 j)) ∧ (∀ i j, i < j → j < n → (ρ.1 44 i).toNatClampNeg ≤ (ρ.1 44 j).toNatClampNeg) := hS.2.2.2.1
theorem OthB.on {W : Wd} {k : Nat} {σ : cl_S} {ρ : rf_S} (hS : OthB W k σ ρ) : σ.1 47 8 = ρ.1 0 51 ∧ (ρ.1 0 51 = 0 ∨ ρ.1 0 51 = 1) ∧ (ρ.1 0 51 = 1 → 0 < W.np) := hS.2.2.2.2.1
theorem OthB.bt {W : Wd} {k : Nat} {σ : cl_S} {ρ : rf_S} (hS : OthB W k σ ρ) : ∃ n, σ.1 0 14 = nI n ∧ ρ.1 0 52 = nI n ∧ 2 * n ≤ k + (if ρ.1 0 51 = 0 then 0 else 1) ∧ ∃ E, ρ.1 0 18 = nI E ∧ E ≤ 16840 * n := hS.2.2.2.2.2.1
theorem OthB.wr {W : Wd} {k : Nat} {σ : cl_S} {ρ : rf_S} (hS : OthB W k σ ρ) : σ.1 47 14 = ρ.1 0 53 := hS.2.2.2.2.2.2.1
theorem OthB.sp {W : Wd} {k : Nat} {σ : cl_S} {ρ : rf_S} (hS : OthB W k σ ρ) : σ.2.2.1 0 13 = some (362 - W.cf) := hS.2.2.2.2.2.2.2
/-- the names of the ops -/
def opT : List (List Nat) := [[], [97, 100, 100], [115, 117, 98], [97, 110, 100], [111, 114], [120, 111, 114], [115, 104, 108], [115, 104, 114], [115, 97, 114], [108, 101, 115, 115], [98, 101, 108, 111, 119], [109, 117, 108], [97, 100, 100, 105], [97, 110, 100, 105], [111, 114, 105], [120, 111, 114, 105], [115, 104, 108, 105], [115, 104, 114, 105], [115, 97, 114, 105], [108, 101, 115, 115, 105], [98, 101, 108, 111, 119, 105], [104, 105, 103, 104], [108, 100, 119], [108, 100, 104], [108, 100, 104, 117], [108, 100, 111], [108, 100, 111, 117], [115, 116, 119], [115, 116, 104], [115, 116, 111], [98, 101, 113], [98, 110, 101], [98, 108, 116], [98, 103, 101], [98, 108, 116, 117], [98, 103, 101, 117], [106, 117, 109, 112], [106, 117, 109, 112, 114], [97, 115, 107], [98, 97, 99, 107], [119, 111, 114, 100], [114, 111, 111, 109]]
def opN (op : Nat) : List Nat := opT.getD op []
def nfT : List Nat := [0, 0, 4, 8, 12, 15, 19, 23, 27, 31, 36, 42, 46, 51, 56, 60, 65, 70, 75, 80, 86, 93, 98, 102, 106, 111, 115, 120, 124, 128, 132, 136, 140, 144, 148, 153, 158, 163, 169, 173, 178, 183]
def nfr (op : Nat) : Nat := nfT.getD op 0
def enc (b : Nat) (l : List Nat) : Nat := l.foldl (fun n c => n * b + c) 0
def NmT (σ : cl_S) (ρ : rf_S) : Prop := ∀ op, 0 < op → op < 42 → σ.2.1 7 op = Int64.ofNat (enc 256 (opN op)) ∧ ρ.2 13 op = Int64.ofNat (enc 128 (opN op)) ∧ ρ.1 14 op = nI (nfr op) ∧ ρ.1 15 op = nI (nfr op + (opN op).length)
theorem NmT.fr {σ σ' : cl_S} {ρ ρ' : rf_S} (h : NmT σ ρ) (h1 : σ'.2.1 7 = σ.2.1 7) (h2 : ρ'.2 13 = ρ.2 13) (h3 : ρ'.1 14 = ρ.1 14) (h4 : ρ'.1 15 = ρ.1 15) : NmT σ' ρ' := by
  intro op a b
  rw [h1, h2, h3, h4]; exact h op a b
/-- the places of a boot that is run again -/
def S1 (c j : Nat) : Prop := (47 < c ∧ c < 52 ∧ j = 1) ∨ (c = 52 ∧ 8192 ≤ j) ∨ (c = 53 ∧ 128 ≤ j) ∨ (53 < c ∧ c < 71 ∧ c ≠ 60 ∧ c ≠ 62 ∧ c ≠ 63 ∧ c ≠ 65 ∧ c ≠ 67 ∧ 8 ≤ j) ∨ (c = 60 ∧ 800 ≤ j) ∨ ((c = 62 ∨ c = 63) ∧ 1600 ≤ j) ∨ ((c = 65 ∨ c = 67) ∧ 512 ≤ j) ∨ (c = 71 ∧ 256 ≤ j) ∨ ((c = 72 ∨ c = 73) ∧ 16 ≤ j) ∨ ((c = 74 ∨ c = 75) ∧ 64 ≤ j)
/-- all else stays as it was: the world's ln keeps it, from 1000 on -/
def Fz (W : Wd) (ρ : rf_S) : Prop := (∀ c j, 37 < c → c < 77 → j < 100000 → ¬ S1 c j → ρ.1 c j = nI (W.ln (1000 + (100000 * c + j)))) ∧ ρ.1 0 110 = nI (W.ln 999) ∧ ρ.1 0 78 = nI (W.ln 998)
theorem Fz.fr {W W' : Wd} {ρ ρ' : rf_S} (h : Fz W ρ) (hl : W'.ln = W.ln) (hq : ∀ c j, 37 < c → c < 77 → ¬ S1 c j → ρ'.1 c j = ρ.1 c j) (h1 : ρ'.1 0 110 = ρ.1 0 110) (h2 : ρ'.1 0 78 = ρ.1 0 78) : Fz W' ρ' := by
  unfold Fz
  rw [hl, h1, h2]
  exact ⟨fun c j a b d e => by rw [hq c j a b e]; exact h.1 c j a b d e, h.2⟩
def Rel (K : Bd) (W : Wd) (b : Bool) (k : Nat) (σ : cl_S) (ρ : rf_S) : Prop := (TermR W.n0 σ ρ W.ts W.tm W.N) ∧ (Stc σ) ∧ (CfgR W σ ρ) ∧ (MRel W 0 σ ρ) ∧ (b = true → MRel W 1 σ ρ) ∧ (OthA σ ρ) ∧ (OthB W k σ ρ) ∧ (Bud K W b σ ρ) ∧ (b = false → 112000 ≤ W.n0 ∧ W.n0 < 1000000) ∧ (NmT σ ρ) ∧ (b = true → Fz W ρ)
theorem Rel.T {K : Bd} {W : Wd} {b : Bool} {k : Nat} {σ : cl_S} {ρ : rf_S} (hS : Rel K W b k σ ρ) : TermR W.n0 σ ρ W.ts W.tm W.N := hS.1
theorem Rel.st {K : Bd} {W : Wd} {b : Bool} {k : Nat} {σ : cl_S} {ρ : rf_S} (hS : Rel K W b k σ ρ) : Stc σ := hS.2.1
theorem Rel.cf {K : Bd} {W : Wd} {b : Bool} {k : Nat} {σ : cl_S} {ρ : rf_S} (hS : Rel K W b k σ ρ) : CfgR W σ ρ := hS.2.2.1
theorem Rel.m0 {K : Bd} {W : Wd} {b : Bool} {k : Nat} {σ : cl_S} {ρ : rf_S} (hS : Rel K W b k σ ρ) : MRel W 0 σ ρ := hS.2.2.2.1
theorem Rel.m1 {K : Bd} {W : Wd} {b : Bool} {k : Nat} {σ : cl_S} {ρ : rf_S} (hS : Rel K W b k σ ρ) : b = true → MRel W 1 σ ρ := hS.2.2.2.2.1
theorem Rel.oA {K : Bd} {W : Wd} {b : Bool} {k : Nat} {σ : cl_S} {ρ : rf_S} (hS : Rel K W b k σ ρ) : OthA σ ρ := hS.2.2.2.2.2.1
theorem Rel.oB {K : Bd} {W : Wd} {b : Bool} {k : Nat} {σ : cl_S} {ρ : rf_S} (hS : Rel K W b k σ ρ) : OthB W k σ ρ := hS.2.2.2.2.2.2.1
theorem Rel.bd {K : Bd} {W : Wd} {b : Bool} {k : Nat} {σ : cl_S} {ρ : rf_S} (hS : Rel K W b k σ ρ) : Bud K W b σ ρ := hS.2.2.2.2.2.2.2.1
theorem Rel.n0 {K : Bd} {W : Wd} {b : Bool} {k : Nat} {σ : cl_S} {ρ : rf_S} (hS : Rel K W b k σ ρ) : b = false → 112000 ≤ W.n0 ∧ W.n0 < 1000000 := hS.2.2.2.2.2.2.2.2.1
theorem Rel.nm {K : Bd} {W : Wd} {b : Bool} {k : Nat} {σ : cl_S} {ρ : rf_S} (hS : Rel K W b k σ ρ) : NmT σ ρ := hS.2.2.2.2.2.2.2.2.2.1
theorem Rel.fz {K : Bd} {W : Wd} {b : Bool} {k : Nat} {σ : cl_S} {ρ : rf_S} (hS : Rel K W b k σ ρ) : b = true → Fz W ρ := hS.2.2.2.2.2.2.2.2.2.2
/-- the ints of the reference that a step may change without more ado -/
def scr (j : Nat) : Prop := j = 10 ∨ j = 12 ∨ j = 13 ∨ j = 14 ∨ j = 15 ∨ j = 16 ∨ j = 79 ∨ j = 108 ∨ j = 118 ∨ j = 119 ∨ j = 120 ∨ j = 121
/-- how a step goes on, outside of the class's rows X and the reference's places Y -/
def Fr (X : Nat → Prop) (Y : Nat → Nat → Prop) (Z : Nat → Prop) (W W' : Wd) (σ σ' : cl_S) (ρ ρ' : rf_S) : Prop := (TGo W W' σ σ') ∧ (∀ b, ¬ X b → (b < 31 ∨ 37 < b) → b < 325 → σ'.1 b = σ.1 b) ∧ (∀ b, b < 325 → σ'.2.1 b = σ.2.1 b) ∧ (∀ b, ¬ X b → (b < 31 ∨ 37 < b) → b < 325 → σ'.2.2.1 b = σ.2.2.1 b) ∧ (∀ b, b < 325 → σ'.2.2.2.1 b = σ.2.2.2.1 b) ∧ (∀ c j, 12 < c → ¬ Y c j → ρ'.1 c j = ρ.1 c j) ∧ (ρ'.2 = ρ.2) ∧ (∀ j, ¬ Z j → ρ'.1 0 j = ρ.1 0 j)
theorem Fr.G {X : Nat → Prop} {Y : Nat → Nat → Prop} {Z : Nat → Prop} {W W' : Wd} {σ σ' : cl_S} {ρ ρ' : rf_S} (hS : Fr X Y Z W W' σ σ' ρ ρ') : TGo W W' σ σ' := hS.1
theorem Fr.I {X : Nat → Prop} {Y : Nat → Nat → Prop} {Z : Nat → Prop} {W W' : Wd} {σ σ' : cl_S} {ρ ρ' : rf_S} (hS : Fr X Y Z W W' σ σ' ρ ρ') : ∀ b, ¬ X b → (b < 31 ∨ 37 < b) → b < 325 → σ'.1 b = σ.1 b := hS.2.1
theorem Fr.L {X : Nat → Prop} {Y : Nat → Nat → Prop} {Z : Nat → Prop} {W W' : Wd} {σ σ' : cl_S} {ρ ρ' : rf_S} (hS : Fr X Y Z W W' σ σ' ρ ρ') : ∀ b, b < 325 → σ'.2.1 b = σ.2.1 b := hS.2.2.1
theorem Fr.R {X : Nat → Prop} {Y : Nat → Nat → Prop} {Z : Nat → Prop} {W W' : Wd} {σ σ' : cl_S} {ρ ρ' : rf_S} (hS : Fr X Y Z W W' σ σ' ρ ρ') : ∀ b, ¬ X b → (b < 31 ∨ 37 < b) → b < 325 → σ'.2.2.1 b = σ.2.2.1 b := hS.2.2.2.1
theorem Fr.T {X : Nat → Prop} {Y : Nat → Nat → Prop} {Z : Nat → Prop} {W W' : Wd} {σ σ' : cl_S} {ρ ρ' : rf_S} (hS : Fr X Y Z W W' σ σ' ρ ρ') : ∀ b, b < 325 → σ'.2.2.2.1 b = σ.2.2.2.1 b := hS.2.2.2.2.1
theorem Fr.q {X : Nat → Prop} {Y : Nat → Nat → Prop} {Z : Nat → Prop} {W W' : Wd} {σ σ' : cl_S} {ρ ρ' : rf_S} (hS : Fr X Y Z W W' σ σ' ρ ρ') : ∀ c j, 12 < c → ¬ Y c j → ρ'.1 c j = ρ.1 c j := hS.2.2.2.2.2.1
theorem Fr.l {X : Nat → Prop} {Y : Nat → Nat → Prop} {Z : Nat → Prop} {W W' : Wd} {σ σ' : cl_S} {ρ ρ' : rf_S} (hS : Fr X Y Z W W' σ σ' ρ ρ') : ρ'.2 = ρ.2 := hS.2.2.2.2.2.2.1
theorem Fr.f {X : Nat → Prop} {Y : Nat → Nat → Prop} {Z : Nat → Prop} {W W' : Wd} {σ σ' : cl_S} {ρ ρ' : rf_S} (hS : Fr X Y Z W W' σ σ' ρ ρ') : ∀ j, ¬ Z j → ρ'.1 0 j = ρ.1 0 j := hS.2.2.2.2.2.2.2
theorem Fr.trans {X : Nat → Prop} {Y : Nat → Nat → Prop} {Z : Nat → Prop} {W W' W'' : Wd} {σ σ' σ'' : cl_S} {ρ ρ' ρ'' : rf_S} (h : Fr X Y Z W W' σ σ' ρ ρ') (k : Fr X Y Z W' W'' σ' σ'' ρ' ρ'') : Fr X Y Z W W'' σ σ'' ρ ρ'' := by
  refine ⟨?_, ?_, ?_, ?_, ?_, ?_, ?_, ?_⟩
  · exact ⟨h.G.le.trans k.G.le, fun b hb j hj => (k.G.fI b (pt_sub h.G.le.ts hb) j hj).trans (h.G.fI b hb j hj), fun b hb j hj hj' => (k.G.fR b (pt_sub h.G.le.ts hb) j hj hj').trans (h.G.fR b hb j hj hj'), h.G.tm, fun b hb => (k.G.T b (Nat.lt_of_lt_of_le hb h.G.n)).trans (h.G.T b hb), Nat.le_trans h.G.n k.G.n⟩
  · intro b h1 h2 h3; rw [k.I b h1 h2 h3, h.I b h1 h2 h3]
  · intro b h1; rw [k.L b h1, h.L b h1]
  · intro b h1 h2 h3; rw [k.R b h1 h2 h3, h.R b h1 h2 h3]
  · intro b h1; rw [k.T b h1, h.T b h1]
  · intro c j h1 h2; rw [k.q c j h1 h2, h.q c j h1 h2]
  · rw [k.l, h.l]
  · intro j h1; rw [k.f j h1, h.f j h1]
theorem Fr.of {W W' : Wd} {σ σ' : cl_S} {ρ ρ' : rf_S} {dc ds : Nat} (F : TFr σ σ' W.ts W'.ts dc ds) (Q : QFr ρ ρ') (le : W.le W') (tm : ∀ t, t < W.N → W.tm t ∈ W.ts) (tp : 324 < σ.2.2.2.2.1) {X : Nat → Prop} {Y : Nat → Nat → Prop} : Fr X Y scr W W' σ σ' ρ ρ' := by
  refine ⟨⟨le, F.fI, F.fR, tm, F.T, F.n⟩, fun b _ h1 h2 => F.I b h1 h2, F.L, fun b _ h1 h2 => F.R b h1 h2, fun b h => F.T b (by omega), fun c j hc _ => by rw [Q.o c hc], Q.l, fun j hj => ?_⟩
  unfold scr at hj
  exact Q.f j (by omega) (by omega) (by omega) (by omega) (by omega) (by omega)
theorem Fr.wk {X X' : Nat → Prop} {Y Y' : Nat → Nat → Prop} {Z Z' : Nat → Prop} {W W' : Wd} {σ σ' : cl_S} {ρ ρ' : rf_S} (h : Fr X Y Z W W' σ σ' ρ ρ') (hX : ∀ b, X b → X' b) (hY : ∀ c j, Y c j → Y' c j) (hZ : ∀ j, Z j → Z' j) : Fr X' Y' Z' W W' σ σ' ρ ρ' := ⟨h.G, fun b q => h.I b (fun k => q (hX b k)), h.L, fun b q => h.R b (fun k => q (hX b k)), h.T, fun c j hc q => h.q c j hc (fun k => q (hY c j k)), h.l, fun j q => h.f j (fun k => q (hZ j k))⟩
theorem CfgR.fr {W W' : Wd} {σ σ' : cl_S} {ρ ρ' : rf_S} (h : CfgR W σ ρ) (le : W.le W') (hI : ∀ i, i < 10 → σ'.1 (W.cf + i) = σ.1 (W.cf + i)) (hq : ∀ c, 27 < c → c < 38 → ρ'.1 c = ρ.1 c) (hf : ∀ j, j = 55 ∨ j = 60 ∨ j = 64 → ρ'.1 0 j = ρ.1 0 j) : CfgR W' σ' ρ' := by
  have i0 := hI 0 (by omega)
  rw [Nat.add_zero] at i0
  refine ⟨?_, ?_, ?_, ?_, ?_, ?_, ?_, ?_, ?_, ?_⟩
  · rw [le.cf]; exact h.cf
  · rw [le.cf, le.np, i0, hf 55 (by omega)]; exact h.np
  · rw [le.cf, le.nc, i0, hf 60 (by omega)]; exact h.nc
  · rw [le.cf, le.ns, le.np, i0, hf 64 (by omega)]; exact h.ns
  · rw [le.cf, le.np, le.sz, le.bs, le.ar, le.ad, hI 2 (by omega), hI 3 (by omega), hI 4 (by omega), hq 29 (by omega) (by omega), hq 28 (by omega) (by omega), hq 30 (by omega) (by omega), hq 31 (by omega) (by omega)]; exact h.pa
  · rw [le.np, le.sz, le.bs]; exact h.dj
  · rw [le.np, le.ar, le.ad]; exact h.aj
  · rw [le.cf, le.np, le.nc, le.fr, le.to, le.ln, hI 5 (by omega), hI 6 (by omega), hI 7 (by omega), hq 32 (by omega) (by omega), hq 33 (by omega) (by omega), hq 34 (by omega) (by omega)]; exact h.ch
  · rw [le.cf, le.np, le.ns, le.who, le.stp, hI 8 (by omega), hI 9 (by omega), hq 35 (by omega) (by omega), hq 36 (by omega) (by omega)]; exact h.sl
  · intro q p h1 h2 hn; rw [hq 37 (by omega) (by omega), flR_cg le.to le.fr le.nc]; exact h.fl q p h1 h2 (by rw [← le.np]; exact hn)
theorem Stc.fr {σ σ' : cl_S} (h : Stc σ) (h1 : σ'.2.2.1 19 = σ.2.2.1 19) (h2 : ∀ s, s < 2 → σ'.2.2.1 (59 + 135 * s) = σ.2.2.1 (59 + 135 * s) ∧ σ'.2.2.1 (60 + 135 * s) = σ.2.2.1 (60 + 135 * s) ∧ σ'.2.2.1 (47 + 132 * s) 1 = σ.2.2.1 (47 + 132 * s) 1) (hT : ∀ b, b < 325 → σ'.2.2.2.1 b = σ.2.2.2.1 b) (hP : ∀ s p, s < 2 → p < 8 → σ'.1 (83 + 135 * s + 12 * p) 3 = σ.1 (83 + 135 * s + 12 * p) 3 ∧ ∀ j, j = 1 ∨ j = 2 → σ'.1 (92 + 135 * s + 12 * p) j = σ.1 (92 + 135 * s + 12 * p) j) (hr : σ'.1 179 2 = 0) : Stc σ' := by
  refine ⟨?_, ?_, ?_, ?_, ?_, ?_, ?_, ?_⟩
  · intro i hi; rw [h1, hT _ (by omega)]; exact h.kp i hi
  · intro s p hs hp; rw [(h2 s hs).1]; exact h.pp s p hs hp
  · intro s c hs hc; rw [(h2 s hs).2.1, hT _ (by omega)]; exact h.sp s c hs hc
  · intro s hs; rw [(h2 s hs).2.2]; exact h.dp s hs
  · intro s p hs hp; rw [hT _ (by omega), hT _ (by omega), hT _ (by omega)]; exact h.tl s p hs hp
  · intro s p hs hp; rw [(hP s p hs hp).1, (hP s p hs hp).2 1 (Or.inl rfl), (hP s p hs hp).2 2 (Or.inr rfl)]; exact h.pi s p hs hp
  · exact hr
  · rw [hT 16 (by omega), hT 8 (by omega)]; exact h.t2
theorem OthA.fr {σ σ' : cl_S} {ρ ρ' : rf_S} (h : OthA σ ρ) (hI : ∀ b, b < 31 → σ'.1 b = σ.1 b) (hq : ∀ c, 12 < c → c < 28 → ρ'.1 c = ρ.1 c) (hf : ∀ j, j = 26 ∨ j = 28 ∨ j = 41 ∨ j = 43 → ρ'.1 0 j = ρ.1 0 j) : OthA σ' ρ' := by
  refine ⟨?_, ?_, ?_, ?_, ?_⟩
  · rw [hI 1 (by omega), hI 2 (by omega), hq 16 (by omega) (by omega), hf 26 (by omega)]; exact h.tx
  · rw [hI 0 (by omega), hI 18 (by omega), hq 17 (by omega) (by omega), hf 28 (by omega)]; exact h.rw
  · intro i hi; rw [hI 30 (by omega), hI (20 + i) (by omega), hq 26 (by omega) (by omega), hq 27 (by omega) (by omega)]; exact h.kp i hi
  · rw [hI 6 (by omega), hI 14 (by omega), hq 25 (by omega) (by omega), hf 43 (by omega)]; exact h.sh
  · rw [hI 6 (by omega), hf 41 (by omega)]; exact h.pl
theorem OthB.fr {W W' : Wd} {k : Nat} {σ σ' : cl_S} {ρ ρ' : rf_S} (h : OthB W k σ ρ) (G : TGo W W' σ σ') (h0 : σ'.1 0 = σ.1 0) (h0' : σ'.2.2.1 0 = σ.2.2.1 0) (hI : ∀ b, (37 < b ∧ b < 41) ∨ b = 45 ∨ (78 < b ∧ b < 82) → σ'.1 b = σ.1 b) (h47 : ∀ j, j = 8 ∨ j = 14 ∨ j = 15 → σ'.1 47 j = σ.1 47 j) (hR : ∀ b, b = 39 ∨ b = 46 ∨ b = 82 → σ'.2.2.1 b = σ.2.2.1 b)
    (hq : ∀ c, c = 40 ∨ c = 41 ∨ c = 44 ∨ c = 45 ∨ c = 46 ∨ c = 47 ∨ c = 76 → ρ'.1 c = ρ.1 c) (hf : ∀ j, j = 18 ∨ j = 51 ∨ j = 52 ∨ j = 53 ∨ j = 78 ∨ j = 110 → ρ'.1 0 j = ρ.1 0 j) (ht : (ρ.1 48 0).toNatClampNeg ≤ (ρ'.1 48 0).toNatClampNeg) : OthB W' k σ' ρ' := by
  refine ⟨?_, ?_, ?_, ?_, ?_, ?_, ?_, ?_⟩
  · obtain ⟨hh, B⟩ := h.ou
    exact ⟨hh, B.fr G (hI 38 (by omega)) (hR 39 (by omega)) (hI 40 (by omega)) (fun j _ => by rw [hq 76 (by omega)]) (hf 110 (by omega))⟩
  · rw [hI 38 (by omega)]; exact h.of
  · intro b hb hn; rw [G.le.np] at hn; rw [hI 45 (by omega), hR 46 (by omega), hq 40 (by omega), hq 41 (by omega)]; exact ⟨(h.d0 b hb hn).1, (h.d0 b hb hn).2.1.le G.le, (h.d0 b hb hn).2.2⟩
  · obtain ⟨n, e1, e2, e3, e4, e5⟩ := h.ip
    refine ⟨n, e1, by rw [h47 15 (by omega)]; exact e2, by rw [hf 78 (by omega)]; exact e3, ?_, by rw [hq 44 (by omega)]; exact e5⟩
    intro j hj
    obtain ⟨t, q, a1, a2, a3, a4, a5, a6, a7⟩ := e4 j hj
    refine ⟨t, q, by rw [hI 79 (by omega)]; exact a1, by rw [hq 44 (by omega)]; exact a2, by omega, by rw [hI 80 (by omega)]; exact a4, by rw [hq 45 (by omega)]; exact a5, by rw [G.le.np]; exact a6, ?_⟩
    rw [hI 81 (by omega), hR 82 (by omega), hq 46 (by omega), hq 47 (by omega)]; exact a7.le G.le
  · rw [h47 8 (by omega), hf 51 (by omega), G.le.np]; exact h.on
  · rw [h0, hf 52 (by omega), hf 51 (by omega), hf 18 (by omega)]; exact h.bt
  · rw [h47 14 (by omega), hf 53 (by omega)]; exact h.wr
  · rw [h0', G.le.cf]; exact h.sp
end Z2_R2
