section Z2_ZA
variable {σ σ' σ1 : cl_S} {ρ ρ' ρ1 : rf_S} {x : Nat → Nat} {n c i m l u : Nat} {pd : Option Bool}
/-! the parser -/
def PX (σ1 : cl_S) (ρ1 : rf_S) (x : Nat → Nat) (n c : Nat) : Prop := (∀ j, j ≤ c → σ1.1 3 j = nI (tK x n j)) ∧ (∀ j, j ≤ c → σ1.1 4 j = nI (tp x n j)) ∧ (∀ j, j ≤ c → tK x n j = 2 → σ1.2.1 5 j = Int64.ofNat (enc 256 (tokN x n (tp x n j)))) ∧ (∀ j, j ≤ c → tK x n j = 3 → σ1.2.1 5 j = tokV x n (tp x n j)) ∧ (σ1.1 1 6 = nI (c + 1)) ∧ (c ≤ 6000) ∧ (fnl (tK x n c)) ∧ (∀ j, j < c → ¬ fnl (tK x n j)) ∧ (TxQ ρ1 x n) ∧ (∀ o, 0 < o → o < 42 → σ1.2.1 7 o = Int64.ofNat (enc 256 (opN o))) ∧ (∀ o, 0 < o → o < 42 → ρ1.2 13 o = Int64.ofNat (enc 128 (opN o))) ∧ ((σ1.2.2.2.1 8).2 = 2048)
theorem PX.k {σ1 : cl_S} {ρ1 : rf_S} {x : Nat → Nat} {n c : Nat} (hS : PX σ1 ρ1 x n c) : ∀ j, j ≤ c → σ1.1 3 j = nI (tK x n j) := hS.1
theorem PX.pl {σ1 : cl_S} {ρ1 : rf_S} {x : Nat → Nat} {n c : Nat} (hS : PX σ1 ρ1 x n c) : ∀ j, j ≤ c → σ1.1 4 j = nI (tp x n j) := hS.2.1
theorem PX.v2 {σ1 : cl_S} {ρ1 : rf_S} {x : Nat → Nat} {n c : Nat} (hS : PX σ1 ρ1 x n c) : ∀ j, j ≤ c → tK x n j = 2 → σ1.2.1 5 j = Int64.ofNat (enc 256 (tokN x n (tp x n j))) := hS.2.2.1
theorem PX.v3 {σ1 : cl_S} {ρ1 : rf_S} {x : Nat → Nat} {n c : Nat} (hS : PX σ1 ρ1 x n c) : ∀ j, j ≤ c → tK x n j = 3 → σ1.2.1 5 j = tokV x n (tp x n j) := hS.2.2.2.1
theorem PX.cn {σ1 : cl_S} {ρ1 : rf_S} {x : Nat → Nat} {n c : Nat} (hS : PX σ1 ρ1 x n c) : σ1.1 1 6 = nI (c + 1) := hS.2.2.2.2.1
theorem PX.c6 {σ1 : cl_S} {ρ1 : rf_S} {x : Nat → Nat} {n c : Nat} (hS : PX σ1 ρ1 x n c) : c ≤ 6000 := hS.2.2.2.2.2.1
theorem PX.fi {σ1 : cl_S} {ρ1 : rf_S} {x : Nat → Nat} {n c : Nat} (hS : PX σ1 ρ1 x n c) : fnl (tK x n c) := hS.2.2.2.2.2.2.1
theorem PX.no {σ1 : cl_S} {ρ1 : rf_S} {x : Nat → Nat} {n c : Nat} (hS : PX σ1 ρ1 x n c) : ∀ j, j < c → ¬ fnl (tK x n j) := hS.2.2.2.2.2.2.2.1
theorem PX.T {σ1 : cl_S} {ρ1 : rf_S} {x : Nat → Nat} {n c : Nat} (hS : PX σ1 ρ1 x n c) : TxQ ρ1 x n := hS.2.2.2.2.2.2.2.2.1
theorem PX.nC {σ1 : cl_S} {ρ1 : rf_S} {x : Nat → Nat} {n c : Nat} (hS : PX σ1 ρ1 x n c) : ∀ o, 0 < o → o < 42 → σ1.2.1 7 o = Int64.ofNat (enc 256 (opN o)) := hS.2.2.2.2.2.2.2.2.2.1
theorem PX.nQ {σ1 : cl_S} {ρ1 : rf_S} {x : Nat → Nat} {n c : Nat} (hS : PX σ1 ρ1 x n c) : ∀ o, 0 < o → o < 42 → ρ1.2 13 o = Int64.ofNat (enc 128 (opN o)) := hS.2.2.2.2.2.2.2.2.2.2.1
theorem PX.t8 {σ1 : cl_S} {ρ1 : rf_S} {x : Nat → Nat} {n c : Nat} (hS : PX σ1 ρ1 x n c) : (σ1.2.2.2.1 8).2 = 2048 := hS.2.2.2.2.2.2.2.2.2.2.2
def PF (σ1 σ : cl_S) (ρ1 ρ : rf_S) : Prop := (∀ d j, d ≠ 8 → d ≠ 10 → d ≠ 12 → d ≠ 13 → ¬ (d = 6 ∧ (j = 2 ∨ j = 4 ∨ j = 7 ∨ j = 11 ∨ j = 12 ∨ j = 13)) → σ.1 d j = σ1.1 d j) ∧ (∀ d, d ≠ 9 → d ≠ 11 → σ.2.1 d = σ1.2.1 d) ∧ (σ.2.2 = σ1.2.2) ∧ (∀ j, j ≠ 30 → j ≠ 33 → j ≠ 38 → j ≠ 39 → j ≠ 40 → j ≠ 44 → j ≠ 45 → j ≠ 48 → ρ.1 0 j = ρ1.1 0 j) ∧ (∀ d, d ≠ 0 → d ≠ 18 → d ≠ 20 → d ≠ 21 → d ≠ 22 → d ≠ 24 → ρ.1 d = ρ1.1 d) ∧ (∀ d, d ≠ 0 → d ≠ 19 → d ≠ 23 → ρ.2 d = ρ1.2 d)
theorem PF.I {σ1 σ : cl_S} {ρ1 ρ : rf_S} (hS : PF σ1 σ ρ1 ρ) : ∀ d j, d ≠ 8 → d ≠ 10 → d ≠ 12 → d ≠ 13 → ¬ (d = 6 ∧ (j = 2 ∨ j = 4 ∨ j = 7 ∨ j = 11 ∨ j = 12 ∨ j = 13)) → σ.1 d j = σ1.1 d j := hS.1
theorem PF.L {σ1 σ : cl_S} {ρ1 ρ : rf_S} (hS : PF σ1 σ ρ1 ρ) : ∀ d, d ≠ 9 → d ≠ 11 → σ.2.1 d = σ1.2.1 d := hS.2.1
theorem PF.r {σ1 σ : cl_S} {ρ1 ρ : rf_S} (hS : PF σ1 σ ρ1 ρ) : σ.2.2 = σ1.2.2 := hS.2.2.1
theorem PF.f {σ1 σ : cl_S} {ρ1 ρ : rf_S} (hS : PF σ1 σ ρ1 ρ) : ∀ j, j ≠ 30 → j ≠ 33 → j ≠ 38 → j ≠ 39 → j ≠ 40 → j ≠ 44 → j ≠ 45 → j ≠ 48 → ρ.1 0 j = ρ1.1 0 j := hS.2.2.2.1
theorem PF.q {σ1 σ : cl_S} {ρ1 ρ : rf_S} (hS : PF σ1 σ ρ1 ρ) : ∀ d, d ≠ 0 → d ≠ 18 → d ≠ 20 → d ≠ 21 → d ≠ 22 → d ≠ 24 → ρ.1 d = ρ1.1 d := hS.2.2.2.2.1
theorem PF.lq {σ1 σ : cl_S} {ρ1 ρ : rf_S} (hS : PF σ1 σ ρ1 ρ) : ∀ d, d ≠ 0 → d ≠ 19 → d ≠ 23 → ρ.2 d = ρ1.2 d := hS.2.2.2.2.2
def PR (σ1 : cl_S) (ρ1 : rf_S) (x : Nat → Nat) (n c i m l u : Nat) (pd : Option Bool) (σ : cl_S) (ρ : rf_S) : Prop := (PF σ1 σ ρ1 ρ) ∧ (σ.1 6 2 = nI i) ∧ (i ≤ c) ∧ (ρ.1 0 44 = nI (qk (tK x n i))) ∧ (ρ.1 0 45 = nI (tp x n i)) ∧ (tK x n i = 2 → ρ.2 0 46 = Int64.ofNat (enc 128 (tokN x n (tp x n i)))) ∧ (tK x n i = 3 → ρ.2 0 47 = tokV x n (tp x n i)) ∧ (ρ.1 0 48 = nI (ep x n (i + 1))) ∧ (σ.1 6 4 = nI m) ∧ (ρ.1 0 30 = nI m) ∧ (m ≤ 2048) ∧ (∀ j, j < m → σ.1 8 j = ρ.1 18 j) ∧ (σ.1 6 7 = nI l) ∧ (ρ.1 0 33 = nI l) ∧ (l ≤ 200) ∧ (∀ j, j < l → ∃ t, Nm t ∧ σ.2.1 9 j = Int64.ofNat (enc 256 t) ∧ ρ.2 19 j = Int64.ofNat (enc 128 t) ∧ ∃ w, w ≤ 2048 ∧ σ.1 10 j = nI w ∧ ρ.1 20 j = nI w) ∧ (σ.1 6 11 = nI (if pd = none then u else u + 1)) ∧ (ρ.1 0 38 = nI (if pd = none then u else u + 1)) ∧ (u ≤ m) ∧ (∀ j, j < (if pd = none then u else u + 1) → (∃ t, Nm t ∧ σ.2.1 11 j = Int64.ofNat (enc 256 t) ∧ ρ.2 23 j = Int64.ofNat (enc 128 t)) ∧ σ.1 13 j = ρ.1 22 j) ∧ (∀ j, j < u → ∃ w, w < m ∧ σ.1 12 j = nI w ∧ ρ.1 21 j = nI w ∧ ((ρ.1 24 j = 0 ∧ σ.1 8 w ≠ 0) ∨ (ρ.1 24 j = 1 ∧ σ.1 8 w = 0))) ∧ (∀ j k, j < k → k < u → σ.1 12 j ≠ σ.1 12 k) ∧ (∀ b, pd = some b → σ.1 12 u = nI m ∧ ρ.1 21 u = nI m ∧ ρ.1 24 u = bI b) ∧ (σ.1 6 12 = 0 ∧ ρ.1 0 39 = 0) ∧ (σ.1 6 13 = -1)
theorem PR.F {σ1 : cl_S} {ρ1 : rf_S} {x : Nat → Nat} {n c i m l u : Nat} {pd : Option Bool} {σ : cl_S} {ρ : rf_S} (hS : PR σ1 ρ1 x n c i m l u pd σ ρ) : PF σ1 σ ρ1 ρ := hS.1
theorem PR.a {σ1 : cl_S} {ρ1 : rf_S} {x : Nat → Nat} {n c i m l u : Nat} {pd : Option Bool} {σ : cl_S} {ρ : rf_S} (hS : PR σ1 ρ1 x n c i m l u pd σ ρ) : σ.1 6 2 = nI i := hS.2.1
theorem PR.ic {σ1 : cl_S} {ρ1 : rf_S} {x : Nat → Nat} {n c i m l u : Nat} {pd : Option Bool} {σ : cl_S} {ρ : rf_S} (hS : PR σ1 ρ1 x n c i m l u pd σ ρ) : i ≤ c := hS.2.2.1
theorem PR.tk {σ1 : cl_S} {ρ1 : rf_S} {x : Nat → Nat} {n c i m l u : Nat} {pd : Option Bool} {σ : cl_S} {ρ : rf_S} (hS : PR σ1 ρ1 x n c i m l u pd σ ρ) : ρ.1 0 44 = nI (qk (tK x n i)) := hS.2.2.2.1
theorem PR.tpl {σ1 : cl_S} {ρ1 : rf_S} {x : Nat → Nat} {n c i m l u : Nat} {pd : Option Bool} {σ : cl_S} {ρ : rf_S} (hS : PR σ1 ρ1 x n c i m l u pd σ ρ) : ρ.1 0 45 = nI (tp x n i) := hS.2.2.2.2.1
theorem PR.tv2 {σ1 : cl_S} {ρ1 : rf_S} {x : Nat → Nat} {n c i m l u : Nat} {pd : Option Bool} {σ : cl_S} {ρ : rf_S} (hS : PR σ1 ρ1 x n c i m l u pd σ ρ) : tK x n i = 2 → ρ.2 0 46 = Int64.ofNat (enc 128 (tokN x n (tp x n i))) := hS.2.2.2.2.2.1
theorem PR.tv3 {σ1 : cl_S} {ρ1 : rf_S} {x : Nat → Nat} {n c i m l u : Nat} {pd : Option Bool} {σ : cl_S} {ρ : rf_S} (hS : PR σ1 ρ1 x n c i m l u pd σ ρ) : tK x n i = 3 → ρ.2 0 47 = tokV x n (tp x n i) := hS.2.2.2.2.2.2.1
theorem PR.te {σ1 : cl_S} {ρ1 : rf_S} {x : Nat → Nat} {n c i m l u : Nat} {pd : Option Bool} {σ : cl_S} {ρ : rf_S} (hS : PR σ1 ρ1 x n c i m l u pd σ ρ) : ρ.1 0 48 = nI (ep x n (i + 1)) := hS.2.2.2.2.2.2.2.1
theorem PR.m1 {σ1 : cl_S} {ρ1 : rf_S} {x : Nat → Nat} {n c i m l u : Nat} {pd : Option Bool} {σ : cl_S} {ρ : rf_S} (hS : PR σ1 ρ1 x n c i m l u pd σ ρ) : σ.1 6 4 = nI m := hS.2.2.2.2.2.2.2.2.1
theorem PR.m2 {σ1 : cl_S} {ρ1 : rf_S} {x : Nat → Nat} {n c i m l u : Nat} {pd : Option Bool} {σ : cl_S} {ρ : rf_S} (hS : PR σ1 ρ1 x n c i m l u pd σ ρ) : ρ.1 0 30 = nI m := hS.2.2.2.2.2.2.2.2.2.1
theorem PR.m3 {σ1 : cl_S} {ρ1 : rf_S} {x : Nat → Nat} {n c i m l u : Nat} {pd : Option Bool} {σ : cl_S} {ρ : rf_S} (hS : PR σ1 ρ1 x n c i m l u pd σ ρ) : m ≤ 2048 := hS.2.2.2.2.2.2.2.2.2.2.1
theorem PR.w {σ1 : cl_S} {ρ1 : rf_S} {x : Nat → Nat} {n c i m l u : Nat} {pd : Option Bool} {σ : cl_S} {ρ : rf_S} (hS : PR σ1 ρ1 x n c i m l u pd σ ρ) : ∀ j, j < m → σ.1 8 j = ρ.1 18 j := hS.2.2.2.2.2.2.2.2.2.2.2.1
theorem PR.l1 {σ1 : cl_S} {ρ1 : rf_S} {x : Nat → Nat} {n c i m l u : Nat} {pd : Option Bool} {σ : cl_S} {ρ : rf_S} (hS : PR σ1 ρ1 x n c i m l u pd σ ρ) : σ.1 6 7 = nI l := hS.2.2.2.2.2.2.2.2.2.2.2.2.1
theorem PR.l2 {σ1 : cl_S} {ρ1 : rf_S} {x : Nat → Nat} {n c i m l u : Nat} {pd : Option Bool} {σ : cl_S} {ρ : rf_S} (hS : PR σ1 ρ1 x n c i m l u pd σ ρ) : ρ.1 0 33 = nI l := hS.2.2.2.2.2.2.2.2.2.2.2.2.2.1
theorem PR.l3 {σ1 : cl_S} {ρ1 : rf_S} {x : Nat → Nat} {n c i m l u : Nat} {pd : Option Bool} {σ : cl_S} {ρ : rf_S} (hS : PR σ1 ρ1 x n c i m l u pd σ ρ) : l ≤ 200 := hS.2.2.2.2.2.2.2.2.2.2.2.2.2.2.1
theorem PR.ln {σ1 : cl_S} {ρ1 : rf_S} {x : Nat → Nat} {n c i m l u : Nat} {pd : Option Bool} {σ : cl_S} {ρ : rf_S} (hS : PR σ1 ρ1 x n c i m l u pd σ ρ) : ∀ j, j < l → ∃ t, Nm t ∧ σ.2.1 9 j = Int64.ofNat (enc 256 t) ∧ ρ.2 19 j = Int64.ofNat (enc 128 t) ∧ ∃ w, w ≤ 2048 ∧ σ.1 10 j = nI w ∧ ρ.1 20 j = nI w := hS.2.2.2.2.2.2.2.2.2.2.2.2.2.2.2.1
theorem PR.u1 {σ1 : cl_S} {ρ1 : rf_S} {x : Nat → Nat} {n c i m l u : Nat} {pd : Option Bool} {σ : cl_S} {ρ : rf_S} (hS : PR σ1 ρ1 x n c i m l u pd σ ρ) : σ.1 6 11 = nI (if pd = none then u else u + 1) := hS.2.2.2.2.2.2.2.2.2.2.2.2.2.2.2.2.1
theorem PR.u2 {σ1 : cl_S} {ρ1 : rf_S} {x : Nat → Nat} {n c i m l u : Nat} {pd : Option Bool} {σ : cl_S} {ρ : rf_S} (hS : PR σ1 ρ1 x n c i m l u pd σ ρ) : ρ.1 0 38 = nI (if pd = none then u else u + 1) := hS.2.2.2.2.2.2.2.2.2.2.2.2.2.2.2.2.2.1
theorem PR.u3 {σ1 : cl_S} {ρ1 : rf_S} {x : Nat → Nat} {n c i m l u : Nat} {pd : Option Bool} {σ : cl_S} {ρ : rf_S} (hS : PR σ1 ρ1 x n c i m l u pd σ ρ) : u ≤ m := hS.2.2.2.2.2.2.2.2.2.2.2.2.2.2.2.2.2.2.1
theorem PR.un {σ1 : cl_S} {ρ1 : rf_S} {x : Nat → Nat} {n c i m l u : Nat} {pd : Option Bool} {σ : cl_S} {ρ : rf_S} (hS : PR σ1 ρ1 x n c i m l u pd σ ρ) : ∀ j, j < (if pd = none then u else u + 1) → (∃ t, Nm t ∧ σ.2.1 11 j = Int64.ofNat (enc 256 t) ∧ ρ.2 23 j = Int64.ofNat (enc 128 t)) ∧ σ.1 13 j = ρ.1 22 j := hS.2.2.2.2.2.2.2.2.2.2.2.2.2.2.2.2.2.2.2.1
theorem PR.uw {σ1 : cl_S} {ρ1 : rf_S} {x : Nat → Nat} {n c i m l u : Nat} {pd : Option Bool} {σ : cl_S} {ρ : rf_S} (hS : PR σ1 ρ1 x n c i m l u pd σ ρ) : ∀ j, j < u → ∃ w, w < m ∧ σ.1 12 j = nI w ∧ ρ.1 21 j = nI w ∧ ((ρ.1 24 j = 0 ∧ σ.1 8 w ≠ 0) ∨ (ρ.1 24 j = 1 ∧ σ.1 8 w = 0)) := hS.2.2.2.2.2.2.2.2.2.2.2.2.2.2.2.2.2.2.2.2.1
theorem PR.ui {σ1 : cl_S} {ρ1 : rf_S} {x : Nat → Nat} {n c i m l u : Nat} {pd : Option Bool} {σ : cl_S} {ρ : rf_S} (hS : PR σ1 ρ1 x n c i m l u pd σ ρ) : ∀ j k, j < k → k < u → σ.1 12 j ≠ σ.1 12 k := hS.2.2.2.2.2.2.2.2.2.2.2.2.2.2.2.2.2.2.2.2.2.1
theorem PR.pe {σ1 : cl_S} {ρ1 : rf_S} {x : Nat → Nat} {n c i m l u : Nat} {pd : Option Bool} {σ : cl_S} {ρ : rf_S} (hS : PR σ1 ρ1 x n c i m l u pd σ ρ) : ∀ b, pd = some b → σ.1 12 u = nI m ∧ ρ.1 21 u = nI m ∧ ρ.1 24 u = bI b := hS.2.2.2.2.2.2.2.2.2.2.2.2.2.2.2.2.2.2.2.2.2.2.1
theorem PR.ft {σ1 : cl_S} {ρ1 : rf_S} {x : Nat → Nat} {n c i m l u : Nat} {pd : Option Bool} {σ : cl_S} {ρ : rf_S} (hS : PR σ1 ρ1 x n c i m l u pd σ ρ) : σ.1 6 12 = 0 ∧ ρ.1 0 39 = 0 := hS.2.2.2.2.2.2.2.2.2.2.2.2.2.2.2.2.2.2.2.2.2.2.2.1
theorem PR.fp {σ1 : cl_S} {ρ1 : rf_S} {x : Nat → Nat} {n c i m l u : Nat} {pd : Option Bool} {σ : cl_S} {ρ : rf_S} (hS : PR σ1 ρ1 x n c i m l u pd σ ρ) : σ.1 6 13 = -1 := hS.2.2.2.2.2.2.2.2.2.2.2.2.2.2.2.2.2.2.2.2.2.2.2.2
/-- a fault has been met -/
def FR (σ1 σ : cl_S) (ρ1 ρ : rf_S) (c : Nat) : Prop := (PF σ1 σ ρ1 ρ) ∧ (∃ i, i ≤ c ∧ σ.1 6 2 = nI i) ∧ (∃ f, 0 < f ∧ f < 8 ∧ σ.1 6 12 = nI f ∧ ρ.1 0 39 = nI f) ∧ (σ.1 6 13 = ρ.1 0 40)
theorem FR.F {σ1 σ : cl_S} {ρ1 ρ : rf_S} {c : Nat} (hS : FR σ1 σ ρ1 ρ c) : PF σ1 σ ρ1 ρ := hS.1
theorem FR.a {σ1 σ : cl_S} {ρ1 ρ : rf_S} {c : Nat} (hS : FR σ1 σ ρ1 ρ c) : ∃ i, i ≤ c ∧ σ.1 6 2 = nI i := hS.2.1
theorem FR.ft {σ1 σ : cl_S} {ρ1 ρ : rf_S} {c : Nat} (hS : FR σ1 σ ρ1 ρ c) : ∃ f, 0 < f ∧ f < 8 ∧ σ.1 6 12 = nI f ∧ ρ.1 0 39 = nI f := hS.2.2.1
theorem FR.fp {σ1 σ : cl_S} {ρ1 ρ : rf_S} {c : Nat} (hS : FR σ1 σ ρ1 ρ c) : σ.1 6 13 = ρ.1 0 40 := hS.2.2.2
theorem PF.tok {i : Nat} (F : PF σ1 σ ρ1 ρ) (X : PX σ1 ρ1 x n c) (ha : σ.1 6 2 = nI i) (hi : i ≤ c) : fc_X0_token 6 σ = some (nI (tK x n i), σ) := by
  have := X.c6
  unfold fc_X0_token bc_X0_token_0
  rw [ha, n_ix (show i < 6001 by omega) (by omega), n_cl (show i < 2147483648 by omega), show (1 + 2) = 3 from rfl, F.I 3 i (by decide) (by decide) (by decide) (by decide) (by omega), X.k i hi]
theorem PF.plc {i : Nat} (F : PF σ1 σ ρ1 ρ) (X : PX σ1 ρ1 x n c) (hi : i ≤ c) : σ.1 4 i = nI (tp x n i) := by
  rw [F.I 4 i (by decide) (by decide) (by decide) (by decide) (by omega), X.pl i hi]
theorem PF.val {j : Nat} (F : PF σ1 σ ρ1 ρ) : σ.2.1 5 j = σ1.2.1 5 j := by rw [F.L 5 (by decide) (by decide)]
theorem PF.T (F : PF σ1 σ ρ1 ρ) (X : PX σ1 ρ1 x n c) : TxQ ρ x n := ⟨by rw [F.f 26 (by decide) (by decide) (by decide) (by decide) (by decide) (by decide) (by decide) (by decide)]; exact X.T.ln, X.T.le, fun j => by rw [F.q 16 (by decide) (by decide) (by decide) (by decide) (by decide) (by decide)]; exact X.T.ox j, X.T.b⟩
theorem PF.nx {p : Nat} (F : PF σ1 σ ρ1 ρ) (K : TkQ ρ ρ' x n p) : PF σ1 σ ρ1 ρ' := ⟨F.I, F.L, F.r, fun j a b c d e f g h => by rw [K.f j f g h]; exact F.f j a b c d e f g h, fun d a b c e f g => by rw [K.q d a]; exact F.q d a b c e f g, fun d a b c => by rw [K.l d a]; exact F.lq d a b c⟩
theorem PF.w6 {j : Nat} {v : Int32} (F : PF σ1 σ ρ1 ρ) (hj : j = 2 ∨ j = 4 ∨ j = 7 ∨ j = 11 ∨ j = 12 ∨ j = 13) : PF σ1 (cl_w σ 6 j v) ρ1 ρ := ⟨fun d k a b c e f => by rw [g_w, if_neg (fun w => f ⟨w.1, by rw [w.2]; exact hj⟩)]; exact F.I d k a b c e f, F.L, F.r, F.f, F.q, F.lq⟩
theorem PF.wa {d j : Nat} {v : Int32} (F : PF σ1 σ ρ1 ρ) (hd : d = 8 ∨ d = 10 ∨ d = 12 ∨ d = 13) : PF σ1 (cl_w σ d j v) ρ1 ρ := ⟨fun d' k a b c e f => by rw [r_w (by omega)]; exact F.I d' k a b c e f, F.L, F.r, F.f, F.q, F.lq⟩
theorem PF.wl {d j : Nat} {v : Int64} (F : PF σ1 σ ρ1 ρ) (hd : d = 9 ∨ d = 11) : PF σ1 (cl_wl σ d j v) ρ1 ρ := ⟨F.I, fun d' a b => by rw [r_l (by omega)]; exact F.L d' a b, F.r, F.f, F.q, F.lq⟩
theorem PF.q0 {j : Nat} {v : Int32} (F : PF σ1 σ ρ1 ρ) (hj : j = 30 ∨ j = 33 ∨ j = 38 ∨ j = 39 ∨ j = 40 ∨ j = 44 ∨ j = 45 ∨ j = 48) : PF σ1 σ ρ1 (rf_w ρ 0 j v) := ⟨F.I, F.L, F.r, fun k a b c d e f g h => by rw [q_wk (by omega)]; exact F.f k a b c d e f g h, fun d a b c e f g => by rw [q_w a]; exact F.q d a b c e f g, F.lq⟩
theorem PF.qa {d j : Nat} {v : Int32} (F : PF σ1 σ ρ1 ρ) (hd : d = 18 ∨ d = 20 ∨ d = 21 ∨ d = 22 ∨ d = 24) : PF σ1 σ ρ1 (rf_w ρ d j v) := ⟨F.I, F.L, F.r, fun k a b c e f g h o => by rw [q_w (by omega)]; exact F.f k a b c e f g h o, fun d' a b c e f g => by rw [q_w (by omega)]; exact F.q d' a b c e f g, F.lq⟩
theorem PF.ql {d j : Nat} {v : Int64} (F : PF σ1 σ ρ1 ρ) (hd : d = 19 ∨ d = 23) : PF σ1 σ ρ1 (rf_wl ρ d j v) := ⟨F.I, F.L, F.r, F.f, F.q, fun d' a b c => by rw [q_l (by omega)]; exact F.lq d' a b c⟩
/-- one token on -/
theorem PR.adv (h : PR σ1 ρ1 x n c i m l u pd σ ρ) (X : PX σ1 ρ1 x n c) (hi : i < c) : ∃ σ' ρ', fc_X0_advance 6 σ = some σ' ∧ fq_next ρ = some ρ' ∧ PR σ1 ρ1 x n c (i + 1) m l u pd σ' ρ' := by
  have c6 := X.c6
  obtain ⟨ρ', e', K⟩ := q_next (h.F.T X) (ep_le (x := x) (i + 1)) h.te
  have e1 : fc_X0_advance 6 σ = some (cl_w σ 6 2 (nI (i + 1))) := by
    unfold fc_X0_advance bc_X0_advance_0
    rw [h.a, h.F.I 1 6 (by decide) (by decide) (by decide) (by decide) (by decide), X.cn, show nI i + (1:Int32) = nI (i + 1) from n_add i 1, if_neg (fun q => by have := (n_le (by omega) (by omega)).mp q; omega), vl_eq]
  refine ⟨_, ρ', e1, e', ?_⟩
  have w : ∀ d j, ¬ (d = 6 ∧ j = 2) → (cl_w σ 6 2 (nI (i + 1))).1 d j = σ.1 d j := fun d j q => by rw [g_w, if_neg q]
  have wa : ∀ d, d ≠ 6 → (cl_w σ 6 2 (nI (i + 1))).1 d = σ.1 d := fun d q => r_w q
  exact ⟨(h.F.nx K).w6 (Or.inl rfl), r_ws, by omega, K.k, K.pl, K.v2, K.v3, K.e, by rw [w 6 4 (by decide)]; exact h.m1, by rw [K.f 30 (by decide) (by decide) (by decide)]; exact h.m2, h.m3, fun j hj => by rw [wa 8 (by decide), K.q 18 (by decide)]; exact h.w j hj, by rw [w 6 7 (by decide)]; exact h.l1, by rw [K.f 33 (by decide) (by decide) (by decide)]; exact h.l2, h.l3, fun j hj => by rw [r_wL, K.l 19 (by decide), wa 10 (by decide), K.q 20 (by decide)]; exact h.ln j hj, by rw [w 6 11 (by decide)]; exact h.u1, by rw [K.f 38 (by decide) (by decide) (by decide)]; exact h.u2, h.u3, fun j hj => by rw [r_wL, K.l 23 (by decide), wa 13 (by decide), K.q 22 (by decide)]; exact h.un j hj, fun j hj => by rw [wa 12 (by decide), K.q 21 (by decide), K.q 24 (by decide), wa 8 (by decide)]; exact h.uw j hj, fun j k a b => by rw [wa 12 (by decide)]; exact h.ui j k a b, fun b hb => by rw [wa 12 (by decide), K.q 21 (by decide), K.q 24 (by decide)]; exact h.pe b hb, ⟨by rw [w 6 12 (by decide)]; exact h.ft.1, by rw [K.f 39 (by decide) (by decide) (by decide)]; exact h.ft.2⟩, by rw [w 6 13 (by decide)]; exact h.fp⟩
theorem PX.lt (X : PX σ1 ρ1 x n c) (hi : i ≤ c) (h : ¬ fnl (tK x n i)) : i < c := by
  rcases Nat.lt_or_ge i c with q | q
  · exact q
  · have : i = c := by omega
    rw [this] at h; exact absurd X.fi h
/-- a fault -/
theorem PR.fail {f : Nat} {v : Int32} (h : PR σ1 ρ1 x n c i m l u pd σ ρ) (h0 : 0 < f) (h8 : f < 8) : ∃ σ' ρ', fc_X0_fail 6 (nI f) v σ = some σ' ∧ fq_fault (nI f) v ρ = some ρ' ∧ FR σ1 σ' ρ1 ρ' c := by
  unfold fc_X0_fail bc_X0_fail_0 fq_fault bq_fault_0
  rw [if_pos h.ft.1, if_pos h.ft.2]
  simp only [vl_eq]
  exact ⟨_, _, rfl, rfl, ⟨((((h.F.w6 (by omega)).w6 (by omega)).q0 (by omega)).q0 (by omega)), ⟨i, h.ic, by rw [r_wk (by decide), r_wk (by decide)]; exact h.a⟩, ⟨f, h0, h8, by rw [r_wk (by decide), r_ws], by rw [q_wk (by decide), q_ws]⟩, by rw [r_ws, q_ws]⟩⟩
theorem FR.nz (h : FR σ1 σ ρ1 ρ c) : ¬ σ.1 6 12 = 0 ∧ ¬ ρ.1 0 39 = 0 ∧ ¬ ρ.1 0 39 ≤ 0 := by
  obtain ⟨f, h0, h8, e1, e2⟩ := h.ft
  refine ⟨fun q => ?_, fun q => ?_, fun q => ?_⟩
  · rw [e1] at q; have := (n_eq (a := f) (b := 0) (by omega) (by omega)).mp q; omega
  · rw [e2] at q; have := (n_eq (a := f) (b := 0) (by omega) (by omega)).mp q; omega
  · rw [e2] at q; have := (n_le (a := f) (b := 0) (by omega) (by omega)).mp q; omega
theorem FR.fail {k v : Int32} (h : FR σ1 σ ρ1 ρ c) : fc_X0_fail 6 k v σ = some σ := by
  unfold fc_X0_fail bc_X0_fail_0
  rw [if_neg h.nz.1]
theorem FR.adv (h : FR σ1 σ ρ1 ρ c) (X : PX σ1 ρ1 x n c) : ∃ σ', fc_X0_advance 6 σ = some σ' ∧ FR σ1 σ' ρ1 ρ c := by
  have c6 := X.c6
  obtain ⟨i, hi, ha⟩ := h.a
  unfold fc_X0_advance bc_X0_advance_0
  rw [ha, h.F.I 1 6 (by decide) (by decide) (by decide) (by decide) (by decide), X.cn, show nI i + (1:Int32) = nI (i + 1) from n_add i 1]
  by_cases q : nI (c + 1) ≤ nI (i + 1)
  · rw [if_pos q]; exact ⟨σ, rfl, h⟩
  · rw [if_neg q, vl_eq]
    have : i < c := by
      apply Classical.byContradiction
      intro w
      exact q ((n_le (by omega) (by omega)).mpr (by omega))
    exact ⟨_, rfl, h.F.w6 (Or.inl rfl), ⟨i + 1, by omega, r_ws⟩, by rw [r_wk (by decide)]; exact h.ft, by rw [r_wk (by decide)]; exact h.fp⟩
theorem FR.tok (h : FR σ1 σ ρ1 ρ c) (X : PX σ1 ρ1 x n c) : ∃ k, fc_X0_token 6 σ = some (k, σ) := by
  obtain ⟨i, hi, ha⟩ := h.a
  exact ⟨_, h.F.tok X ha hi⟩
theorem FR.fat (h : FR σ1 σ ρ1 ρ c) (X : PX σ1 ρ1 x n c) : fc_X0_failAtToken 6 σ = some σ := by
  have c6 := X.c6
  obtain ⟨i, hi, ha⟩ := h.a
  unfold fc_X0_failAtToken bc_X0_failAtToken_0 bc_X0_failAtToken_15
  rw [h.F.tok X ha hi, bd2_eq, ha, n_ix (show i < 6001 by omega) (by omega), n_ix (show i < 6001 by omega) (by omega)]
  simp only [nn_eq]
  rw [h.fail, h.fail, bd1_eq]
  split <;> rfl
theorem PR.tok (h : PR σ1 ρ1 x n c i m l u pd σ ρ) (X : PX σ1 ρ1 x n c) : fc_X0_token 6 σ = some (nI (tK x n i), σ) := h.F.tok X h.a h.ic
theorem qk_inj : ∀ a, a < 8 → ∀ b, b < 8 → (qk a = qk b ↔ a = b) := by decide
theorem qk_lt : ∀ a, a < 8 → qk a < 8 := by decide
/-- the token is of a kind, on both sides -/
theorem PR.kd (h : PR σ1 ρ1 x n c i m l u pd σ ρ) (k : Nat) (hk : k < 8) : (nI (tK x n i) = nI k ↔ tK x n i = k) ∧ (ρ.1 0 44 = nI (qk k) ↔ tK x n i = k) := by
  have := tK_lt (x := x) (n := n) i
  have a := qk_lt (tK x n i) this
  have b := qk_lt k hk
  refine ⟨n_eq (by omega) (by omega), ?_⟩
  rw [h.tk, n_eq (by omega) (by omega), qk_inj _ this k hk]
theorem PR.fat (h : PR σ1 ρ1 x n c i m l u pd σ ρ) (X : PX σ1 ρ1 x n c) : ∃ σ' ρ', fc_X0_failAtToken 6 σ = some σ' ∧ fq_cannot ρ = some ρ' ∧ FR σ1 σ' ρ1 ρ' c := by
  have c6 := X.c6
  have ic := h.ic
  unfold fc_X0_failAtToken bc_X0_failAtToken_0 bc_X0_failAtToken_15 fq_cannot bq_cannot_0 bq_cannot_15
  rw [h.tok X, bd2_eq, h.a, n_ix (show i < 6001 by omega) (by omega), n_ix (show i < 6001 by omega) (by omega)]
  simp only [nn_eq]
  rw [n_cl (show i < 2147483648 by omega), show (1 + 3) = 4 from rfl, h.F.plc X h.ic, h.tpl]
  obtain ⟨k1, k2⟩ := h.kd 7 (by omega)
  by_cases q : tK x n i = 7
  · obtain ⟨σ', ρ', e1, e2, R⟩ := h.fail (f := 1) (v := nI (tp x n i)) (by omega) (by omega)
    rw [if_pos (show nI (tK x n i) = (7:Int32) from k1.mpr q), if_pos (show ρ.1 0 44 = (7:Int32) from k2.mpr q), show (1:Int32) = nI 1 from rfl, e1, e2]
    exact ⟨σ', ρ', rfl, rfl, R⟩
  · obtain ⟨σ', ρ', e1, e2, R⟩ := h.fail (f := 2) (v := nI (tp x n i)) (by omega) (by omega)
    rw [if_neg (show ¬ nI (tK x n i) = (7:Int32) from fun w => q (k1.mp w)), if_neg (show ¬ ρ.1 0 44 = (7:Int32) from fun w => q (k2.mp w)), show (2:Int32) = nI 2 from rfl, e1, e2]
    exact ⟨σ', ρ', rfl, rfl, R⟩
end Z2_ZA
