section Z2_T
/-! LAYER 2: the class's terms -/
def LstR (nx : Nat → Option Nat) : List Nat → Option Nat → Prop
  | [], r => r = none
  | a :: l, r => r = some a ∧ LstR nx l (nx a)
def Lst (nx : Nat → Option Nat) (r : Option Nat) (l : List Nat) : Prop := LstR nx l r
theorem Lst.nil {nx : Nat → Option Nat} : Lst nx none [] := rfl
theorem Lst.cons {nx : Nat → Option Nat} {a : Nat} {l : List Nat} (h : Lst nx (nx a) l) : Lst nx (some a) (a :: l) := ⟨rfl, h⟩
theorem Lst.ind {nx : Nat → Option Nat} {motive : (r : Option Nat) → (l : List Nat) → Lst nx r l → Prop} (nil : motive none [] Lst.nil) (cons : ∀ {a : Nat} {l : List Nat} (h : Lst nx (nx a) l), motive (nx a) l h → motive (some a) (a :: l) (Lst.cons h)) : ∀ {r : Option Nat} {l : List Nat} (h : Lst nx r l), motive r l h := by
  intro r l
  induction l generalizing r with
  | nil => intro h; cases (show r = none from h); exact nil
  | cons a l ih =>
    intro h
    obtain ⟨rfl, h'⟩ := (show r = some a ∧ Lst nx (nx a) l from h)
    exact cons h' (ih h')
theorem Lst.congr {nx nx' : Nat → Option Nat} {r : Option Nat} {l : List Nat} (h : Lst nx r l) (e : ∀ a ∈ l, nx' a = nx a) : Lst nx' r l := by
  induction h using Lst.ind with
  | nil => exact .nil
  | cons h ih =>
    refine .cons ?_
    rw [e _ List.mem_cons_self]
    exact ih (fun a ha => e a (List.mem_cons_of_mem _ ha))
def hB (k n x y z : Int32) : Int32 := ((((((k + ((31:Int32) * n)) * (31:Int32) + x) * (31:Int32)) + y) * (31:Int32) + z) * (-1640531535:Int32)).toUInt32 >>> ((20:Int32).toUInt32 &&& Int32.toUInt32 31) |>.toInt32
theorem c_bucket (k n : Int32) (x y z : Nat) (σ : cl_S) : fc_X10_bucketOf k n (some x) (some y) (some z) σ = some (hB k n (σ.1 x 2) (σ.1 y 2) (σ.1 z 2), σ) := rfl
theorem u_nI (x : UInt32) : x.toInt32 = nI x.toNat := by
  unfold nI
  apply Int32.toBitVec_inj.mp
  simp
theorem hB_lt (k n x y z : Int32) : ∃ m, m < 4096 ∧ hB k n x y z = nI m := by
  unfold hB
  generalize (((((k + ((31:Int32) * n)) * (31:Int32) + x) * (31:Int32)) + y) * (31:Int32) + z) * (-1640531535:Int32) = w
  refine ⟨(w.toUInt32 >>> ((20:Int32).toUInt32 &&& Int32.toUInt32 31)).toNat, ?_, u_nI _⟩
  have e : ((20:Int32).toUInt32 &&& Int32.toUInt32 31) = 20 := by decide
  rw [e, UInt32.toNat_shiftRight]
  have := w.toUInt32.toNat_lt
  rw [Nat.shiftRight_eq_div_pow]
  have e2 : (2:Nat) ^ ((20:UInt32).toNat % 32) = 1048576 := by decide
  rw [e2]; omega
/-- the parts of a kind -/
def shp (P Q : Option Nat → Prop) (k : Nat) (x y z : Option Nat) : Prop :=
  if k < 3 then Q x ∧ Q y ∧ Q z else if k = 4 ∨ k = 6 then P x ∧ Q y ∧ Q z else if k = 8 then P x ∧ P y ∧ P z else P x ∧ P y ∧ Q z
def inT (ts : List Nat) (x : Option Nat) : Prop := ∃ a, x = some a ∧ a ∈ ts
def isN (x : Option Nat) : Prop := x = some 33
def nxU (σ : cl_S) (x : Nat) (u : Nat) : Option Nat := if some x = σ.2.2.1 u 3 then σ.2.2.1 u 13 else if some x = σ.2.2.1 u 4 then σ.2.2.1 u 14 else σ.2.2.1 u 15
def kyE (σ : cl_S) (a b : Nat) : Prop := σ.1 a 0 = σ.1 b 0 ∧ σ.1 a 1 = σ.1 b 1 ∧ σ.2.2.1 a 3 = σ.2.2.1 b 3 ∧ σ.2.2.1 a 4 = σ.2.2.1 b 4 ∧ σ.2.2.1 a 5 = σ.2.2.1 b 5
def kyI (σ : cl_S) (a : Nat) (k n : Int32) (x y z : Option Nat) : Prop := σ.1 a 0 = k ∧ σ.1 a 1 = n ∧ σ.2.2.1 a 3 = x ∧ σ.2.2.1 a 4 = y ∧ σ.2.2.1 a 5 = z
def wdL (σ : cl_S) (a : Nat) (n : Nat) (f : Nat → Int32) : Prop := ∃ w, σ.2.2.1 a 6 = some w ∧ 324 < w ∧ w < σ.2.2.2.2.1 ∧ σ.2.2.2.1 w = (1, n) ∧ ∀ j, j < n → σ.1 w j = f j
/-- the bucket of a term by its fields -/
def bkt (σ : cl_S) (a : Nat) (m : Nat) : Prop := ∃ x y z, σ.2.2.1 a 3 = some x ∧ σ.2.2.1 a 4 = some y ∧ σ.2.2.1 a 5 = some z ∧ hB (σ.1 a 0) (σ.1 a 1) (σ.1 x 2) (σ.1 y 2) (σ.1 z 2) = nI m
def CSt0 (σ : cl_S) (ts : List Nat) : Prop := (∀ a ∈ ts, 33 < a ∧ a < σ.2.2.2.2.1 ∧ (a < 38 ∨ 324 < a) ∧ σ.2.2.2.1 a = (25, 0)) ∧ (ts.Nodup) ∧ (324 < σ.2.2.2.2.1) ∧ (∀ a ∈ ts, ∃ k, k < 10 ∧ σ.1 a 0 = nI k ∧ shp (inT ts) isN k (σ.2.2.1 a 3) (σ.2.2.1 a 4) (σ.2.2.1 a 5) ∧ (2 < k → σ.1 a 1 = 0)) ∧ (σ.1 33 0 = -1 ∧ σ.2.2.1 33 3 = some 33 ∧ σ.2.2.1 33 4 = some 33 ∧ σ.2.2.1 33 5 = some 33) ∧ (σ.2.2.1 31 0 = some 32 ∧ σ.2.2.2.1 32 = (4, 4096) ∧ σ.2.2.1 31 4 = some 33 ∧ σ.2.2.1 31 5 = some 34 ∧ σ.2.2.1 31 6 = some 36 ∧ σ.2.2.1 31 7 = some 37) ∧ (∀ a ∈ ts, ∀ b ∈ ts, σ.1 a 0 ≠ nI 1 → kyE σ a b → a = b) ∧ (∀ m, m < 4096 → ∃ l, Lst (fun a => σ.2.2.1 a 7) (σ.2.2.1 32 m) l ∧ ∀ a, a ∈ l ↔ a ∈ ts ∧ bkt σ a m) ∧ (Lst (fun a => σ.2.2.1 a 8) (σ.2.2.1 31 1) ts) ∧ (σ.1 31 2 = nI ts.length) ∧ (∀ x ∈ ts, ∃ l, Lst (nxU σ x) (σ.2.2.1 x 12) l ∧ ∀ u, u ∈ l ↔ u ∈ ts ∧ (σ.2.2.1 u 3 = some x ∨ σ.2.2.1 u 4 = some x ∨ σ.2.2.1 u 5 = some x))
theorem CSt0.mem {σ : cl_S} {ts : List Nat} (hS : CSt0 σ ts) : ∀ a ∈ ts, 33 < a ∧ a < σ.2.2.2.2.1 ∧ (a < 38 ∨ 324 < a) ∧ σ.2.2.2.1 a = (25, 0) := hS.1
theorem CSt0.nd {σ : cl_S} {ts : List Nat} (hS : CSt0 σ ts) : ts.Nodup := hS.2.1
theorem CSt0.top {σ : cl_S} {ts : List Nat} (hS : CSt0 σ ts) : 324 < σ.2.2.2.2.1 := hS.2.2.1
theorem CSt0.kd {σ : cl_S} {ts : List Nat} (hS : CSt0 σ ts) : ∀ a ∈ ts, ∃ k, k < 10 ∧ σ.1 a 0 = nI k ∧ shp (inT ts) isN k (σ.2.2.1 a 3) (σ.2.2.1 a 4) (σ.2.2.1 a 5) ∧ (2 < k → σ.1 a 1 = 0) := hS.2.2.2.1
theorem CSt0.non {σ : cl_S} {ts : List Nat} (hS : CSt0 σ ts) : σ.1 33 0 = -1 ∧ σ.2.2.1 33 3 = some 33 ∧ σ.2.2.1 33 4 = some 33 ∧ σ.2.2.1 33 5 = some 33 := hS.2.2.2.2.1
theorem CSt0.tms {σ : cl_S} {ts : List Nat} (hS : CSt0 σ ts) : σ.2.2.1 31 0 = some 32 ∧ σ.2.2.2.1 32 = (4, 4096) ∧ σ.2.2.1 31 4 = some 33 ∧ σ.2.2.1 31 5 = some 34 ∧ σ.2.2.1 31 6 = some 36 ∧ σ.2.2.1 31 7 = some 37 := hS.2.2.2.2.2.1
theorem CSt0.uq {σ : cl_S} {ts : List Nat} (hS : CSt0 σ ts) : ∀ a ∈ ts, ∀ b ∈ ts, σ.1 a 0 ≠ nI 1 → kyE σ a b → a = b := hS.2.2.2.2.2.2.1
theorem CSt0.bk {σ : cl_S} {ts : List Nat} (hS : CSt0 σ ts) : ∀ m, m < 4096 → ∃ l, Lst (fun a => σ.2.2.1 a 7) (σ.2.2.1 32 m) l ∧ ∀ a, a ∈ l ↔ a ∈ ts ∧ bkt σ a m := hS.2.2.2.2.2.2.2.1
theorem CSt0.old {σ : cl_S} {ts : List Nat} (hS : CSt0 σ ts) : Lst (fun a => σ.2.2.1 a 8) (σ.2.2.1 31 1) ts := hS.2.2.2.2.2.2.2.2.1
theorem CSt0.cnt {σ : cl_S} {ts : List Nat} (hS : CSt0 σ ts) : σ.1 31 2 = nI ts.length := hS.2.2.2.2.2.2.2.2.2.1
theorem CSt0.us {σ : cl_S} {ts : List Nat} (hS : CSt0 σ ts) : ∀ x ∈ ts, ∃ l, Lst (nxU σ x) (σ.2.2.1 x 12) l ∧ ∀ u, u ∈ l ↔ u ∈ ts ∧ (σ.2.2.1 u 3 = some x ∨ σ.2.2.1 u 4 = some x ∨ σ.2.2.1 u 5 = some x) := hS.2.2.2.2.2.2.2.2.2.2
def rowH (f : Nat → Int32) : Nat → Nat → Int32
  | n, 0 => nI n
  | n, j + 1 => rowH f n j * (31:Int32) + f j
def CSt (σ : cl_S) (ts : List Nat) : Prop := CSt0 σ ts ∧ (∀ a ∈ ts, σ.1 a 0 = nI 1 → ∃ n f, wdL σ a n f ∧ n ≤ 2048 ∧ σ.1 a 1 = rowH f n n) ∧ (∀ a ∈ ts, ∀ b ∈ ts, ∀ n f, σ.1 a 0 = nI 1 → σ.1 b 0 = nI 1 → wdL σ a n f → wdL σ b n f → a = b) ∧ (∃ S, σ.1 31 3 = nI S ∧ S ≤ ts.length ∧ ∀ a ∈ ts, σ.1 a 0 = nI 2 → ∃ i, i < S ∧ σ.1 a 1 = nI i)
theorem CSt.toCSt0 {σ : cl_S} {ts : List Nat} (hS : CSt σ ts) : CSt0 σ ts := hS.1
theorem CSt.mem {σ : cl_S} {ts : List Nat} (hS : CSt σ ts) : ∀ a ∈ ts, 33 < a ∧ a < σ.2.2.2.2.1 ∧ (a < 38 ∨ 324 < a) ∧ σ.2.2.2.1 a = (25, 0) := (hS.1).mem
theorem CSt.nd {σ : cl_S} {ts : List Nat} (hS : CSt σ ts) : ts.Nodup := (hS.1).nd
theorem CSt.top {σ : cl_S} {ts : List Nat} (hS : CSt σ ts) : 324 < σ.2.2.2.2.1 := (hS.1).top
theorem CSt.kd {σ : cl_S} {ts : List Nat} (hS : CSt σ ts) : ∀ a ∈ ts, ∃ k, k < 10 ∧ σ.1 a 0 = nI k ∧ shp (inT ts) isN k (σ.2.2.1 a 3) (σ.2.2.1 a 4) (σ.2.2.1 a 5) ∧ (2 < k → σ.1 a 1 = 0) := (hS.1).kd
theorem CSt.non {σ : cl_S} {ts : List Nat} (hS : CSt σ ts) : σ.1 33 0 = -1 ∧ σ.2.2.1 33 3 = some 33 ∧ σ.2.2.1 33 4 = some 33 ∧ σ.2.2.1 33 5 = some 33 := (hS.1).non
theorem CSt.tms {σ : cl_S} {ts : List Nat} (hS : CSt σ ts) : σ.2.2.1 31 0 = some 32 ∧ σ.2.2.2.1 32 = (4, 4096) ∧ σ.2.2.1 31 4 = some 33 ∧ σ.2.2.1 31 5 = some 34 ∧ σ.2.2.1 31 6 = some 36 ∧ σ.2.2.1 31 7 = some 37 := (hS.1).tms
theorem CSt.uq {σ : cl_S} {ts : List Nat} (hS : CSt σ ts) : ∀ a ∈ ts, ∀ b ∈ ts, σ.1 a 0 ≠ nI 1 → kyE σ a b → a = b := (hS.1).uq
theorem CSt.bk {σ : cl_S} {ts : List Nat} (hS : CSt σ ts) : ∀ m, m < 4096 → ∃ l, Lst (fun a => σ.2.2.1 a 7) (σ.2.2.1 32 m) l ∧ ∀ a, a ∈ l ↔ a ∈ ts ∧ bkt σ a m := (hS.1).bk
theorem CSt.old {σ : cl_S} {ts : List Nat} (hS : CSt σ ts) : Lst (fun a => σ.2.2.1 a 8) (σ.2.2.1 31 1) ts := (hS.1).old
theorem CSt.cnt {σ : cl_S} {ts : List Nat} (hS : CSt σ ts) : σ.1 31 2 = nI ts.length := (hS.1).cnt
theorem CSt.us {σ : cl_S} {ts : List Nat} (hS : CSt σ ts) : ∀ x ∈ ts, ∃ l, Lst (nxU σ x) (σ.2.2.1 x 12) l ∧ ∀ u, u ∈ l ↔ u ∈ ts ∧ (σ.2.2.1 u 3 = some x ∨ σ.2.2.1 u 4 = some x ∨ σ.2.2.1 u 5 = some x) := (hS.1).us
theorem CSt.wd {σ : cl_S} {ts : List Nat} (hS : CSt σ ts) : ∀ a ∈ ts, σ.1 a 0 = nI 1 → ∃ n f, wdL σ a n f ∧ n ≤ 2048 ∧ σ.1 a 1 = rowH f n n := hS.2.1
theorem CSt.uqr {σ : cl_S} {ts : List Nat} (hS : CSt σ ts) : ∀ a ∈ ts, ∀ b ∈ ts, ∀ n f, σ.1 a 0 = nI 1 → σ.1 b 0 = nI 1 → wdL σ a n f → wdL σ b n f → a = b := hS.2.2.1
theorem CSt.sec {σ : cl_S} {ts : List Nat} (hS : CSt σ ts) : ∃ S, σ.1 31 3 = nI S ∧ S ≤ ts.length ∧ ∀ a ∈ ts, σ.1 a 0 = nI 2 → ∃ i, i < S ∧ σ.1 a 1 = nI i := hS.2.2.2
/-- walking a bucket -/
theorem c_find_lp (k n : Int32) (x y z : Option Nat) (σ : cl_S) : ∀ (l : List Nat) (r : Option Nat), Lst (fun a => σ.2.2.1 a 7) r l →
    (∃ a, a ∈ l ∧ kyI σ a k n x y z ∧ lp (fun w : ((Option Nat) × cl_S) => lc_X10_find_17 31 k n x y z w.1 w.2) (r, σ) = some (.inl (some a, σ))) ∨ ((∀ a ∈ l, ¬ kyI σ a k n x y z) ∧ lp (fun w : ((Option Nat) × cl_S) => lc_X10_find_17 31 k n x y z w.1 w.2) (r, σ) = some (.inr (none, σ))) := by
  intro l r h
  induction h using Lst.ind with
  | nil =>
    refine Or.inr ⟨fun a ha => (List.not_mem_nil ha).elim, lp_end ?_⟩
    show lc_X10_find_17 31 k n x y z none σ = _
    unfold lc_X10_find_17
    rw [if_pos rfl]
  | @cons a l h ih =>
    by_cases q : kyI σ a k n x y z
    · refine Or.inl ⟨a, List.mem_cons_self, q, lp_end ?_⟩
      show lc_X10_find_17 31 k n x y z (some a) σ = _
      unfold lc_X10_find_17
      obtain ⟨q1, q2, q3, q4, q5⟩ := q
      simp only [nn_eq, vl_eq, q1, q2, q3, q4, q5, if_true, reduceCtorEq, if_false]
    · have step : lc_X10_find_17 31 k n x y z (some a) σ = some (.inl (σ.2.2.1 a 7, σ)) := by
        unfold lc_X10_find_17 bc_X10_find_72i17
        simp only [nn_eq, vl_eq, reduceCtorEq, if_false]
        unfold kyI at q
        split
        · split
          · split
            · split
              · split
                · exact absurd ⟨by assumption, by assumption, by assumption, by assumption, by assumption⟩ q
                · rfl
              · rfl
            · rfl
          · rfl
        · rfl
      rcases ih with ⟨b, hb, hk, e⟩ | ⟨hn, e⟩
      · exact Or.inl ⟨b, List.mem_cons_of_mem _ hb, hk, (lp_next (s := (some a, σ)) step).trans e⟩
      · refine Or.inr ⟨fun b hb => ?_, (lp_next (s := (some a, σ)) step).trans e⟩
        rcases List.mem_cons.mp hb with rfl | hb
        · exact q
        · exact hn b hb
theorem shp_imp {P Q P' Q' : Option Nat → Prop} {k : Nat} {x y z : Option Nat} (h : shp P Q k x y z) (hP : ∀ r, P r → P' r) (hQ : ∀ r, Q r → Q' r) : shp P' Q' k x y z := by
  unfold shp at h ⊢
  split
  · rename_i c; rw [if_pos c] at h; exact ⟨hQ _ h.1, hQ _ h.2.1, hQ _ h.2.2⟩
  · rename_i c; rw [if_neg c] at h
    split
    · rename_i c; rw [if_pos c] at h; exact ⟨hP _ h.1, hQ _ h.2.1, hQ _ h.2.2⟩
    · rename_i c; rw [if_neg c] at h
      split
      · rename_i c; rw [if_pos c] at h; exact ⟨hP _ h.1, hP _ h.2.1, hP _ h.2.2⟩
      · rename_i c; rw [if_neg c] at h; exact ⟨hP _ h.1, hP _ h.2.1, hQ _ h.2.2⟩
/-- a part is a term, or none -/
def pt (ts : List Nat) (x : Nat) : Prop := x = 33 ∨ x ∈ ts
theorem shp_pt {ts : List Nat} {k : Nat} {x y z : Option Nat} (h : shp (inT ts) isN k x y z) : ∃ a b c, x = some a ∧ y = some b ∧ z = some c ∧ pt ts a ∧ pt ts b ∧ pt ts c := by
  have h1 : shp (fun r => ∃ a, r = some a ∧ pt ts a) (fun r => ∃ a, r = some a ∧ pt ts a) k x y z := shp_imp h (fun r ⟨a, e, m⟩ => ⟨a, e, Or.inr m⟩) (fun r e => ⟨33, e, Or.inl rfl⟩)
  unfold shp at h1
  have h2 : (∃ a, x = some a ∧ pt ts a) ∧ (∃ a, y = some a ∧ pt ts a) ∧ ∃ a, z = some a ∧ pt ts a := by
    split at h1
    · exact h1
    · split at h1
      · exact h1
      · split at h1 <;> exact h1
  obtain ⟨⟨a, ea, pa⟩, ⟨b, eb, pb⟩, c, ec, pc⟩ := h2
  exact ⟨a, b, c, ea, eb, ec, pa, pb, pc⟩
theorem c_find {σ : cl_S} {ts : List Nat} (C : CSt0 σ ts) (k n : Int32) (x y z : Nat) :
    (∃ a ∈ ts, kyI σ a k n (some x) (some y) (some z) ∧ fc_X10_find 31 k n (some x) (some y) (some z) σ = some (some a, σ)) ∨ ((∀ a ∈ ts, ¬ kyI σ a k n (some x) (some y) (some z)) ∧ fc_X10_find 31 k n (some x) (some y) (some z) σ = some (some 33, σ)) := by
  obtain ⟨m, hm, em⟩ := hB_lt k n (σ.1 x 2) (σ.1 y 2) (σ.1 z 2)
  obtain ⟨l, hl, ml⟩ := C.bk m hm
  have e0 : fc_X10_find 31 k n (some x) (some y) (some z) σ = bc_X10_find_17 31 k n (some x) (some y) (some z) (σ.2.2.1 32 m) σ := by
    unfold fc_X10_find bc_X10_find_0
    rw [C.tms.1, vl_eq, c_bucket, bd2_eq, nn_eq, C.tms.2.1, em, n_ix hm (by omega), vl_eq, n_cl (by omega)]
  rw [e0]
  unfold bc_X10_find_17
  rcases c_find_lp k n (some x) (some y) (some z) σ l _ hl with ⟨a, ha, hk, e⟩ | ⟨hn, e⟩
  · exact Or.inl ⟨a, ((ml a).mp ha).1, hk, by rw [e]; rfl⟩
  · refine Or.inr ⟨fun a ha hk => ?_, ?_⟩
    · refine hn a ((ml a).mpr ⟨ha, x, y, z, hk.2.2.1, hk.2.2.2.1, hk.2.2.2.2, ?_⟩) hk
      rw [hk.1, hk.2.1, em]
    · rw [e]
      show vl (σ.2.2.1 31 4) (fun r => some (r, σ)) = _
      rw [C.tms.2.2.1, vl_eq]
end Z2_T
