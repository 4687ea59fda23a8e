section Z2_T2
/-- what the making of a term changes -/
def Add (σ σ' : cl_S) (a : Nat) (k n : Int32) (x y z m : Nat) : Prop := (a = σ.2.2.2.2.1) ∧ (∀ b, b ≠ 31 → b ≠ a → σ'.1 b = σ.1 b) ∧ (∀ j, j ≠ 2 → j ≠ 8 → σ'.1 31 j = σ.1 31 j) ∧ (σ'.1 31 2 = σ.1 31 2 + 1) ∧ (σ'.1 31 8 = 0) ∧ (σ'.1 a 0 = k) ∧ (σ'.1 a 1 = n) ∧ (σ'.1 a 9 = 0) ∧ (∀ b, b ≠ a → σ'.2.1 b = σ.2.1 b) ∧ (∀ b j, b ≠ a → b ≠ 31 → b ≠ 32 → j ≠ 12 → σ'.2.2.1 b j = σ.2.2.1 b j) ∧ (∀ b, b ≠ a → b ≠ 31 → b ≠ 32 → b ≠ x → b ≠ y → b ≠ z → σ'.2.2.1 b = σ.2.2.1 b) ∧ (∀ j, j ≠ 1 → σ'.2.2.1 31 j = σ.2.2.1 31 j) ∧ (σ'.2.2.1 31 1 = some a) ∧ (∀ j, j ≠ m → σ'.2.2.1 32 j = σ.2.2.1 32 j) ∧ (σ'.2.2.1 32 m = some a) ∧ (σ'.2.2.1 a 3 = some x) ∧ (σ'.2.2.1 a 4 = some y) ∧ (σ'.2.2.1 a 5 = some z) ∧ (σ'.2.2.1 a 6 = none) ∧ (σ'.2.2.1 a 7 = σ.2.2.1 32 m) ∧ (σ'.2.2.1 a 8 = σ.2.2.1 31 1) ∧ (σ'.2.2.1 a 12 = none) ∧ (σ'.2.2.1 a 13 = σ.2.2.1 x 12) ∧ (y ≠ x → σ'.2.2.1 a 14 = σ.2.2.1 y 12) ∧ (z ≠ x → z ≠ y → σ'.2.2.1 a 15 = σ.2.2.1 z 12) ∧ (∀ b, b ≠ a → b ≠ 31 → b ≠ 32 → (b = x ∨ b = y ∨ b = z) → σ'.2.2.1 b 12 = some a) ∧ (∀ b, b ≠ a → b ≠ 31 → b ≠ 32 → ¬ (b = x ∨ b = y ∨ b = z) → σ'.2.2.1 b 12 = σ.2.2.1 b 12) ∧ (σ'.2.2.2.1 = va_up σ.2.2.2.1 a (25, 0)) ∧ (σ'.2.2.2.2.1 = σ.2.2.2.2.1 + 1) ∧ (σ'.2.2.2.2.2.1 = σ.2.2.2.2.2.1 - 1) ∧ (σ'.2.2.2.2.2.2 = σ.2.2.2.2.2.2 - 16)
theorem Add.a_eq {σ σ' : cl_S} {a : Nat} {k n : Int32} {x y z m : Nat} (hS : Add σ σ' a k n x y z m) : a = σ.2.2.2.2.1 := hS.1
theorem Add.I {σ σ' : cl_S} {a : Nat} {k n : Int32} {x y z m : Nat} (hS : Add σ σ' a k n x y z m) : ∀ b, b ≠ 31 → b ≠ a → σ'.1 b = σ.1 b := hS.2.1
theorem Add.I31 {σ σ' : cl_S} {a : Nat} {k n : Int32} {x y z m : Nat} (hS : Add σ σ' a k n x y z m) : ∀ j, j ≠ 2 → j ≠ 8 → σ'.1 31 j = σ.1 31 j := hS.2.2.1
theorem Add.I2 {σ σ' : cl_S} {a : Nat} {k n : Int32} {x y z m : Nat} (hS : Add σ σ' a k n x y z m) : σ'.1 31 2 = σ.1 31 2 + 1 := hS.2.2.2.1
theorem Add.I8 {σ σ' : cl_S} {a : Nat} {k n : Int32} {x y z m : Nat} (hS : Add σ σ' a k n x y z m) : σ'.1 31 8 = 0 := hS.2.2.2.2.1
theorem Add.A0 {σ σ' : cl_S} {a : Nat} {k n : Int32} {x y z m : Nat} (hS : Add σ σ' a k n x y z m) : σ'.1 a 0 = k := hS.2.2.2.2.2.1
theorem Add.A1 {σ σ' : cl_S} {a : Nat} {k n : Int32} {x y z m : Nat} (hS : Add σ σ' a k n x y z m) : σ'.1 a 1 = n := hS.2.2.2.2.2.2.1
theorem Add.A9 {σ σ' : cl_S} {a : Nat} {k n : Int32} {x y z m : Nat} (hS : Add σ σ' a k n x y z m) : σ'.1 a 9 = 0 := hS.2.2.2.2.2.2.2.1
theorem Add.L {σ σ' : cl_S} {a : Nat} {k n : Int32} {x y z m : Nat} (hS : Add σ σ' a k n x y z m) : ∀ b, b ≠ a → σ'.2.1 b = σ.2.1 b := hS.2.2.2.2.2.2.2.2.1
theorem Add.R {σ σ' : cl_S} {a : Nat} {k n : Int32} {x y z m : Nat} (hS : Add σ σ' a k n x y z m) : ∀ b j, b ≠ a → b ≠ 31 → b ≠ 32 → j ≠ 12 → σ'.2.2.1 b j = σ.2.2.1 b j := hS.2.2.2.2.2.2.2.2.2.1
theorem Add.Rr {σ σ' : cl_S} {a : Nat} {k n : Int32} {x y z m : Nat} (hS : Add σ σ' a k n x y z m) : ∀ b, b ≠ a → b ≠ 31 → b ≠ 32 → b ≠ x → b ≠ y → b ≠ z → σ'.2.2.1 b = σ.2.2.1 b := hS.2.2.2.2.2.2.2.2.2.2.1
theorem Add.R31 {σ σ' : cl_S} {a : Nat} {k n : Int32} {x y z m : Nat} (hS : Add σ σ' a k n x y z m) : ∀ j, j ≠ 1 → σ'.2.2.1 31 j = σ.2.2.1 31 j := hS.2.2.2.2.2.2.2.2.2.2.2.1
theorem Add.R1 {σ σ' : cl_S} {a : Nat} {k n : Int32} {x y z m : Nat} (hS : Add σ σ' a k n x y z m) : σ'.2.2.1 31 1 = some a := hS.2.2.2.2.2.2.2.2.2.2.2.2.1
theorem Add.R32 {σ σ' : cl_S} {a : Nat} {k n : Int32} {x y z m : Nat} (hS : Add σ σ' a k n x y z m) : ∀ j, j ≠ m → σ'.2.2.1 32 j = σ.2.2.1 32 j := hS.2.2.2.2.2.2.2.2.2.2.2.2.2.1
theorem Add.Rm {σ σ' : cl_S} {a : Nat} {k n : Int32} {x y z m : Nat} (hS : Add σ σ' a k n x y z m) : σ'.2.2.1 32 m = some a := hS.2.2.2.2.2.2.2.2.2.2.2.2.2.2.1
theorem Add.A3 {σ σ' : cl_S} {a : Nat} {k n : Int32} {x y z m : Nat} (hS : Add σ σ' a k n x y z m) : σ'.2.2.1 a 3 = some x := hS.2.2.2.2.2.2.2.2.2.2.2.2.2.2.2.1
theorem Add.A4 {σ σ' : cl_S} {a : Nat} {k n : Int32} {x y z m : Nat} (hS : Add σ σ' a k n x y z m) : σ'.2.2.1 a 4 = some y := hS.2.2.2.2.2.2.2.2.2.2.2.2.2.2.2.2.1
theorem Add.A5 {σ σ' : cl_S} {a : Nat} {k n : Int32} {x y z m : Nat} (hS : Add σ σ' a k n x y z m) : σ'.2.2.1 a 5 = some z := hS.2.2.2.2.2.2.2.2.2.2.2.2.2.2.2.2.2.1
theorem Add.A6 {σ σ' : cl_S} {a : Nat} {k n : Int32} {x y z m : Nat} (hS : Add σ σ' a k n x y z m) : σ'.2.2.1 a 6 = none := hS.2.2.2.2.2.2.2.2.2.2.2.2.2.2.2.2.2.2.1
theorem Add.A7 {σ σ' : cl_S} {a : Nat} {k n : Int32} {x y z m : Nat} (hS : Add σ σ' a k n x y z m) : σ'.2.2.1 a 7 = σ.2.2.1 32 m := hS.2.2.2.2.2.2.2.2.2.2.2.2.2.2.2.2.2.2.2.1
theorem Add.A8 {σ σ' : cl_S} {a : Nat} {k n : Int32} {x y z m : Nat} (hS : Add σ σ' a k n x y z m) : σ'.2.2.1 a 8 = σ.2.2.1 31 1 := hS.2.2.2.2.2.2.2.2.2.2.2.2.2.2.2.2.2.2.2.2.1
theorem Add.A12 {σ σ' : cl_S} {a : Nat} {k n : Int32} {x y z m : Nat} (hS : Add σ σ' a k n x y z m) : σ'.2.2.1 a 12 = none := hS.2.2.2.2.2.2.2.2.2.2.2.2.2.2.2.2.2.2.2.2.2.1
theorem Add.A13 {σ σ' : cl_S} {a : Nat} {k n : Int32} {x y z m : Nat} (hS : Add σ σ' a k n x y z m) : σ'.2.2.1 a 13 = σ.2.2.1 x 12 := hS.2.2.2.2.2.2.2.2.2.2.2.2.2.2.2.2.2.2.2.2.2.2.1
theorem Add.A14 {σ σ' : cl_S} {a : Nat} {k n : Int32} {x y z m : Nat} (hS : Add σ σ' a k n x y z m) : y ≠ x → σ'.2.2.1 a 14 = σ.2.2.1 y 12 := hS.2.2.2.2.2.2.2.2.2.2.2.2.2.2.2.2.2.2.2.2.2.2.2.1
theorem Add.A15 {σ σ' : cl_S} {a : Nat} {k n : Int32} {x y z m : Nat} (hS : Add σ σ' a k n x y z m) : z ≠ x → z ≠ y → σ'.2.2.1 a 15 = σ.2.2.1 z 12 := hS.2.2.2.2.2.2.2.2.2.2.2.2.2.2.2.2.2.2.2.2.2.2.2.2.1
theorem Add.U {σ σ' : cl_S} {a : Nat} {k n : Int32} {x y z m : Nat} (hS : Add σ σ' a k n x y z m) : ∀ b, b ≠ a → b ≠ 31 → b ≠ 32 → (b = x ∨ b = y ∨ b = z) → σ'.2.2.1 b 12 = some a := hS.2.2.2.2.2.2.2.2.2.2.2.2.2.2.2.2.2.2.2.2.2.2.2.2.2.1
theorem Add.U0 {σ σ' : cl_S} {a : Nat} {k n : Int32} {x y z m : Nat} (hS : Add σ σ' a k n x y z m) : ∀ b, b ≠ a → b ≠ 31 → b ≠ 32 → ¬ (b = x ∨ b = y ∨ b = z) → σ'.2.2.1 b 12 = σ.2.2.1 b 12 := hS.2.2.2.2.2.2.2.2.2.2.2.2.2.2.2.2.2.2.2.2.2.2.2.2.2.2.1
theorem Add.T {σ σ' : cl_S} {a : Nat} {k n : Int32} {x y z m : Nat} (hS : Add σ σ' a k n x y z m) : σ'.2.2.2.1 = va_up σ.2.2.2.1 a (25, 0) := hS.2.2.2.2.2.2.2.2.2.2.2.2.2.2.2.2.2.2.2.2.2.2.2.2.2.2.2.1
theorem Add.n {σ σ' : cl_S} {a : Nat} {k n : Int32} {x y z m : Nat} (hS : Add σ σ' a k n x y z m) : σ'.2.2.2.2.1 = σ.2.2.2.2.1 + 1 := hS.2.2.2.2.2.2.2.2.2.2.2.2.2.2.2.2.2.2.2.2.2.2.2.2.2.2.2.2.1
theorem Add.rc {σ σ' : cl_S} {a : Nat} {k n : Int32} {x y z m : Nat} (hS : Add σ σ' a k n x y z m) : σ'.2.2.2.2.2.1 = σ.2.2.2.2.2.1 - 1 := hS.2.2.2.2.2.2.2.2.2.2.2.2.2.2.2.2.2.2.2.2.2.2.2.2.2.2.2.2.2.1
theorem Add.rs {σ σ' : cl_S} {a : Nat} {k n : Int32} {x y z m : Nat} (hS : Add σ σ' a k n x y z m) : σ'.2.2.2.2.2.2 = σ.2.2.2.2.2.2 - 16 := hS.2.2.2.2.2.2.2.2.2.2.2.2.2.2.2.2.2.2.2.2.2.2.2.2.2.2.2.2.2.2
theorem va_up2 {α : Type} (f : Nat → α) (k : Nat) (u v : α) : va_up (va_up f k u) k v = va_up f k v := by
  funext j
  unfold va_up
  split <;> rfl
theorem r_nI {σ : cl_S} {t n N b : Nat} (h : b ≠ σ.2.2.2.2.1) : (cl_nw σ t n N).1 b = σ.1 b := funext fun j => if_neg h
theorem r_nL {σ : cl_S} {t n N b : Nat} (h : b ≠ σ.2.2.2.2.1) : (cl_nw σ t n N).2.1 b = σ.2.1 b := funext fun j => if_neg h
theorem r_nR {σ : cl_S} {t n N b : Nat} (h : b ≠ σ.2.2.2.2.1) : (cl_nw σ t n N).2.2.1 b = σ.2.2.1 b := funext fun j => if_neg h
theorem r_nI0 {σ : cl_S} {t n N b : Nat} (h : b = σ.2.2.2.2.1) : (cl_nw σ t n N).1 b = fun _ => 0 := funext fun j => if_pos h
theorem r_nL0 {σ : cl_S} {t n N b : Nat} (h : b = σ.2.2.2.2.1) : (cl_nw σ t n N).2.1 b = fun _ => 0 := funext fun j => if_pos h
theorem r_nR0 {σ : cl_S} {t n N b : Nat} (h : b = σ.2.2.2.2.1) : (cl_nw σ t n N).2.2.1 b = fun _ => none := funext fun j => if_pos h
theorem r_nT {σ : cl_S} {t n N : Nat} : (cl_nw σ t n N).2.2.2 = (va_up σ.2.2.2.1 σ.2.2.2.2.1 (t, n), σ.2.2.2.2.1 + 1, σ.2.2.2.2.2.1 - 1, σ.2.2.2.2.2.2 - N) := rfl
theorem r_sI {σ : cl_S} {a c : Nat} : (cl_seal σ a c).1 = σ.1 := rfl
theorem r_sL {σ : cl_S} {a c : Nat} : (cl_seal σ a c).2.1 = σ.2.1 := rfl
theorem r_sR {σ : cl_S} {a c : Nat} : (cl_seal σ a c).2.2.1 = σ.2.2.1 := rfl
theorem r_sT {σ : cl_S} {a c : Nat} : (cl_seal σ a c).2.2.2 = (va_up σ.2.2.2.1 a (16 + c, 0), σ.2.2.2.2) := rfl
theorem al_in {α : Type} {σ : cl_S} {N : Nat} {x : Option α} (h1 : 1 ≤ σ.2.2.2.2.2.1) (h : N ≤ σ.2.2.2.2.2.2) : al σ N x = x := if_pos ⟨h1, h⟩
theorem gnw_in {α : Type} {σ : cl_S} {a : Nat} {x : Option α} (h : σ.2.2.1 a 6 = none) : gnw σ a x = x := if_pos h
theorem sealed_9 {α : Type} {σ : cl_S} {a : Nat} {x : Option α} (h : ¬ σ.1 a 6 = 0) : sealed σ a 9 x = x := if_pos ⟨fun e he => absurd he (by show e ∉ ([] : List _); exact List.not_mem_nil), fun _ => h⟩
/-- the users' chains after a term came -/
def Note (σ σ' : cl_S) (a x y z : Nat) : Prop := (σ'.1 = σ.1) ∧ (σ'.2.1 = σ.2.1) ∧ (σ'.2.2.2 = σ.2.2.2) ∧ (∀ b, b ≠ a → b ≠ x → b ≠ y → b ≠ z → σ'.2.2.1 b = σ.2.2.1 b) ∧ (∀ b j, b ≠ a → j ≠ 12 → σ'.2.2.1 b j = σ.2.2.1 b j) ∧ (∀ j, j ≠ 13 → j ≠ 14 → j ≠ 15 → σ'.2.2.1 a j = σ.2.2.1 a j) ∧ (σ'.2.2.1 a 13 = σ.2.2.1 x 12) ∧ (y ≠ x → σ'.2.2.1 a 14 = σ.2.2.1 y 12) ∧ (z ≠ x → z ≠ y → σ'.2.2.1 a 15 = σ.2.2.1 z 12) ∧ (∀ b, b ≠ a → (b = x ∨ b = y ∨ b = z) → σ'.2.2.1 b 12 = some a)
theorem Note.I {σ σ' : cl_S} {a x y z : Nat} (hS : Note σ σ' a x y z) : σ'.1 = σ.1 := hS.1
theorem Note.L {σ σ' : cl_S} {a x y z : Nat} (hS : Note σ σ' a x y z) : σ'.2.1 = σ.2.1 := hS.2.1
theorem Note.T {σ σ' : cl_S} {a x y z : Nat} (hS : Note σ σ' a x y z) : σ'.2.2.2 = σ.2.2.2 := hS.2.2.1
theorem Note.R {σ σ' : cl_S} {a x y z : Nat} (hS : Note σ σ' a x y z) : ∀ b, b ≠ a → b ≠ x → b ≠ y → b ≠ z → σ'.2.2.1 b = σ.2.2.1 b := hS.2.2.2.1
theorem Note.R' {σ σ' : cl_S} {a x y z : Nat} (hS : Note σ σ' a x y z) : ∀ b j, b ≠ a → j ≠ 12 → σ'.2.2.1 b j = σ.2.2.1 b j := hS.2.2.2.2.1
theorem Note.A {σ σ' : cl_S} {a x y z : Nat} (hS : Note σ σ' a x y z) : ∀ j, j ≠ 13 → j ≠ 14 → j ≠ 15 → σ'.2.2.1 a j = σ.2.2.1 a j := hS.2.2.2.2.2.1
theorem Note.A13 {σ σ' : cl_S} {a x y z : Nat} (hS : Note σ σ' a x y z) : σ'.2.2.1 a 13 = σ.2.2.1 x 12 := hS.2.2.2.2.2.2.1
theorem Note.A14 {σ σ' : cl_S} {a x y z : Nat} (hS : Note σ σ' a x y z) : y ≠ x → σ'.2.2.1 a 14 = σ.2.2.1 y 12 := hS.2.2.2.2.2.2.2.1
theorem Note.A15 {σ σ' : cl_S} {a x y z : Nat} (hS : Note σ σ' a x y z) : z ≠ x → z ≠ y → σ'.2.2.1 a 15 = σ.2.2.1 z 12 := hS.2.2.2.2.2.2.2.2.1
theorem Note.U {σ σ' : cl_S} {a x y z : Nat} (hS : Note σ σ' a x y z) : ∀ b, b ≠ a → (b = x ∨ b = y ∨ b = z) → σ'.2.2.1 b 12 = some a := hS.2.2.2.2.2.2.2.2.2
theorem c_note {σ : cl_S} {a x y z : Nat} (h3 : σ.2.2.1 a 3 = some x) (h4 : σ.2.2.1 a 4 = some y) (h5 : σ.2.2.1 a 5 = some z) (xa : x ≠ a) (ya : y ≠ a) (za : z ≠ a) : ∃ σ', fc_X10_noteUser 31 (some a) σ = some σ' ∧ Note σ σ' a x y z := by
  have xa' : a ≠ x := xa.symm
  have ya' : a ≠ y := ya.symm
  have za' : a ≠ z := za.symm
  unfold fc_X10_noteUser bc_X10_noteUser_0 bc_X10_noteUser_49
  by_cases c1 : y = x
  · subst c1
    by_cases c2 : z = y
    · subst c2
      simp only [nn_eq, vl_eq, h3, h4, h5, g_r, xa, ya, za, xa', ya', za', true_and, false_and, and_false, and_true, if_true, if_false, Nat.reduceEqDiff, Option.some.injEq, reduceCtorEq]
      refine ⟨_, rfl, ⟨rfl, rfl, rfl, ?_, ?_, ?_, ?_, ?_, ?_, ?_⟩⟩
      · intro b h1 h2 h3 h4; funext j; simp only [g_r, h1, h2, h3, h4, false_and, if_false]
      · intro b j h1 h2; simp only [g_r, h1, h2, false_and, and_false, if_false]
      · intro j h1 h2 h3; simp only [g_r, h1, h2, h3, xa', ya', za', false_and, and_false, if_false]
      · simp only [g_r, xa', ya', za', true_and, false_and, and_false, and_true, if_true, if_false, Nat.reduceEqDiff]
      · intro q; simp only [g_r, xa', ya', za', true_and, false_and, and_false, and_true, if_true, if_false, Nat.reduceEqDiff]; try exact absurd rfl q
      · intro q q2; simp only [g_r, xa', ya', za', true_and, false_and, and_false, and_true, if_true, if_false, Nat.reduceEqDiff]; first | done | exact absurd rfl q | exact absurd rfl q2
      · intro b h1 h2; simp only [g_r, h1, true_and, false_and, and_false, and_true, if_true, if_false, Nat.reduceEqDiff]; rcases h2 with rfl | rfl | rfl <;> simp only [if_true, ite_self]
    · have c2' : y ≠ z := fun q => c2 q.symm
      simp only [nn_eq, vl_eq, h3, h4, h5, g_r, xa, ya, za, xa', ya', za', c2, c2', true_and, false_and, and_false, and_true, if_true, if_false, Nat.reduceEqDiff, Option.some.injEq, reduceCtorEq]
      refine ⟨_, rfl, ⟨rfl, rfl, rfl, ?_, ?_, ?_, ?_, ?_, ?_, ?_⟩⟩
      · intro b h1 h2 h3 h4; funext j; simp only [g_r, h1, h2, h3, h4, false_and, if_false]
      · intro b j h1 h2; simp only [g_r, h1, h2, false_and, and_false, if_false]
      · intro j h1 h2 h3; simp only [g_r, h1, h2, h3, xa', ya', za', false_and, and_false, if_false]
      · simp only [g_r, xa', ya', za', true_and, false_and, and_false, and_true, if_true, if_false, Nat.reduceEqDiff]
      · intro q; simp only [g_r, xa', ya', za', true_and, false_and, and_false, and_true, if_true, if_false, Nat.reduceEqDiff]; try exact absurd rfl q
      · intro q q2; simp only [g_r, xa', ya', za', true_and, false_and, and_false, and_true, if_true, if_false, Nat.reduceEqDiff]; first | done | exact absurd rfl q | exact absurd rfl q2
      · intro b h1 h2; simp only [g_r, h1, true_and, false_and, and_false, and_true, if_true, if_false, Nat.reduceEqDiff]; rcases h2 with rfl | rfl | rfl <;> simp only [if_true, ite_self]
  · have c1' : x ≠ y := fun q => c1 q.symm
    by_cases c2 : z = x
    · subst c2
      simp only [nn_eq, vl_eq, h3, h4, h5, g_r, xa, ya, za, xa', ya', za', c1, c1', true_and, false_and, and_false, and_true, if_true, if_false, Nat.reduceEqDiff, Option.some.injEq, reduceCtorEq]
      refine ⟨_, rfl, ⟨rfl, rfl, rfl, ?_, ?_, ?_, ?_, ?_, ?_, ?_⟩⟩
      · intro b h1 h2 h3 h4; funext j; simp only [g_r, h1, h2, h3, h4, false_and, if_false]
      · intro b j h1 h2; simp only [g_r, h1, h2, false_and, and_false, if_false]
      · intro j h1 h2 h3; simp only [g_r, h1, h2, h3, xa', ya', za', false_and, and_false, if_false]
      · simp only [g_r, xa', ya', za', true_and, false_and, and_false, and_true, if_true, if_false, Nat.reduceEqDiff]
      · intro q; simp only [g_r, xa', ya', za', true_and, false_and, and_false, and_true, if_true, if_false, Nat.reduceEqDiff]; try exact absurd rfl q
      · intro q q2; simp only [g_r, xa', ya', za', true_and, false_and, and_false, and_true, if_true, if_false, Nat.reduceEqDiff]; first | done | exact absurd rfl q | exact absurd rfl q2
      · intro b h1 h2; simp only [g_r, h1, true_and, false_and, and_false, and_true, if_true, if_false, Nat.reduceEqDiff]; rcases h2 with rfl | rfl | rfl <;> simp only [if_true, ite_self]
    · have c2' : x ≠ z := fun q => c2 q.symm
      by_cases c3 : z = y
      · subst c3
        simp only [nn_eq, vl_eq, h3, h4, h5, g_r, xa, ya, za, xa', ya', za', c1, c1', c2, c2', true_and, false_and, and_false, and_true, if_true, if_false, Nat.reduceEqDiff, Option.some.injEq, reduceCtorEq]
        refine ⟨_, rfl, ⟨rfl, rfl, rfl, ?_, ?_, ?_, ?_, ?_, ?_, ?_⟩⟩
        · intro b h1 h2 h3 h4; funext j; simp only [g_r, h1, h2, h3, h4, false_and, if_false]
        · intro b j h1 h2; simp only [g_r, h1, h2, false_and, and_false, if_false]
        · intro j h1 h2 h3; simp only [g_r, h1, h2, h3, xa', ya', za', false_and, and_false, if_false]
        · simp only [g_r, xa', ya', za', true_and, false_and, and_false, and_true, if_true, if_false, Nat.reduceEqDiff]
        · intro q; simp only [g_r, xa', ya', za', true_and, false_and, and_false, and_true, if_true, if_false, Nat.reduceEqDiff]; try exact absurd rfl q
        · intro q q2; simp only [g_r, xa', ya', za', true_and, false_and, and_false, and_true, if_true, if_false, Nat.reduceEqDiff]; first | done | exact absurd rfl q | exact absurd rfl q2
        · intro b h1 h2; simp only [g_r, h1, true_and, false_and, and_false, and_true, if_true, if_false, Nat.reduceEqDiff]; rcases h2 with rfl | rfl | rfl <;> simp only [if_true, ite_self]
      · have c3' : y ≠ z := fun q => c3 q.symm
        simp only [nn_eq, vl_eq, h3, h4, h5, g_r, xa, ya, za, xa', ya', za', c1, c1', c2, c2', c3, c3', true_and, false_and, and_false, and_true, if_true, if_false, Nat.reduceEqDiff, Option.some.injEq, reduceCtorEq]
        refine ⟨_, rfl, ⟨rfl, rfl, rfl, ?_, ?_, ?_, ?_, ?_, ?_, ?_⟩⟩
        · intro b h1 h2 h3 h4; funext j; simp only [g_r, h1, h2, h3, h4, false_and, if_false]
        · intro b j h1 h2; simp only [g_r, h1, h2, false_and, and_false, if_false]
        · intro j h1 h2 h3; simp only [g_r, h1, h2, h3, xa', ya', za', false_and, and_false, if_false]
        · simp only [g_r, xa', ya', za', true_and, false_and, and_false, and_true, if_true, if_false, Nat.reduceEqDiff]
        · intro q; simp only [g_r, xa', ya', za', true_and, false_and, and_false, and_true, if_true, if_false, Nat.reduceEqDiff]; try exact absurd rfl q
        · intro q q2; simp only [g_r, xa', ya', za', true_and, false_and, and_false, and_true, if_true, if_false, Nat.reduceEqDiff]; first | done | exact absurd rfl q | exact absurd rfl q2
        · intro b h1 h2; simp only [g_r, h1, true_and, false_and, and_false, and_true, if_true, if_false, Nat.reduceEqDiff]; rcases h2 with rfl | rfl | rfl <;> simp only [if_true, ite_self]
theorem g_nI {σ : cl_S} {t n N b j : Nat} : (cl_nw σ t n N).1 b j = if b = σ.2.2.2.2.1 then 0 else σ.1 b j := rfl
theorem g_nL {σ : cl_S} {t n N b j : Nat} : (cl_nw σ t n N).2.1 b j = if b = σ.2.2.2.2.1 then 0 else σ.2.1 b j := rfl
theorem g_nR {σ : cl_S} {t n N b j : Nat} : (cl_nw σ t n N).2.2.1 b j = if b = σ.2.2.2.2.1 then none else σ.2.2.1 b j := rfl
theorem c_add_eq {σ : cl_S} {ts : List Nat} (C : CSt0 σ ts) (k n : Int32) {x y z : Nat} (hx : pt ts x) (hy : pt ts y) (hz : pt ts z) (h1 : 1 ≤ σ.2.2.2.2.2.1) (h16 : 16 ≤ σ.2.2.2.2.2.2) {m : Nat} (hm : m < 4096) (em : hB k n (σ.1 x 2) (σ.1 y 2) (σ.1 z 2) = nI m) :
    ∃ σ', fc_X10_add 31 k n (some x) (some y) (some z) σ = some (some σ.2.2.2.2.1, σ') ∧ Add σ σ' σ.2.2.2.2.1 k n x y z m := by
  have lo : ∀ w, pt ts w → w < σ.2.2.2.2.1 ∧ 32 < w := by
    intro w hw
    rcases hw with rfl | hw
    · have := C.top; omega
    · have := C.mem w hw; omega
  have hx' := lo x hx
  have hy' := lo y hy
  have hz' := lo z hz
  have ht := C.top
  have b0 := C.tms.1
  have b1 := C.tms.2.1
  generalize ha : σ.2.2.2.2.1 = a at *
  have x1 : x ≠ a := by omega
  have y1 : y ≠ a := by omega
  have z1 : z ≠ a := by omega
  have x2 : x ≠ 31 := by omega
  have y2 : y ≠ 31 := by omega
  have z2 : z ≠ 31 := by omega
  have x2' : 31 ≠ x := by omega
  have y2' : 31 ≠ y := by omega
  have z2' : 31 ≠ z := by omega
  have x3 : x ≠ 32 := by omega
  have y3 : y ≠ 32 := by omega
  have z3 : z ≠ 32 := by omega
  have x3' : 32 ≠ x := by omega
  have y3' : 32 ≠ y := by omega
  have z3' : 32 ≠ z := by omega
  have a1 : a ≠ 31 := by omega
  have a2 : a ≠ 32 := by omega
  have a1' : 31 ≠ a := by omega
  have a2' : 32 ≠ a := by omega
  have m1 : (nI m).toNatClampNeg = m := n_cl (by omega)
  have ne1 : ¬ (1:Int32) = 0 := by decide
  have i16 : 16 + 9 = 25 := rfl
  -- the state before the users' chains
  let τ : cl_S := cl_wr (cl_wr (cl_wr (cl_wr (cl_wr (cl_wr (cl_seal (cl_wr (cl_w (cl_w (cl_w (cl_w (cl_nw (cl_w σ 31 2 (σ.1 31 2 + 1)) 125 0 16) a 6 1) a 0 k) a 1 n) a 2 (σ.1 31 2 + 1)) a 8 (σ.2.2.1 31 1)) a 9) 31 1 (some a)) a 3 (some x)) a 4 (some y)) a 5 (some z)) a 7 (σ.2.2.1 32 m)) 32 m (some a)
  have hτ : τ = cl_wr (cl_wr (cl_wr (cl_wr (cl_wr (cl_wr (cl_seal (cl_wr (cl_w (cl_w (cl_w (cl_w (cl_nw (cl_w σ 31 2 (σ.1 31 2 + 1)) 125 0 16) a 6 1) a 0 k) a 1 n) a 2 (σ.1 31 2 + 1)) a 8 (σ.2.2.1 31 1)) a 9) 31 1 (some a)) a 3 (some x)) a 4 (some y)) a 5 (some z)) a 7 (σ.2.2.1 32 m)) 32 m (some a) := rfl
  have e : fc_X10_add 31 k n (some x) (some y) (some z) σ = bd1 (fc_X10_noteUser 31 (some a) τ) (fun σ_83 => some (some a, cl_w σ_83 31 8 0)) := by
    rw [hτ]
    unfold fc_X10_add bc_X10_add_0 fc_X9_init bc_X9_init_0
    have q1 : σ.2.2.2.2.2.1 = σ.2.2.2.2.2.1 := rfl
    simp only [vl_eq, r_wL, ha, al_in h1 h16]
    rw [al_in (by rw [r_wL]; exact h1) (by rw [r_wL]; exact h16)]
    rw [gnw_in (by rw [g_nR, r_wL, ha, if_pos rfl])]
    rw [bd1_eq]
    rw [sealed_9 (by simp only [r_rI, g_w, if_true, true_and, and_true, Nat.reduceEqDiff, if_false, ne1, not_false_eq_true, reduceCtorEq])]
    have hb : ∀ (τ' : cl_S), τ'.1 x 2 = σ.1 x 2 → τ'.1 y 2 = σ.1 y 2 → τ'.1 z 2 = σ.1 z 2 → fc_X10_bucketOf k n (some x) (some y) (some z) τ' = some (nI m, τ') := by
      intro τ' e1 e2 e3
      rw [c_bucket, e1, e2, e3, em]
    rw [hb _ (by simp only [r_rI, r_sI, g_w, g_nI, r_wL, ha, x1, x2, false_and, if_false]) (by simp only [r_rI, r_sI, g_w, g_nI, r_wL, ha, y1, y2, false_and, if_false]) (by simp only [r_rI, r_sI, g_w, g_nI, r_wL, ha, z1, z2, false_and, if_false]), bd2_eq]
    have t32 : va_up (va_up σ.2.2.2.1 a (125, 0)) a (16 + 9, 0) 32 = (4, 4096) := by
      unfold va_up
      rw [if_neg a2', if_neg a2', b1]
    simp only [g_r, r_rT, r_sT, r_sR, r_sI, r_wL, r_nT, r_rI, g_nR, g_w, g_nI, ha, a1, a2, a1', a2', true_and, false_and, and_false, and_true, if_true, if_false, Nat.reduceEqDiff, b0, nn_eq, t32, n_ix hm (show 4096 < 2147483648 by omega), m1]
  have t3 : τ.2.2.1 a 3 = some x := by
    simp only [hτ, g_r, a1, a2, true_and, false_and, and_false, and_true, if_true, if_false, Nat.reduceEqDiff]
  have t4 : τ.2.2.1 a 4 = some y := by
    simp only [hτ, g_r, a1, a2, true_and, false_and, and_false, and_true, if_true, if_false, Nat.reduceEqDiff]
  have t5 : τ.2.2.1 a 5 = some z := by
    simp only [hτ, g_r, a1, a2, true_and, false_and, and_false, and_true, if_true, if_false, Nat.reduceEqDiff]
  obtain ⟨τ', en, N⟩ := c_note t3 t4 t5 x1 y1 z1
  have oI : ∀ b j, b ≠ 31 → b ≠ a → τ.1 b j = σ.1 b j := by
    intro b j h h'
    simp only [hτ, r_rI, r_sI, g_w, g_nI, r_wL, ha, h, h', false_and, if_false]
  have oR : ∀ b j, b ≠ 31 → b ≠ 32 → b ≠ a → τ.2.2.1 b j = σ.2.2.1 b j := by
    intro b j h h' h''
    simp only [hτ, g_r, r_sR, r_wL, g_nR, ha, h, h', h'', false_and, if_false]
  refine ⟨cl_w τ' 31 8 0, by rw [e, en, bd1_eq], ?_⟩
  have hT : τ.2.2.2 = (va_up σ.2.2.2.1 a (25, 0), a + 1, σ.2.2.2.2.2.1 - 1, σ.2.2.2.2.2.2 - 16) := by
    simp only [hτ, r_rT, r_sT, r_wL, r_nT, ha, va_up2]
  refine ⟨?_, ?_, ?_, ?_, ?_, ?_, ?_, ?_, ?_, ?_, ?_, ?_, ?_, ?_, ?_, ?_, ?_, ?_, ?_, ?_, ?_, ?_, ?_, ?_, ?_, ?_, ?_, ?_, ?_, ?_, ?_⟩
  · exact ha.symm
  · intro b h h'; funext j; simp only [g_w, h, false_and, if_false]; rw [N.I]; exact oI b j h h'
  · intro j h h'; simp only [g_w, h', and_false, if_false]; rw [N.I]; simp only [hτ, r_rI, r_sI, g_w, g_nI, r_wL, ha, h, a1', false_and, and_false, if_false]
  · simp only [g_w, and_false, if_false, Nat.reduceEqDiff]; rw [N.I]; simp only [hτ, r_rI, r_sI, g_w, g_nI, r_wL, ha, a1', true_and, and_true, false_and, if_false, if_true]
  · simp only [g_w, true_and, if_true]
  · simp only [g_w, a1, false_and, if_false]; rw [N.I]; simp only [hτ, r_rI, r_sI, g_w, true_and, and_true, if_true, if_false, Nat.reduceEqDiff]
  · simp only [g_w, a1, false_and, if_false]; rw [N.I]; simp only [hτ, r_rI, r_sI, g_w, true_and, and_true, if_true, if_false, Nat.reduceEqDiff]
  · simp only [g_w, a1, false_and, if_false]; rw [N.I]; simp only [hτ, r_rI, r_sI, g_w, g_nI, r_wL, ha, a1, true_and, and_true, false_and, if_true, if_false, Nat.reduceEqDiff]
  · intro b h; funext j; rw [r_wL, N.L]; simp only [hτ, r_rL, r_sL, r_wL, g_nL, ha, h, if_false]
  · intro b j h h' h'' hj; rw [r_wL, N.R' b j h hj]; exact oR b j h' h'' h
  · intro b h h' h'' h3 h4 h5; rw [r_wL, N.R b h h3 h4 h5]; funext j; exact oR b j h' h'' h
  · intro j h; rw [r_wL, N.R 31 a1' x2' y2' z2']; simp only [hτ, g_r, r_sR, r_wL, g_nR, ha, h, a1', false_and, and_false, if_false, Nat.reduceEqDiff]
  · rw [r_wL, N.R 31 a1' x2' y2' z2']; simp only [hτ, g_r, a1', true_and, false_and, if_true, if_false, Nat.reduceEqDiff]
  · intro j h; rw [r_wL, N.R 32 a2' x3' y3' z3']; simp only [hτ, g_r, r_sR, r_wL, g_nR, ha, h, a2', false_and, and_false, if_false, Nat.reduceEqDiff]
  · rw [r_wL, N.R 32 a2' x3' y3' z3']; simp only [hτ, g_r, true_and, if_true]
  · rw [r_wL, N.A 3 (by decide) (by decide) (by decide), t3]
  · rw [r_wL, N.A 4 (by decide) (by decide) (by decide), t4]
  · rw [r_wL, N.A 5 (by decide) (by decide) (by decide), t5]
  · rw [r_wL, N.A 6 (by decide) (by decide) (by decide)]; simp only [hτ, g_r, r_sR, r_wL, g_nR, ha, a1, a2, true_and, false_and, and_false, and_true, if_true, if_false, Nat.reduceEqDiff]
  · rw [r_wL, N.A 7 (by decide) (by decide) (by decide)]; simp only [hτ, g_r, a1, a2, true_and, false_and, and_false, and_true, if_true, if_false, Nat.reduceEqDiff]
  · rw [r_wL, N.A 8 (by decide) (by decide) (by decide)]; simp only [hτ, g_r, r_sR, a1, a2, true_and, false_and, and_false, and_true, if_true, if_false, Nat.reduceEqDiff]
  · rw [r_wL, N.A 12 (by decide) (by decide) (by decide)]; simp only [hτ, g_r, r_sR, r_wL, g_nR, ha, a1, a2, true_and, false_and, and_false, and_true, if_true, if_false, Nat.reduceEqDiff]
  · rw [r_wL, N.A13]; exact oR x 12 x2 x3 x1
  · intro q; rw [r_wL, N.A14 q]; exact oR y 12 y2 y3 y1
  · intro q q'; rw [r_wL, N.A15 q q']; exact oR z 12 z2 z3 z1
  · intro b h h' h'' q; rw [r_wL, N.U b h q]
  · intro b h h' h'' q; rw [r_wL, N.R b h (fun q' => q (Or.inl q')) (fun q' => q (Or.inr (Or.inl q'))) (fun q' => q (Or.inr (Or.inr q')))]; exact oR b 12 h' h'' h
  · show (cl_w τ' 31 8 0).2.2.2.1 = _; rw [r_wL, N.T, hT]
  · rw [r_wL, N.T, hT, ha]
  · rw [r_wL, N.T, hT]
  · rw [r_wL, N.T, hT]
theorem pt_lo {σ : cl_S} {ts : List Nat} (C : CSt0 σ ts) {w : Nat} (hw : pt ts w) : w < σ.2.2.2.2.1 ∧ 32 < w := by
  rcases hw with rfl | hw
  · have := C.top; omega
  · have := C.mem w hw; omega
theorem c_add_st {σ σ' : cl_S} {ts : List Nat} (C : CSt0 σ ts) {kk : Nat} {n : Int32} {x y z : Nat} (hk : kk < 10) (hs : shp (inT ts) isN kk (some x) (some y) (some z)) (h0 : 2 < kk → n = 0) {m : Nat} (hm : m < 4096) (em : hB (nI kk) n (σ.1 x 2) (σ.1 y 2) (σ.1 z 2) = nI m) (hn : kk ≠ 1 → ∀ b ∈ ts, ¬ kyI σ b (nI kk) n (some x) (some y) (some z)) {a : Nat} (A : Add σ σ' a (nI kk) n x y z m) : CSt0 σ' (a :: ts) := by
  obtain ⟨x', y', z', ex, ey, ez, hx, hy, hz⟩ := shp_pt hs
  cases ex; cases ey; cases ez
  have ae := A.a_eq
  have ht := C.top
  have ao : ∀ b ∈ ts, b ≠ a ∧ b ≠ 31 ∧ b ≠ 32 := fun b hb => by have := C.mem b hb; omega
  have po : ∀ b, pt ts b → b ≠ a ∧ b ≠ 31 ∧ b ≠ 32 := fun b hb => by have := pt_lo C hb; omega
  have fI : ∀ b j, pt ts b → σ'.1 b j = σ.1 b j := fun b j hb => by rw [A.I b (po b hb).2.1 (po b hb).1]
  have fR : ∀ b j, pt ts b → j ≠ 12 → σ'.2.2.1 b j = σ.2.2.1 b j := fun b j hb hj => A.R b j (po b hb).1 (po b hb).2.1 (po b hb).2.2 hj
  have pT : ∀ b ∈ ts, pt ts b := fun b hb => Or.inr hb
  have hpts : ∀ b ∈ ts, ∃ u v w, σ.2.2.1 b 3 = some u ∧ σ.2.2.1 b 4 = some v ∧ σ.2.2.1 b 5 = some w ∧ pt ts u ∧ pt ts v ∧ pt ts w := by
    intro b hb
    obtain ⟨k, -, -, hs, -⟩ := C.kd b hb
    exact shp_pt hs
  have bko : ∀ b ∈ ts, ∀ i, bkt σ' b i ↔ bkt σ b i := by
    intro b hb i
    obtain ⟨u, v, w, e3, e4, e5, p3, p4, p5⟩ := hpts b hb
    unfold bkt
    rw [fR b 3 (pT b hb) (by decide), fR b 4 (pT b hb) (by decide), fR b 5 (pT b hb) (by decide), fI b 0 (pT b hb), fI b 1 (pT b hb)]
    refine ⟨?_, ?_⟩
    · rintro ⟨u', v', w', q3, q4, q5, q⟩
      rw [e3] at q3; rw [e4] at q4; rw [e5] at q5
      cases q3; cases q4; cases q5
      rw [fI _ 2 p3, fI _ 2 p4, fI _ 2 p5] at q
      exact ⟨u, v, w, e3, e4, e5, q⟩
    · rintro ⟨u', v', w', q3, q4, q5, q⟩
      rw [e3] at q3; rw [e4] at q4; rw [e5] at q5
      cases q3; cases q4; cases q5
      refine ⟨u, v, w, e3, e4, e5, ?_⟩
      rw [fI _ 2 p3, fI _ 2 p4, fI _ 2 p5]; exact q
  have bkn : ∀ i, i < 4096 → (bkt σ' a i ↔ i = m) := by
    intro i hi
    unfold bkt
    rw [A.A3, A.A4, A.A5, A.A0, A.A1]
    refine ⟨?_, ?_⟩
    · rintro ⟨u', v', w', q3, q4, q5, q⟩
      cases q3; cases q4; cases q5
      rw [fI _ 2 hx, fI _ 2 hy, fI _ 2 hz, em] at q
      exact ((n_eq (by omega) (by omega)).mp q).symm
    · rintro rfl
      exact ⟨x, y, z, rfl, rfl, rfl, by rw [fI _ 2 hx, fI _ 2 hy, fI _ 2 hz, em]⟩
  have an : a ∉ ts := fun q => (ao a q).1 rfl
  refine ⟨?_, ?_, ?_, ?_, ?_, ?_, ?_, ?_, ?_, ?_, ?_⟩
  · intro b hb
    rcases List.mem_cons.mp hb with rfl | hb
    · rw [A.n, A.T]
      refine ⟨by omega, by omega, by omega, if_pos rfl⟩
    · have h := C.mem b hb
      rw [A.n, A.T]
      exact ⟨h.1, by omega, h.2.2.1, (if_neg (ao b hb).1).trans h.2.2.2⟩
  · exact List.nodup_cons.mpr ⟨an, C.nd⟩
  · rw [A.n]; omega
  · intro b hb
    rcases List.mem_cons.mp hb with rfl | hb
    · refine ⟨kk, hk, A.A0, ?_, fun q => by rw [A.A1]; exact h0 q⟩
      rw [A.A3, A.A4, A.A5]
      exact shp_imp hs (fun r ⟨w, e, q⟩ => ⟨w, e, List.mem_cons_of_mem _ q⟩) (fun r q => q)
    · obtain ⟨k, h1, h2, h3, h4⟩ := C.kd b hb
      refine ⟨k, h1, by rw [fI b 0 (pT b hb)]; exact h2, ?_, fun q => by rw [fI b 1 (pT b hb)]; exact h4 q⟩
      rw [fR b 3 (pT b hb) (by decide), fR b 4 (pT b hb) (by decide), fR b 5 (pT b hb) (by decide)]
      exact shp_imp h3 (fun r ⟨w, e, q⟩ => ⟨w, e, List.mem_cons_of_mem _ q⟩) (fun r q => q)
  · rw [fI 33 0 (Or.inl rfl), fR 33 3 (Or.inl rfl) (by decide), fR 33 4 (Or.inl rfl) (by decide), fR 33 5 (Or.inl rfl) (by decide)]
    exact C.non
  · rw [A.R31 0 (by decide), A.R31 4 (by decide), A.R31 5 (by decide), A.R31 6 (by decide), A.R31 7 (by decide), A.T]
    refine ⟨C.tms.1, ?_, C.tms.2.2⟩
    exact (if_neg (by omega)).trans C.tms.2.1
  · intro b hb c hc hb1 he
    obtain ⟨e0, e1, e3, e4, e5⟩ := he
    rcases List.mem_cons.mp hb with rfl | hb'
    · rcases List.mem_cons.mp hc with rfl | hc
      · rfl
      · exfalso
        rw [A.A0, fI c 0 (pT c hc)] at e0
        rw [A.A1, fI c 1 (pT c hc)] at e1
        rw [A.A3, fR c 3 (pT c hc) (by decide)] at e3
        rw [A.A4, fR c 4 (pT c hc) (by decide)] at e4
        rw [A.A5, fR c 5 (pT c hc) (by decide)] at e5
        rw [A.A0] at hb1
        exact hn (fun q => hb1 (by rw [q])) c hc ⟨e0.symm, e1.symm, e3.symm, e4.symm, e5.symm⟩
    · rcases List.mem_cons.mp hc with rfl | hc
      · exfalso
        rw [A.A0, fI b 0 (pT b hb')] at e0
        rw [A.A1, fI b 1 (pT b hb')] at e1
        rw [A.A3, fR b 3 (pT b hb') (by decide)] at e3
        rw [A.A4, fR b 4 (pT b hb') (by decide)] at e4
        rw [A.A5, fR b 5 (pT b hb') (by decide)] at e5
        rw [fI b 0 (pT b hb'), e0] at hb1
        exact hn (fun q => hb1 (by rw [q])) b hb' ⟨e0, e1, e3, e4, e5⟩
      · rw [fI b 0 (pT b hb'), fI c 0 (pT c hc)] at e0
        rw [fI b 1 (pT b hb'), fI c 1 (pT c hc)] at e1
        rw [fR b 3 (pT b hb') (by decide), fR c 3 (pT c hc) (by decide)] at e3
        rw [fR b 4 (pT b hb') (by decide), fR c 4 (pT c hc) (by decide)] at e4
        rw [fR b 5 (pT b hb') (by decide), fR c 5 (pT c hc) (by decide)] at e5
        rw [fI b 0 (pT b hb')] at hb1
        exact C.uq b hb' c hc hb1 ⟨e0, e1, e3, e4, e5⟩
  · intro i hi
    obtain ⟨l, hl, ml⟩ := C.bk i hi
    have hl' : ∀ b ∈ l, b ∈ ts := fun b hb => ((ml b).mp hb).1
    have cg : ∀ r, Lst (fun b => σ.2.2.1 b 7) r l → Lst (fun b => σ'.2.2.1 b 7) r l := fun r h => h.congr (fun b hb => fR b 7 (pT b (hl' b hb)) (by decide))
    by_cases q : i = m
    · subst q
      refine ⟨a :: l, ?_, ?_⟩
      · rw [A.Rm]
        refine .cons ?_
        show Lst _ (σ'.2.2.1 a 7) l
        rw [A.A7]
        exact cg _ hl
      · intro b
        rw [List.mem_cons, List.mem_cons]
        refine ⟨?_, ?_⟩
        · rintro (rfl | hb)
          · exact ⟨Or.inl rfl, (bkn i hi).mpr rfl⟩
          · exact ⟨Or.inr (hl' b hb), (bko b (hl' b hb) i).mpr ((ml b).mp hb).2⟩
        · rintro ⟨rfl | hb, hk⟩
          · exact Or.inl rfl
          · exact Or.inr ((ml b).mpr ⟨hb, (bko b hb i).mp hk⟩)
    · refine ⟨l, ?_, ?_⟩
      · rw [A.R32 i q]
        exact cg _ hl
      · intro b
        rw [List.mem_cons]
        refine ⟨?_, ?_⟩
        · intro hb
          exact ⟨Or.inr (hl' b hb), (bko b (hl' b hb) i).mpr ((ml b).mp hb).2⟩
        · rintro ⟨rfl | hb, hk⟩
          · exact absurd ((bkn i hi).mp hk) q
          · exact (ml b).mpr ⟨hb, (bko b hb i).mp hk⟩
  · rw [A.R1]
    refine .cons ?_
    show Lst _ (σ'.2.2.1 a 8) ts
    rw [A.A8]
    exact C.old.congr (fun b hb => fR b 8 (pT b hb) (by decide))
  · rw [A.I2, C.cnt]
    exact n_add _ 1
  · intro w hw
    have nu : ∀ u ∈ ts, ∀ w, nxU σ' w u = nxU σ w u := by
      intro u hu w
      unfold nxU
      rw [fR u 3 (pT u hu) (by decide), fR u 4 (pT u hu) (by decide), fR u 13 (pT u hu) (by decide), fR u 14 (pT u hu) (by decide), fR u 15 (pT u hu) (by decide)]
    rcases List.mem_cons.mp hw with rfl | hw
    · refine ⟨[], by rw [A.A12]; exact .nil, fun u => ⟨fun q => (List.not_mem_nil q).elim, ?_⟩⟩
      rintro ⟨hu, q⟩
      exfalso
      rcases List.mem_cons.mp hu with rfl | hu
      · rw [A.A3, A.A4, A.A5] at q
        rcases q with q | q | q
        · exact (po x hx).1 (Option.some.inj q)
        · exact (po y hy).1 (Option.some.inj q)
        · exact (po z hz).1 (Option.some.inj q)
      · obtain ⟨u', v', w', e3, e4, e5, p3, p4, p5⟩ := hpts u hu
        rw [fR u 3 (pT u hu) (by decide), fR u 4 (pT u hu) (by decide), fR u 5 (pT u hu) (by decide), e3, e4, e5] at q
        rcases q with q | q | q
        · exact (po _ p3).1 (Option.some.inj q)
        · exact (po _ p4).1 (Option.some.inj q)
        · exact (po _ p5).1 (Option.some.inj q)
    · obtain ⟨l, hl, ml⟩ := C.us w hw
      have hl' : ∀ b ∈ l, b ∈ ts := fun b hb => ((ml b).mp hb).1
      have cg : ∀ r, Lst (nxU σ w) r l → Lst (nxU σ' w) r l := fun r h => h.congr (fun b hb => nu b (hl' b hb) w)
      have ml' : ∀ u ∈ ts, (u ∈ l ↔ σ'.2.2.1 u 3 = some w ∨ σ'.2.2.1 u 4 = some w ∨ σ'.2.2.1 u 5 = some w) := by
        intro u hu
        rw [fR u 3 (pT u hu) (by decide), fR u 4 (pT u hu) (by decide), fR u 5 (pT u hu) (by decide), ml u]
        exact ⟨fun q => q.2, fun q => ⟨hu, q⟩⟩
      have wo := ao w hw
      by_cases q : w = x ∨ w = y ∨ w = z
      · refine ⟨a :: l, ?_, ?_⟩
        · rw [A.U w wo.1 wo.2.1 wo.2.2 q]
          refine .cons ?_
          have e : nxU σ' w a = σ.2.2.1 w 12 := by
            unfold nxU
            rw [A.A3, A.A4]
            by_cases q1 : w = x
            · subst q1; rw [if_pos rfl, A.A13]
            · rw [if_neg (fun k => q1 (Option.some.inj k))]
              by_cases q2 : w = y
              · subst q2; rw [if_pos rfl, A.A14 q1]
              · rw [if_neg (fun k => q2 (Option.some.inj k))]
                have q3 : w = z := by omega
                subst q3
                exact A.A15 q1 q2
          rw [e]
          exact cg _ hl
        · intro u
          rw [List.mem_cons, List.mem_cons]
          refine ⟨?_, ?_⟩
          · rintro (rfl | hu)
            · refine ⟨Or.inl rfl, ?_⟩
              rw [A.A3, A.A4, A.A5]
              rcases q with rfl | rfl | rfl
              · exact Or.inl rfl
              · exact Or.inr (Or.inl rfl)
              · exact Or.inr (Or.inr rfl)
            · exact ⟨Or.inr (hl' u hu), (ml' u (hl' u hu)).mp hu⟩
          · rintro ⟨rfl | hu, h⟩
            · exact Or.inl rfl
            · exact Or.inr ((ml' u hu).mpr h)
      · refine ⟨l, ?_, ?_⟩
        · rw [A.U0 w wo.1 wo.2.1 wo.2.2 q]
          exact cg _ hl
        · intro u
          rw [List.mem_cons]
          refine ⟨?_, ?_⟩
          · intro hu
            exact ⟨Or.inr (hl' u hu), (ml' u (hl' u hu)).mp hu⟩
          · rintro ⟨rfl | hu, h⟩
            · exfalso
              rw [A.A3, A.A4, A.A5] at h
              apply q
              rcases h with h | h | h
              · exact Or.inl (Option.some.inj h).symm
              · exact Or.inr (Or.inl (Option.some.inj h).symm)
              · exact Or.inr (Or.inr (Option.some.inj h).symm)
            · exact (ml' u hu).mpr h
end Z2_T2
