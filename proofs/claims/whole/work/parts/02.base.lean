def RX12 : String := "PartHouseModel"
def TX12 : u_T := fun k => match k with
  | 0 => ("PartHouseModel", "kindOf", "[B", true)
  | 1 => ("PartHouseModel", "termA", "[I", true)
  | 2 => ("PartHouseModel", "termB", "[I", true)
  | 3 => ("PartHouseModel", "termC", "[I", true)
  | 4 => ("PartHouseModel", "nextLike", "[I", true)
  | 5 => ("PartHouseModel", "isBase", "[Z", true)
  | 6 => ("PartHouseModel", "round", "[I", true)
  | 7 => ("PartHouseModel", "useHead", "[I", true)
  | 8 => ("PartHouseModel", "useNext", "[I", true)
  | 9 => ("PartHouseModel", "queue", "[I", true)
  | 10 => ("PartHouseModel", "queueEnd", "I", false)
  | 11 => ("PartHouseModel", "heads", "[I", true)
  | 12 => ("PartHouseModel", "terms", "I", false)
  | 13 => ("PartHouseModel", "secrets", "I", false)
  | 14 => ("PartHouseModel", "baseCount", "I", false)
  | 15 => ("PartHouseModel", "knownTerms", "I", false)
  | 16 => ("PartHouseModel", "knownBase", "I", false)
  | 17 => ("PartHouseModel", "rowCells", "[I", true)
  | 18 => ("PartHouseModel", "rowEnd", "I", false)
  | 19 => ("PartHouseModel", "dk", "I", false)
  | 20 => ("PartHouseModel", "qk", "I", false)
  | 21 => ("PartHouseModel", "publicQk", "I", false)
  | 22 => ("PartHouseModel", "statement", "[J", true)
  | 23 => ("PartHouseModel", "nameFrom", "[I", true)
  | 24 => ("PartHouseModel", "nameEnd", "[I", true)
  | 25 => ("PartHouseModel", "text", "[B", true)
  | 26 => ("PartHouseModel", "textSize", "I", false)
  | 27 => ("PartHouseModel", "row", "[I", true)
  | 28 => ("PartHouseModel", "rowCount", "I", false)
  | 29 => ("PartHouseModel", "made", "[I", true)
  | 30 => ("PartHouseModel", "madeCount", "I", false)
  | 31 => ("PartHouseModel", "labelName", "[J", true)
  | 32 => ("PartHouseModel", "labelAt", "[I", true)
  | 33 => ("PartHouseModel", "labels", "I", false)
  | 34 => ("PartHouseModel", "useWord", "[I", true)
  | 35 => ("PartHouseModel", "usePlace", "[I", true)
  | 36 => ("PartHouseModel", "useName", "[J", true)
  | 37 => ("PartHouseModel", "isAddress", "[Z", true)
  | 38 => ("PartHouseModel", "uses", "I", false)
  | 39 => ("PartHouseModel", "faultKind", "I", false)
  | 40 => ("PartHouseModel", "faultPlace", "I", false)
  | 41 => ("PartHouseModel", "lastPlace", "I", false)
  | 42 => ("PartHouseModel", "shownText", "[B", true)
  | 43 => ("PartHouseModel", "shownSize", "I", false)
  | 44 => ("PartHouseModel", "token", "I", false)
  | 45 => ("PartHouseModel", "tokenPlace", "I", false)
  | 46 => ("PartHouseModel", "tokenName", "J", false)
  | 47 => ("PartHouseModel", "tokenValue", "J", false)
  | 48 => ("PartHouseModel", "pos", "I", false)
  | 49 => ("PartHouseModel", "kept", "[I", true)
  | 50 => ("PartHouseModel", "keptSize", "[I", true)
  | 51 => ("PartHouseModel", "isOn", "Z", false)
  | 52 => ("PartHouseModel", "boots", "I", false)
  | 53 => ("PartHouseModel", "writes", "I", false)
  | 54 => ("PartHouseModel", "cutLeft", "I", false)
  | 55 => ("PartHouseModel", "partitions", "I", false)
  | 56 => ("PartHouseModel", "base", "[I", true)
  | 57 => ("PartHouseModel", "size", "[I", true)
  | 58 => ("PartHouseModel", "area", "[I", true)
  | 59 => ("PartHouseModel", "areaBefore", "[I", true)
  | 60 => ("PartHouseModel", "channels", "I", false)
  | 61 => ("PartHouseModel", "chanFrom", "[I", true)
  | 62 => ("PartHouseModel", "chanTo", "[I", true)
  | 63 => ("PartHouseModel", "chanLength", "[I", true)
  | 64 => ("PartHouseModel", "slots", "I", false)
  | 65 => ("PartHouseModel", "slotWho", "[I", true)
  | 66 => ("PartHouseModel", "slotSteps", "[I", true)
  | 67 => ("PartHouseModel", "flow", "[Z", true)
  | 68 => ("PartHouseModel", "imageRow", "[I", true)
  | 69 => ("PartHouseModel", "measured", "[I", true)
  | 70 => ("PartHouseModel", "firstVersion", "[I", true)
  | 71 => ("PartHouseModel", "firstTerm", "[I", true)
  | 72 => ("PartHouseModel", "secretOf", "[I", true)
  | 73 => ("PartHouseModel", "secretCount", "[I", true)
  | 74 => ("PartHouseModel", "inputTick", "[I", true)
  | 75 => ("PartHouseModel", "inputTo", "[I", true)
  | 76 => ("PartHouseModel", "inputIsTerm", "[Z", true)
  | 77 => ("PartHouseModel", "inputValue", "[I", true)
  | 78 => ("PartHouseModel", "inputs", "I", false)
  | 79 => ("PartHouseModel", "side", "I", false)
  | 80 => ("PartHouseModel", "ticks", "[I", true)
  | 81 => ("PartHouseModel", "slotAt", "[I", true)
  | 82 => ("PartHouseModel", "stepAt", "[I", true)
  | 83 => ("PartHouseModel", "yielded", "[Z", true)
  | 84 => ("PartHouseModel", "memory", "[I", true)
  | 85 => ("PartHouseModel", "register", "[I", true)
  | 86 => ("PartHouseModel", "pc", "[I", true)
  | 87 => ("PartHouseModel", "halted", "[Z", true)
  | 88 => ("PartHouseModel", "cause", "[I", true)
  | 89 => ("PartHouseModel", "where", "[I", true)
  | 90 => ("PartHouseModel", "handler", "[I", true)
  | 91 => ("PartHouseModel", "inHandler", "[Z", true)
  | 92 => ("PartHouseModel", "table", "[I", true)
  | 93 => ("PartHouseModel", "handles", "[I", true)
  | 94 => ("PartHouseModel", "outValue", "[I", true)
  | 95 => ("PartHouseModel", "outIsTerm", "[Z", true)
  | 96 => ("PartHouseModel", "outCount", "[I", true)
  | 97 => ("PartHouseModel", "waitWord", "[I", true)
  | 98 => ("PartHouseModel", "waitWords", "[I", true)
  | 99 => ("PartHouseModel", "waitTerm", "[I", true)
  | 100 => ("PartHouseModel", "waitTerms", "[I", true)
  | 101 => ("PartHouseModel", "seals", "[I", true)
  | 102 => ("PartHouseModel", "asked", "[I", true)
  | 103 => ("PartHouseModel", "sentWord", "[I", true)
  | 104 => ("PartHouseModel", "isFresh", "[Z", true)
  | 105 => ("PartHouseModel", "sentTerm", "[I", true)
  | 106 => ("PartHouseModel", "version", "[I", true)
  | 107 => ("PartHouseModel", "blockTerm", "[I", true)
  | 108 => ("PartHouseModel", "powerWent", "Z", false)
  | 109 => ("PartHouseModel", "outsideTerm", "[I", true)
  | 110 => ("PartHouseModel", "outside", "I", false)
  | 111 => ("PartHouseModel", "isReached", "[Z", true)
  | 112 => ("PartHouseModel", "toGo", "[I", true)
  | 113 => ("PartHouseModel", "going", "I", false)
  | 114 => ("PartHouseModel", "worst", "I", false)
  | 115 => ("PartHouseModel", "configAt", "I", false)
  | 116 => ("PartHouseModel", "configWrong", "Z", false)
  | 117 => ("PartHouseModel", "newNumbers", "[I", true)
  | 118 => ("PartHouseModel", "me", "I", false)
  | 119 => ("PartHouseModel", "at", "I", false)
  | 120 => ("PartHouseModel", "ground", "I", false)
  | _ => ("PartHouseModel", "jumpTo", "I", false)
def tyX12 : Nat → FieldType := fun k => match k with
  | 0 => .array .byte
  | 1 => .array .int
  | 2 => .array .int
  | 3 => .array .int
  | 4 => .array .int
  | 5 => .array .boolean
  | 6 => .array .int
  | 7 => .array .int
  | 8 => .array .int
  | 9 => .array .int
  | 10 => .int
  | 11 => .array .int
  | 12 => .int
  | 13 => .int
  | 14 => .int
  | 15 => .int
  | 16 => .int
  | 17 => .array .int
  | 18 => .int
  | 19 => .int
  | 20 => .int
  | 21 => .int
  | 22 => .array .long
  | 23 => .array .int
  | 24 => .array .int
  | 25 => .array .byte
  | 26 => .int
  | 27 => .array .int
  | 28 => .int
  | 29 => .array .int
  | 30 => .int
  | 31 => .array .long
  | 32 => .array .int
  | 33 => .int
  | 34 => .array .int
  | 35 => .array .int
  | 36 => .array .long
  | 37 => .array .boolean
  | 38 => .int
  | 39 => .int
  | 40 => .int
  | 41 => .int
  | 42 => .array .byte
  | 43 => .int
  | 44 => .int
  | 45 => .int
  | 46 => .long
  | 47 => .long
  | 48 => .int
  | 49 => .array .int
  | 50 => .array .int
  | 51 => .boolean
  | 52 => .int
  | 53 => .int
  | 54 => .int
  | 55 => .int
  | 56 => .array .int
  | 57 => .array .int
  | 58 => .array .int
  | 59 => .array .int
  | 60 => .int
  | 61 => .array .int
  | 62 => .array .int
  | 63 => .array .int
  | 64 => .int
  | 65 => .array .int
  | 66 => .array .int
  | 67 => .array .boolean
  | 68 => .array .int
  | 69 => .array .int
  | 70 => .array .int
  | 71 => .array .int
  | 72 => .array .int
  | 73 => .array .int
  | 74 => .array .int
  | 75 => .array .int
  | 76 => .array .boolean
  | 77 => .array .int
  | 78 => .int
  | 79 => .int
  | 80 => .array .int
  | 81 => .array .int
  | 82 => .array .int
  | 83 => .array .boolean
  | 84 => .array .int
  | 85 => .array .int
  | 86 => .array .int
  | 87 => .array .boolean
  | 88 => .array .int
  | 89 => .array .int
  | 90 => .array .int
  | 91 => .array .boolean
  | 92 => .array .int
  | 93 => .array .int
  | 94 => .array .int
  | 95 => .array .boolean
  | 96 => .array .int
  | 97 => .array .int
  | 98 => .array .int
  | 99 => .array .int
  | 100 => .array .int
  | 101 => .array .int
  | 102 => .array .int
  | 103 => .array .int
  | 104 => .array .boolean
  | 105 => .array .int
  | 106 => .array .int
  | 107 => .array .int
  | 108 => .boolean
  | 109 => .array .int
  | 110 => .int
  | 111 => .array .boolean
  | 112 => .array .int
  | 113 => .int
  | 114 => .int
  | 115 => .int
  | 116 => .boolean
  | 117 => .array .int
  | 118 => .int
  | 119 => .int
  | 120 => .int
  | _ => .int
abbrev wsX120 : List Cond := u_ws RX12 TX12 122
theorem nmX12 : ∀ a, a < 122 → ∀ b, b < 122 → a ≠ b → (TX12 a).2.1 ≠ (TX12 b).2.1 := by decide +kernel
theorem tyX12_ok : ∀ k, k < 122 → parseFieldDescriptor (TX12 k).2.2.1 = some (tyX12 k) := by decide +kernel

def rf_fkL : List Nat := [2, 3, 4, 5, 6, 7, 8, 9, 10, 11, 0, 12, 0, 0, 0, 0, 0, 13, 0, 0, 0, 0, 14, 15, 16, 17, 0, 18, 0, 19, 0, 20, 21, 0, 22, 23, 24, 25, 0, 0, 0, 0, 26, 0, 0, 0, 1, 1, 0, 27, 28, 0, 0, 0, 0, 0, 29, 30, 31, 32, 0, 33, 34, 35, 0, 36, 37, 38, 39, 40, 41, 42, 43, 44, 45, 46, 47, 48, 0, 0, 49, 50, 51, 52, 53, 54, 55, 56, 57, 58, 59, 60, 61, 62, 63, 64, 65, 66, 67, 68, 69, 70, 71, 72, 73, 74, 75, 76, 0, 77, 0, 78, 79, 0, 0, 0, 0, 80, 0, 0, 0, 0]

def rf_ixL : List Nat := [8, 14, 18, 21, 24, 27, 31, 34, 38, 41, 318, 44, 293, 278, 306, 47, 51, 55, 303, 275, 281, 284, 58, 62, 65, 68, 338, 71, 456, 74, 405, 77, 80, 419, 83, 86, 89, 92, 402, 383, 386, 95, 98, 459, 357, 354, 369, 373, 345, 101, 104, 528, 535, 674, 544, 513, 107, 110, 113, 116, 516, 119, 122, 125, 519, 128, 131, 134, 137, 140, 143, 146, 149, 152, 155, 158, 161, 164, 547, 525, 167, 170, 173, 176, 179, 182, 185, 188, 191, 194, 197, 200, 203, 206, 209, 212, 215, 218, 221, 224, 227, 230, 233, 236, 239, 242, 245, 248, 553, 251, 681, 254, 257, 487, 484, 504, 500, 260, 567, 563, 570, 576]

def rf_lnL : List Nat := [0, 112000, 112000, 112000, 112000, 112000, 112000, 112000, 112000, 336000, 112000, 16384, 690000, 42, 42, 42, 6000, 2048, 2048, 200, 200, 2048, 2048, 2048, 2048, 64, 17000, 10, 8, 8, 8, 8, 16, 16, 16, 32, 32, 64, 8, 8, 64, 64, 800, 8, 500, 500, 500, 500, 2, 2, 2, 2, 16384, 256, 16, 16, 16, 16, 16, 16, 1600, 16, 3200, 3200, 16, 1024, 16, 1024, 16, 16, 16, 512, 32, 32, 128, 128, 600, 2048, 4100, 200]

def rf_tyL : List Nat := [0, 1, 0, 0, 0, 0, 2, 0, 0, 0, 0, 0, 0, 3, 0, 0, 1, 0, 0, 3, 0, 0, 0, 3, 2, 1, 0, 0, 0, 0, 0, 0, 0, 0, 0, 0, 0, 2, 0, 0, 0, 0, 0, 0, 0, 0, 2, 0, 0, 0, 0, 2, 0, 0, 0, 2, 0, 0, 0, 2, 0, 0, 0, 2, 0, 0, 0, 0, 0, 0, 0, 0, 2, 0, 0, 0, 0, 2, 0, 0]

def rf_fk (k : Nat) : Nat := rf_fkL.getD k 0
def rf_ix (k : Nat) : Nat := rf_ixL.getD k 0
def rf_ln (k : Nat) : Nat := rf_lnL.getD k 0
def rf_ty (k : Nat) : Nat := rf_tyL.getD k 0
def rf_NA : Nat := 79
/-! loops: a body answers a next state, or an end -/
def lp_it {S X : Type} (body : S → Option (S ⊕ X)) : Nat → S → Option X
  | 0, _ => none
  | n + 1, s => match body s with
    | none => none
    | some (.inl s') => lp_it body n s'
    | some (.inr x) => some x
theorem lp_up {S X : Type} {body : S → Option (S ⊕ X)} {x : X} : ∀ (n : Nat) (s : S), lp_it body n s = some x → lp_it body (n + 1) s = some x
  | 0, _, h => by cases h
  | n + 1, s, h => by
    rw [lp_it] at h ⊢
    cases hb : body s with
    | none => rw [hb] at h; cases h
    | some o =>
      rw [hb] at h
      cases o with
      | inl s' => exact lp_up n s' h
      | inr y => exact h
theorem lp_le {S X : Type} {body : S → Option (S ⊕ X)} {x : X} {s : S} {n : Nat} (h : lp_it body n s = some x) : ∀ k, lp_it body (n + k) s = some x
  | 0 => h
  | k + 1 => lp_up _ _ (lp_le h k)
theorem lp_one {S X : Type} {body : S → Option (S ⊕ X)} {x y : X} {s : S} {n k : Nat} (h : lp_it body n s = some x) (h2 : lp_it body k s = some y) : x = y := by
  have a := lp_le h k
  have b := lp_le h2 n
  rw [Nat.add_comm] at b
  rw [a] at b
  exact Option.some.inj b
noncomputable def lp {S X : Type} (body : S → Option (S ⊕ X)) (s : S) : Option X := @dite (Option X) (∃ (x : X) (n : Nat), lp_it body n s = some x) (Classical.propDecidable _) (fun h => some (Classical.choose h)) (fun _ => none)
theorem lp_iff {S X : Type} {body : S → Option (S ⊕ X)} {s : S} {x : X} : lp body s = some x ↔ ∃ n, lp_it body n s = some x := by
  unfold lp
  by_cases h : ∃ (x : X) (n : Nat), lp_it body n s = some x
  · rw [dif_pos h]
    obtain ⟨n, hn⟩ := Classical.choose_spec h
    constructor
    · intro e
      rw [← Option.some.inj e]
      exact ⟨n, hn⟩
    · rintro ⟨k, hk⟩
      rw [lp_one hn hk]
  · rw [dif_neg h]
    constructor
    · intro e; cases e
    · rintro ⟨k, hk⟩
      exact absurd ⟨x, k, hk⟩ h
theorem lp_next {S X : Type} {body : S → Option (S ⊕ X)} {s s' : S} (h : body s = some (.inl s')) : lp body s = lp body s' := by
  have key : ∀ x, lp body s = some x ↔ lp body s' = some x := by
    intro x
    rw [lp_iff, lp_iff]
    constructor
    · rintro ⟨n, hn⟩
      cases n with
      | zero => cases hn
      | succ n =>
        rw [lp_it, h] at hn
        exact ⟨n, hn⟩
    · rintro ⟨n, hn⟩
      exact ⟨n + 1, by rw [lp_it, h]; exact hn⟩
  cases h1 : lp body s with
  | some x => exact ((key x).mp h1).symm
  | none =>
    cases h2 : lp body s' with
    | none => rfl
    | some x => exact absurd ((key x).mpr h2) (by rw [h1]; exact fun q => by cases q)
theorem lp_end {S X : Type} {body : S → Option (S ⊕ X)} {s : S} {x : X} (h : body s = some (.inr x)) : lp body s = some x := lp_iff.mpr ⟨1, by rw [lp_it, h]⟩
theorem lp_rec {S X : Type} {body : S → Option (S ⊕ X)} {x : X} (P : S → Prop) (step : ∀ (s : S) (o : S ⊕ X), body s = some o → Sum.elim P (fun y => y = x) o → P s) (s : S) (h : lp body s = some x) : P s := by
  obtain ⟨n, hn⟩ := lp_iff.mp h
  have key : ∀ (n : Nat) (s : S), lp_it body n s = some x → P s := by
    intro n
    induction n with
    | zero => intro s h; cases h
    | succ n ih =>
      intro s h
      rw [lp_it] at h
      cases hb : body s with
      | none => rw [hb] at h; cases h
      | some o =>
        rw [hb] at h
        refine step s o hb ?_
        cases o with
        | inl s' => exact ih s' h
        | inr y => exact Option.some.inj h
  exact key n s hn
/-- an index is in range -/
def ix {α : Type} (i : Int32) (n : Nat) (x : Option α) : Option α := if i < 0 ∨ n ≤ i.toNatClampNeg then none else x
theorem ix_some {α : Type} {i : Int32} {n : Nat} {x : Option α} {y : α} (h : ix i n x = some y) : vp_in i n ∧ x = some y := by
  unfold ix at h
  by_cases q : i < 0 ∨ n ≤ i.toNatClampNeg
  · rw [if_pos q] at h; cases h
  · rw [if_neg q] at h; exact ⟨q, h⟩
theorem ix_in {α : Type} {i : Int32} {n : Nat} {x : Option α} (h : vp_in i n) : ix i n x = x := if_neg h
theorem bd_some {α β : Type} {x : Option α} {f : α → Option β} {y : β} (h : x.bind f = some y) : ∃ q, x = some q ∧ f q = some y := by
  cases x with
  | none => cases h
  | some q => exact ⟨q, rfl, h⟩
/-- a divisor isn't 0 -/
def nz {α : Type} (i : Int32) (x : Option α) : Option α := if i = 0 then none else x
theorem nz_some {α : Type} {i : Int32} {x : Option α} {y : α} (h : nz i x = some y) : ¬ i = 0 ∧ x = some y := by
  unfold nz at h
  by_cases q : i = 0
  · rw [if_pos q] at h; cases h
  · rw [if_neg q] at h; exact ⟨q, h⟩
def nzL {α : Type} (i : Int64) (x : Option α) : Option α := if i = 0 then none else x
theorem nzL_some {α : Type} {i : Int64} {x : Option α} {y : α} (h : nzL i x = some y) : ¬ i = 0 ∧ x = some y := by
  unfold nzL at h
  by_cases q : i = 0
  · rw [if_pos q] at h; cases h
  · rw [if_neg q] at h; exact ⟨q, h⟩
def up2 {α : Type} (f : Nat → Nat → α) (a k : Nat) (v : α) : Nat → Nat → α := fun b j => if b = a ∧ j = k then v else f b j
theorem up2_s {α : Type} {f : Nat → Nat → α} {a k : Nat} {v : α} : up2 f a k v a k = v := if_pos ⟨rfl, rfl⟩
theorem up2_a {α : Type} {f : Nat → Nat → α} {a k b j : Nat} {v : α} (h : b ≠ a) : up2 f a k v b j = f b j := if_neg (fun q => h q.1)
theorem up2_k {α : Type} {f : Nat → Nat → α} {a k b j : Nat} {v : α} (h : j ≠ k) : up2 f a k v b j = f b j := if_neg (fun q => h q.2)
def rf_tb : List Cond := lw_tbl.filter goodWord
/-! the reference's state: ρ.1 0 k the int field k, ρ.1 c j the place j of its array number c; ρ.2 likewise for longs -/
abbrev rf_S : Type := (Nat → Nat → Int32) × (Nat → Nat → Int64)
def rf_w (ρ : rf_S) (a k : Nat) (v : Int32) : rf_S := (up2 ρ.1 a k v, ρ.2)
def rf_wl (ρ : rf_S) (a k : Nat) (v : Int64) : rf_S := (ρ.1, up2 ρ.2 a k v)
abbrev rf_D : Type := ClassId × (Nat → Nat) × (Nat → ClassId)
def rf_T : Nat → FieldType := fun t => match t with
  | 0 => .int
  | 1 => .byte
  | 2 => .boolean
  | _ => .long
def rf_V (h0 : Nat) (ρ : rf_S) (k : Nat) : Value := match rf_fk k with
  | 0 => .int (ρ.1 0 k)
  | 1 => .long (ρ.2 0 k)
  | c + 2 => .ref (h0 + (c + 1))
def rf_cell (ca : Nat → ClassId) (ρ : rf_S) (c : Nat) : Cell := if rf_ty c = 3 then arrV (ca 3) (rf_ln c) (fun j => .long (ρ.2 c j)) else arrV (ca (rf_ty c)) (rf_ln c) (fun j => .int (ρ.1 c j))
def rf_P (D : rf_D) (h0 : Nat) (ρ : rf_S) (H : Heap) : Prop := t_OB h0 D.1 122 D.2.1 H (rf_V h0 ρ) ∧ ∀ c, c < rf_NA → H[h0 + (c + 1)]? = some (rf_cell D.2.2 ρ (c + 1))
def rf_K (D : rf_D) (U : State) : Prop := u_Kn U RX12 TX12 122 D.1 D.2.1 ∧ ∀ t, t < 4 → ArrOfT U (D.2.2 t) (rf_T t)
theorem rf_K.moved {D : rf_D} {u U : State} (hvm : u.vm.Alike U.vm) (h : rf_K D u) : rf_K D U := ⟨u_Kn_moved hvm h.1, fun t ht => arrOfT_moved hvm (h.2 t ht)⟩
def rf_A (h0 : Nat) : Nat → Prop := fun q => h0 ≤ q ∧ q ≤ h0 + rf_NA
def rf_Gz (z9 : Nat) (D : rf_D) (h0 : Nat) (s : State) (ρ : rf_S) (H : Heap) (locs : List Loc) : Prop := rf_P D h0 ρ H ∧ H.size = z9 ∧ va_S (rf_A h0) s.heap H locs
abbrev rf_G (D : rf_D) (h0 : Nat) (s : State) (ρ : rf_S) (H : Heap) (locs : List Loc) : Prop := rf_Gz s.heap.size D h0 s ρ H locs
def rf_C (D : rf_D) (p : Program) (s : State) (m : MethodId) (args : Array Value) (meth : Method) (c : Code) (cc : ByteArray) (nL : Nat) (ret : Option FieldType) : Prop :=
  p.tables.exec = Jvm.exec ∧ c.code = cc ∧ c.maxLocals = nL ∧ s.vm.findClass RX12 = some m.cls ∧ (∀ w ∈ rf_tb, w.before args s = true) ∧ rf_K D s ∧ meth.sig.returnType = ret ∧ meth.locks = false
def rf_Q (D : rf_D) (h0 : Nat) (rv : Option Value) (ρ' : rf_S) : Array Value → State → Outcome → State → Prop := fun _ st o t => o = .returned rv ∧ rf_P D h0 ρ' t.heap ∧ t.heap.size = st.heap.size ∧ va_F (rf_A h0) st t
def rf_Met (l : Launch) (D : rf_D) (h0 : Nat) (y : MethodName) (cc : ByteArray) (maxL : Nat) (ret : Option FieldType) (fr lo : Nat) (av : List Value) (ρ : rf_S) (rv : Option Value) (ρ' : rf_S) : Prop :=
  Met l y (.code y cc maxL ret :: rf_tb) ({ frames := fr, cells := 0, slots := 0, locals := lo }) (va_Pc av (fun U => rf_P D h0 ρ U.heap ∧ rf_K D U)) (rf_Q D h0 rv ρ') 0 0 (rf_A h0)
theorem rf_at {w : Cond} (i : Nat) (h : tables_1[i]? = some w) (hg : goodWord w = true) : w ∈ rf_tb := List.mem_filter.mpr ⟨List.mem_append_right _ (List.mem_of_getElem? h), hg⟩
theorem rf_sel {q : MethodName × Nat} (i : Nat) (h : lw_privs[i]? = some q) (hg : goodWord (Cond.selects q.1.cls q.1 q.1) = true) : Cond.selects q.1.cls q.1 q.1 ∈ rf_tb := List.mem_filter.mpr ⟨List.mem_append_left _ (List.mem_map.mpr ⟨q, List.mem_of_getElem? h, rfl⟩), hg⟩
theorem rf_ats {ws : List Cond} (ps : List Nat) (h : ws = ps.filterMap (fun i => tables_1[i]?)) (hg : ws.all goodWord = true) : ∀ w ∈ ws, w ∈ rf_tb := by
  intro w hw
  have h1 := List.all_eq_true.mp hg w hw
  rw [h] at hw
  obtain ⟨i, -, hi⟩ := List.mem_filterMap.mp hw
  exact rf_at i hi h1
theorem rf_goodIn (ws : List Cond) : GoodIn (ws ++ rf_tb) rf_tb := fun w h => ⟨List.mem_append_right _ h, good_of_word (List.mem_filter.mp h).2⟩
theorem rf_in : ∀ w ∈ u_ws RX12 TX12 122, w ∈ rf_tb := rf_ats [1656, 1658, 1660, 1662, 1664, 1666, 1668, 1670, 1672, 1674, 1676, 1678, 1680, 1682, 1684, 1686, 1688, 1690, 1692, 1694, 1696, 1698, 1700, 1702, 1704, 1706, 1708, 1710, 1712, 1714, 1716, 1718, 1720, 1722, 1724, 1726, 1728, 1730, 1732, 1734, 1736, 1738, 1740, 1742, 1744, 1746, 1748, 1750, 1752, 1754, 1756, 1758, 1760, 1762, 1764, 1766, 1768, 1770, 1772, 1774, 1776, 1778, 1780, 1782, 1784, 1786, 1788, 1790, 1792, 1794, 1796, 1798, 1800, 1802, 1804, 1806, 1808, 1810, 1812, 1814, 1816, 1818, 1820, 1822, 1824, 1826, 1828, 1830, 1832, 1834, 1836, 1838, 1840, 1842, 1844, 1846, 1848, 1850, 1852, 1854, 1856, 1858, 1860, 1862, 1864, 1866, 1868, 1870, 1872, 1874, 1876, 1878, 1880, 1882, 1884, 1886, 1888, 1890, 1892, 1894, 1896, 1898] (by decide +kernel) (by decide +kernel)
theorem rf_lk : ∀ w ∈ (List.range 122).map (fun k => Cond.fieldLink RX12 (rf_ix k) "PartHouseModel" (TX12 k).2.1 (TX12 k).2.2.1), w ∈ rf_tb := rf_ats [1534, 1535, 1536, 1537, 1538, 1539, 1540, 1541, 1542, 1543, 1544, 1545, 1546, 1547, 1548, 1549, 1550, 1551, 1552, 1553, 1554, 1555, 1556, 1557, 1558, 1559, 1560, 1561, 1562, 1563, 1564, 1565, 1566, 1567, 1568, 1569, 1570, 1571, 1572, 1573, 1574, 1575, 1576, 1577, 1578, 1579, 1580, 1581, 1582, 1583, 1584, 1585, 1586, 1587, 1588, 1589, 1590, 1591, 1592, 1593, 1594, 1595, 1596, 1597, 1598, 1599, 1600, 1601, 1602, 1603, 1604, 1605, 1606, 1607, 1608, 1609, 1610, 1611, 1612, 1613, 1614, 1615, 1616, 1617, 1618, 1619, 1620, 1621, 1622, 1623, 1624, 1625, 1626, 1627, 1628, 1629, 1630, 1631, 1632, 1633, 1634, 1635, 1636, 1637, 1638, 1639, 1640, 1641, 1642, 1643, 1644, 1645, 1646, 1647, 1648, 1649, 1650, 1651, 1652, 1653, 1654, 1655] (by decide +kernel) (by decide +kernel)
theorem rf_link {k : Nat} (hk : k < 122) : Cond.fieldLink RX12 (rf_ix k) "PartHouseModel" (TX12 k).2.1 (TX12 k).2.2.1 ∈ rf_tb := rf_lk _ (List.mem_map.mpr ⟨k, List.mem_range.mpr hk, rfl⟩)
