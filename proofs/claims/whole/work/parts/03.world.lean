/-! The state of both sides: whole numbers by (component, member), rows of them, rows of longs, the law that holds (a ref that changes). -/
abbrev STt : Type := (Nat → Nat → Int32) × (Nat → Nat → Nat → Int32) × (Nat → Nat → Nat → Int64) × Nat
def sS (g : STt) (c i : Nat) (v : Int32) : STt := (fun c' i' => if c' = c ∧ i' = i then v else g.1 c' i', g.2)
def sA (g : STt) (c i : Nat) (f : Nat → Int32) : STt := (g.1, fun c' i' => if c' = c ∧ i' = i then f else g.2.1 c' i', g.2.2)
def sL (g : STt) (c i : Nat) (f : Nat → Int64) : STt := (g.1, g.2.1, fun c' i' => if c' = c ∧ i' = i then f else g.2.2.1 c' i', g.2.2.2)
def sA1 (g : STt) (c i k : Nat) (v : Int32) : STt := sA g c i (upd (g.2.1 c i) k v)
def sL1 (g : STt) (c i k : Nat) (v : Int64) : STt := sL g c i (vp_updL (g.2.2.1 c i) k v)
def sW (g : STt) (k : Nat) : STt := (g.1, g.2.1, g.2.2.1, k)
/-- an index within -/
def inB (i : Int32) (n : Nat) : Bool := decide (0 ≤ i.toInt) && decide (i.toInt < (n : Int))
theorem inB_in {i : Int32} {n : Nat} (h : inB i n = true) : vp_in i n := by
  simp only [inB, Bool.and_eq_true, decide_eq_true_eq] at h
  exact vp_in_iff.mpr h
theorem inB_lt {i : Int32} {n : Nat} (h : inB i n = true) : i.toNatClampNeg < n := Nat.not_le.mp fun q => inB_in h (Or.inr q)
def bnd {α β γ : Type} (x : Option (α × β)) (f : α → β → Option γ) : Option γ := match x with
  | none => none
  | some q => f q.1 q.2
theorem bnd_s {α β γ : Type} {x : Option (α × β)} {f : α → β → Option γ} {r : γ} (h : bnd x f = some r) : ∃ a b, x = some (a, b) ∧ f a b = some r := by
  cases x with
  | none => cases h
  | some q => exact ⟨q.1, q.2, rfl, h⟩
def bnd1 {α γ : Type} (x : Option α) (f : α → Option γ) : Option γ := match x with
  | none => none
  | some q => f q
theorem bnd1_s {α γ : Type} {x : Option α} {f : α → Option γ} {r : γ} (h : bnd1 x f = some r) : ∃ a, x = some a ∧ f a = some r := by
  cases x with
  | none => cases h
  | some q => exact ⟨q, rfl, h⟩
def ocase {γ : Type} (x : Option Nat) (a : γ) (f : Nat → γ) : γ := match x with
  | none => a
  | some q => f q
theorem gd_t {p : Prop} [Decidable p] {α : Type} {x : Option α} {r : α} (h : (if p then x else none) = some r) : p ∧ x = some r := by
  by_cases hp : p
  · exact ⟨hp, by rwa [if_pos hp] at h⟩
  · rw [if_neg hp] at h; cases h
theorem if_t {p : Prop} [Decidable p] {α : Type} {x y r : α} (hp : p) (h : (if p then x else y) = r) : x = r := by rwa [if_pos hp] at h
theorem if_f {p : Prop} [Decidable p] {α : Type} {x y r : α} (hp : ¬ p) (h : (if p then x else y) = r) : y = r := by rwa [if_neg hp] at h
def iterO {σ τ : Type} (F : (σ → Option τ) → σ → Option τ) : Nat → σ → Option τ
  | 0, _ => none
  | n + 1, s => F (iterO F n) s
theorem iterO_ind {σ τ : Type} {F : (σ → Option τ) → σ → Option τ} (P : σ → τ → Prop) (hF : ∀ K : σ → Option τ, (∀ s r, K s = some r → P s r) → ∀ s r, F K s = some r → P s r) : ∀ (n : Nat) (s : σ) (r : τ), iterO F n s = some r → P s r := by
  intro n
  induction n with
  | zero => intro s r h; cases h
  | succ n ih => intro s r h; exact hF (iterO F n) ih s r h
theorem iterO_succ {σ τ : Type} (F : (σ → Option τ) → σ → Option τ) (n : Nat) (s : σ) : iterO F (n + 1) s = F (iterO F n) s := rfl

abbrev WEt : Type := va_G × (Nat → ClassId) × (Nat → Nat → Nat) × (Nat → Prop) × (Nat → Nat)
def aE (E : WEt) (fam i : Nat) : Nat := E.2.2.1 fam i
def tyE (E : WEt) : List (ClassId × FieldType) := [(E.2.1 0, .int), (E.2.1 1, .long), (E.2.1 2, .boolean), (E.2.1 3, .byte), (E.2.1 4, .object "DonkeyBridge$Law"), (E.2.1 5, .object "DonkeyBridge$Tape"), (E.2.1 6, .object "DonkeyBridge$Donkey")]
def oV (E : WEt) (fam : Nat) (x : Option Nat) : Value := match x with
  | none => .null
  | some k => .ref (aE E fam k)
def lnS : Nat → Nat
  | 0 => 100
  | 1 => 12
  | 2 => 12
  | 3 => 4
  | 4 => 12
  | 5 => 12
  | 6 => 4
  | _ => 20
def cellsC (E : WEt) (g : STt) : va_W := [(aE E 0 0, .inr (10, [.ref (aE E 1 (0)), .ref (aE E 5 (0)), .ref (aE E 6 (0)), .ref (aE E 21 (6)), .int (g.1 0 0), .ref (aE E 7 (0)), .ref (aE E 10 (0)), .ref (aE E 14 (0)), .ref (aE E 15 (0)), .ref (aE E 16 (0)), .ref (aE E 16 (1)), .int (g.1 1 0)])),
  (aE E 1 0, .inr (4, [.ref (aE E 2 (0)), .ref (aE E 3 (0)), .ref (aE E 4 (0)), .int (g.1 2 0)])),
  (aE E 2 0, .inl (E.2.1 0, 10, .inl (g.2.1 3 0))),
  (aE E 3 0, .inl (E.2.1 0, 10, .inl (g.2.1 4 0))),
  (aE E 4 0, .inl (E.2.1 0, 10, .inl (g.2.1 5 0))),
  (aE E 5 0, .inr (7, [.ref (aE E 17 (0)), .int (g.1 6 0)])),
  (aE E 6 0, .inl (E.2.1 4, 6, .inr (.inr (.inr (.inr (fun j => if j < 6 then some (aE E 21 (j)) else none)))))),
  (aE E 7 0, .inr (9, [.ref (aE E 1 (0)), .ref (aE E 21 g.2.2.2), .ref (aE E 8 (0)), .ref (aE E 9 (0))])),
  (aE E 8 0, .inl (E.2.1 0, 9, .inl (g.2.1 7 0))),
  (aE E 9 0, .inl (E.2.1 0, 7, .inl (g.2.1 8 0))),
  (aE E 10 0, .inr (8, [.ref (aE E 7 (0)), .ref (aE E 16 (0)), .ref (aE E 11 (0)), .ref (aE E 19 (9)), .ref (aE E 12 (0)), .ref (aE E 13 (0)), .int (g.1 9 0), .int (g.1 10 0), .int (g.1 11 0)])),
  (aE E 11 0, .inl (E.2.1 6, 7, .inr (.inr (.inr (.inr (fun j => if j < 7 then some (aE E 19 (2 + j)) else none)))))),
  (aE E 12 0, .inl (E.2.1 0, 4, .inl (g.2.1 12 0))),
  (aE E 13 0, .inl (E.2.1 0, 4, .inl (g.2.1 13 0))),
  (aE E 14 0, .inr (0, [.ref (aE E 1 (0)), .ref (aE E 17 (7)), .int (g.1 14 0), .int (g.1 15 0), .int (g.1 16 0), .int (g.1 17 0)])),
  (aE E 15 0, .inl (E.2.1 5, 6, .inr (.inr (.inr (.inr (fun j => if j < 6 then some (aE E 26 (j)) else none)))))),
  (aE E 16 0, .inr (3, [.ref (aE E 19 (0)), .ref (aE E 17 (1 + 3 * 0)), .ref (aE E 17 (2 + 3 * 0)), .ref (aE E 17 (3 + 3 * 0)), .int (g.1 18 0), .int (g.1 19 0)])),
  (aE E 16 1, .inr (3, [.ref (aE E 19 (1)), .ref (aE E 17 (1 + 3 * 1)), .ref (aE E 17 (2 + 3 * 1)), .ref (aE E 17 (3 + 3 * 1)), .int (g.1 18 1), .int (g.1 19 1)])),
  (aE E 17 0, .inr (5, [.ref (aE E 18 (0)), .int (g.1 20 0)])),
  (aE E 18 0, .inl (E.2.1 0, lnS 0, .inl (g.2.1 21 0))),
  (aE E 17 1, .inr (5, [.ref (aE E 18 (1)), .int (g.1 20 1)])),
  (aE E 18 1, .inl (E.2.1 0, lnS 1, .inl (g.2.1 21 1))),
  (aE E 17 2, .inr (5, [.ref (aE E 18 (2)), .int (g.1 20 2)])),
  (aE E 18 2, .inl (E.2.1 0, lnS 2, .inl (g.2.1 21 2))),
  (aE E 17 3, .inr (5, [.ref (aE E 18 (3)), .int (g.1 20 3)])),
  (aE E 18 3, .inl (E.2.1 0, lnS 3, .inl (g.2.1 21 3))),
  (aE E 17 4, .inr (5, [.ref (aE E 18 (4)), .int (g.1 20 4)])),
  (aE E 18 4, .inl (E.2.1 0, lnS 4, .inl (g.2.1 21 4))),
  (aE E 17 5, .inr (5, [.ref (aE E 18 (5)), .int (g.1 20 5)])),
  (aE E 18 5, .inl (E.2.1 0, lnS 5, .inl (g.2.1 21 5))),
  (aE E 17 6, .inr (5, [.ref (aE E 18 (6)), .int (g.1 20 6)])),
  (aE E 18 6, .inl (E.2.1 0, lnS 6, .inl (g.2.1 21 6))),
  (aE E 17 7, .inr (5, [.ref (aE E 18 (7)), .int (g.1 20 7)])),
  (aE E 18 7, .inl (E.2.1 0, lnS 7, .inl (g.2.1 21 7))),
  (aE E 19 0, .inr (1, [.ref (aE E 20 (0))])),
  (aE E 20 0, .inl (E.2.1 0, 15, .inl (g.2.1 22 0))),
  (aE E 19 1, .inr (1, [.ref (aE E 20 (1))])),
  (aE E 20 1, .inl (E.2.1 0, 15, .inl (g.2.1 22 1))),
  (aE E 19 2, .inr (1, [.ref (aE E 20 (2))])),
  (aE E 20 2, .inl (E.2.1 0, 15, .inl (g.2.1 22 2))),
  (aE E 19 3, .inr (1, [.ref (aE E 20 (3))])),
  (aE E 20 3, .inl (E.2.1 0, 15, .inl (g.2.1 22 3))),
  (aE E 19 4, .inr (1, [.ref (aE E 20 (4))])),
  (aE E 20 4, .inl (E.2.1 0, 15, .inl (g.2.1 22 4))),
  (aE E 19 5, .inr (1, [.ref (aE E 20 (5))])),
  (aE E 20 5, .inl (E.2.1 0, 15, .inl (g.2.1 22 5))),
  (aE E 19 6, .inr (1, [.ref (aE E 20 (6))])),
  (aE E 20 6, .inl (E.2.1 0, 15, .inl (g.2.1 22 6))),
  (aE E 19 7, .inr (1, [.ref (aE E 20 (7))])),
  (aE E 20 7, .inl (E.2.1 0, 15, .inl (g.2.1 22 7))),
  (aE E 19 8, .inr (1, [.ref (aE E 20 (8))])),
  (aE E 20 8, .inl (E.2.1 0, 15, .inl (g.2.1 22 8))),
  (aE E 19 9, .inr (1, [.ref (aE E 20 (9))])),
  (aE E 20 9, .inl (E.2.1 0, 15, .inl (g.2.1 22 9))),
  (aE E 21 0, .inr (2, [.ref (aE E 22 (0)), .ref (aE E 23 (0)), .ref (aE E 24 (0)), .int (g.1 23 0), .ref (aE E 25 (0)), .int (g.1 24 0)])),
  (aE E 22 0, .inl (E.2.1 0, 10, .inl (g.2.1 25 0))),
  (aE E 23 0, .inl (E.2.1 0, 10, .inl (g.2.1 26 0))),
  (aE E 24 0, .inl (E.2.1 0, 10, .inl (g.2.1 27 0))),
  (aE E 25 0, .inl (E.2.1 0, 100, .inl (g.2.1 28 0))),
  (aE E 21 1, .inr (2, [.ref (aE E 22 (1)), .ref (aE E 23 (1)), .ref (aE E 24 (1)), .int (g.1 23 1), .ref (aE E 25 (1)), .int (g.1 24 1)])),
  (aE E 22 1, .inl (E.2.1 0, 10, .inl (g.2.1 25 1))),
  (aE E 23 1, .inl (E.2.1 0, 10, .inl (g.2.1 26 1))),
  (aE E 24 1, .inl (E.2.1 0, 10, .inl (g.2.1 27 1))),
  (aE E 25 1, .inl (E.2.1 0, 100, .inl (g.2.1 28 1))),
  (aE E 21 2, .inr (2, [.ref (aE E 22 (2)), .ref (aE E 23 (2)), .ref (aE E 24 (2)), .int (g.1 23 2), .ref (aE E 25 (2)), .int (g.1 24 2)])),
  (aE E 22 2, .inl (E.2.1 0, 10, .inl (g.2.1 25 2))),
  (aE E 23 2, .inl (E.2.1 0, 10, .inl (g.2.1 26 2))),
  (aE E 24 2, .inl (E.2.1 0, 10, .inl (g.2.1 27 2))),
  (aE E 25 2, .inl (E.2.1 0, 100, .inl (g.2.1 28 2))),
  (aE E 21 3, .inr (2, [.ref (aE E 22 (3)), .ref (aE E 23 (3)), .ref (aE E 24 (3)), .int (g.1 23 3), .ref (aE E 25 (3)), .int (g.1 24 3)])),
  (aE E 22 3, .inl (E.2.1 0, 10, .inl (g.2.1 25 3))),
  (aE E 23 3, .inl (E.2.1 0, 10, .inl (g.2.1 26 3))),
  (aE E 24 3, .inl (E.2.1 0, 10, .inl (g.2.1 27 3))),
  (aE E 25 3, .inl (E.2.1 0, 100, .inl (g.2.1 28 3))),
  (aE E 21 4, .inr (2, [.ref (aE E 22 (4)), .ref (aE E 23 (4)), .ref (aE E 24 (4)), .int (g.1 23 4), .ref (aE E 25 (4)), .int (g.1 24 4)])),
  (aE E 22 4, .inl (E.2.1 0, 10, .inl (g.2.1 25 4))),
  (aE E 23 4, .inl (E.2.1 0, 10, .inl (g.2.1 26 4))),
  (aE E 24 4, .inl (E.2.1 0, 10, .inl (g.2.1 27 4))),
  (aE E 25 4, .inl (E.2.1 0, 100, .inl (g.2.1 28 4))),
  (aE E 21 5, .inr (2, [.ref (aE E 22 (5)), .ref (aE E 23 (5)), .ref (aE E 24 (5)), .int (g.1 23 5), .ref (aE E 25 (5)), .int (g.1 24 5)])),
  (aE E 22 5, .inl (E.2.1 0, 10, .inl (g.2.1 25 5))),
  (aE E 23 5, .inl (E.2.1 0, 10, .inl (g.2.1 26 5))),
  (aE E 24 5, .inl (E.2.1 0, 10, .inl (g.2.1 27 5))),
  (aE E 25 5, .inl (E.2.1 0, 100, .inl (g.2.1 28 5))),
  (aE E 21 6, .inr (2, [.ref (aE E 22 (6)), .ref (aE E 23 (6)), .ref (aE E 24 (6)), .int (g.1 23 6), .ref (aE E 25 (6)), .int (g.1 24 6)])),
  (aE E 22 6, .inl (E.2.1 0, 10, .inl (g.2.1 25 6))),
  (aE E 23 6, .inl (E.2.1 0, 10, .inl (g.2.1 26 6))),
  (aE E 24 6, .inl (E.2.1 0, 10, .inl (g.2.1 27 6))),
  (aE E 25 6, .inl (E.2.1 0, 100, .inl (g.2.1 28 6))),
  (aE E 26 0, .inr (6, [.ref (aE E 27 (0)), .int (g.1 29 0), .int (g.1 30 0)])),
  (aE E 27 0, .inl (E.2.1 1, 60, .inr (.inl (g.2.2.1 31 0)))),
  (aE E 26 1, .inr (6, [.ref (aE E 27 (1)), .int (g.1 29 1), .int (g.1 30 1)])),
  (aE E 27 1, .inl (E.2.1 1, 60, .inr (.inl (g.2.2.1 31 1)))),
  (aE E 26 2, .inr (6, [.ref (aE E 27 (2)), .int (g.1 29 2), .int (g.1 30 2)])),
  (aE E 27 2, .inl (E.2.1 1, 60, .inr (.inl (g.2.2.1 31 2)))),
  (aE E 26 3, .inr (6, [.ref (aE E 27 (3)), .int (g.1 29 3), .int (g.1 30 3)])),
  (aE E 27 3, .inl (E.2.1 1, 60, .inr (.inl (g.2.2.1 31 3)))),
  (aE E 26 4, .inr (6, [.ref (aE E 27 (4)), .int (g.1 29 4), .int (g.1 30 4)])),
  (aE E 27 4, .inl (E.2.1 1, 60, .inr (.inl (g.2.2.1 31 4)))),
  (aE E 26 5, .inr (6, [.ref (aE E 27 (5)), .int (g.1 29 5), .int (g.1 30 5)])),
  (aE E 27 5, .inl (E.2.1 1, 60, .inr (.inl (g.2.2.1 31 5))))]
def cellsM (E : WEt) (g : STt) : va_W := [(aE E 28 0, .inr (11, [.int (g.1 32 0), .int (g.1 33 0), .ref (aE E 29 (0)), .ref (aE E 30 (0)), .ref (aE E 31 (0)), .ref (aE E 32 (0)), .ref (aE E 33 (0)), .int (g.1 34 0), .int (g.1 35 0), .int (g.1 36 0), .ref (aE E 34 (0)), .ref (aE E 35 (0)), .ref (aE E 36 (0)), .ref (aE E 37 (0)), .ref (aE E 38 (0)), .ref (aE E 39 (0)), .ref (aE E 40 (0)), .ref (aE E 41 (0)), .ref (aE E 42 (0)), .int (g.1 37 0), .int (g.1 38 0), .int (g.1 39 0), .ref (aE E 43 (0)), .ref (aE E 44 (0)), .int (g.1 40 0), .int (g.1 41 0), .int (g.1 42 0), .ref (aE E 45 (0)), .ref (aE E 46 (0)), .int (g.1 43 0), .int (g.1 44 0), .int (g.1 45 0), .ref (aE E 47 (0)), .int (g.1 46 0), .ref (aE E 48 (0)), .ref (aE E 49 (0)), .ref (aE E 50 (0)), .ref (aE E 51 (0)), .ref (aE E 52 (0)), .int (g.1 47 0), .int (g.1 48 0), .int (g.1 49 0), .int (g.1 50 0), .int (g.1 51 0), .int (g.1 52 0), .ref (aE E 53 (0)), .ref (aE E 54 (0)), .ref (aE E 55 (0)), .ref (aE E 56 (0)), .int (g.1 53 0), .ref (aE E 57 (0))])),
  (aE E 29 0, .inl (E.2.1 0, 10, .inl (g.2.1 54 0))),
  (aE E 30 0, .inl (E.2.1 0, 10, .inl (g.2.1 55 0))),
  (aE E 31 0, .inl (E.2.1 0, 10, .inl (g.2.1 56 0))),
  (aE E 32 0, .inl (E.2.1 0, 15, .inl (g.2.1 57 0))),
  (aE E 33 0, .inl (E.2.1 3, 100, .inl (g.2.1 58 0))),
  (aE E 34 0, .inl (E.2.1 0, 7, .inl (g.2.1 59 0))),
  (aE E 35 0, .inl (E.2.1 0, 70, .inl (g.2.1 60 0))),
  (aE E 36 0, .inl (E.2.1 0, 70, .inl (g.2.1 61 0))),
  (aE E 37 0, .inl (E.2.1 0, 70, .inl (g.2.1 62 0))),
  (aE E 38 0, .inl (E.2.1 0, 70, .inl (g.2.1 63 0))),
  (aE E 39 0, .inl (E.2.1 0, 700, .inl (g.2.1 64 0))),
  (aE E 40 0, .inl (E.2.1 0, 700, .inl (g.2.1 65 0))),
  (aE E 41 0, .inl (E.2.1 0, 700, .inl (g.2.1 66 0))),
  (aE E 42 0, .inl (E.2.1 0, 700, .inl (g.2.1 67 0))),
  (aE E 43 0, .inl (E.2.1 0, 31, .inl (g.2.1 68 0))),
  (aE E 44 0, .inl (E.2.1 2, 100, .inl (g.2.1 69 0))),
  (aE E 45 0, .inl (E.2.1 0, 12, .inl (g.2.1 70 0))),
  (aE E 46 0, .inl (E.2.1 0, 15, .inl (g.2.1 71 0))),
  (aE E 47 0, .inl (E.2.1 0, 4, .inl (g.2.1 72 0))),
  (aE E 48 0, .inl (E.2.1 0, 12, .inl (g.2.1 73 0))),
  (aE E 49 0, .inl (E.2.1 0, 6, .inl (g.2.1 74 0))),
  (aE E 50 0, .inl (E.2.1 0, 6, .inl (g.2.1 75 0))),
  (aE E 51 0, .inl (E.2.1 1, 360, .inr (.inl (g.2.2.1 76 0)))),
  (aE E 52 0, .inl (E.2.1 1, 60, .inr (.inl (g.2.2.1 77 0)))),
  (aE E 53 0, .inl (E.2.1 0, 15, .inl (g.2.1 78 0))),
  (aE E 54 0, .inl (E.2.1 0, 12, .inl (g.2.1 79 0))),
  (aE E 55 0, .inl (E.2.1 0, 12, .inl (g.2.1 80 0))),
  (aE E 56 0, .inl (E.2.1 0, 4, .inl (g.2.1 81 0))),
  (aE E 57 0, .inl (E.2.1 0, 20, .inl (g.2.1 82 0)))]
theorem ce_DB {E : WEt} {g : STt} {wx : va_W} : (cellsC E g ++ wx)[0]? = some (aE E 0 0, .inr (10, [.ref (aE E 1 (0)), .ref (aE E 5 (0)), .ref (aE E 6 (0)), .ref (aE E 21 (6)), .int (g.1 0 0), .ref (aE E 7 (0)), .ref (aE E 10 (0)), .ref (aE E 14 (0)), .ref (aE E 15 (0)), .ref (aE E 16 (0)), .ref (aE E 16 (1)), .int (g.1 1 0)])) := rfl
theorem se_DB_lawCount {E : WEt} {g : STt} {wx : va_W} (v : Int32) : (cellsC E g ++ wx).set (0) (aE E 0 0, .inr (10, [.ref (aE E 1 (0)), .ref (aE E 5 (0)), .ref (aE E 6 (0)), .ref (aE E 21 (6)), .int v, .ref (aE E 7 (0)), .ref (aE E 10 (0)), .ref (aE E 14 (0)), .ref (aE E 15 (0)), .ref (aE E 16 (0)), .ref (aE E 16 (1)), .int (g.1 1 0)])) = cellsC E (sS g 0 0 v) ++ wx := rfl
theorem se_DB_imageTaken {E : WEt} {g : STt} {wx : va_W} (v : Int32) : (cellsC E g ++ wx).set (0) (aE E 0 0, .inr (10, [.ref (aE E 1 (0)), .ref (aE E 5 (0)), .ref (aE E 6 (0)), .ref (aE E 21 (6)), .int (g.1 0 0), .ref (aE E 7 (0)), .ref (aE E 10 (0)), .ref (aE E 14 (0)), .ref (aE E 15 (0)), .ref (aE E 16 (0)), .ref (aE E 16 (1)), .int v])) = cellsC E (sS g 1 0 v) ++ wx := rfl
theorem ce_Road {E : WEt} {g : STt} {wx : va_W} : (cellsC E g ++ wx)[1]? = some (aE E 1 0, .inr (4, [.ref (aE E 2 (0)), .ref (aE E 3 (0)), .ref (aE E 4 (0)), .int (g.1 2 0)])) := rfl
theorem se_Road_size {E : WEt} {g : STt} {wx : va_W} (v : Int32) : (cellsC E g ++ wx).set (1) (aE E 1 0, .inr (4, [.ref (aE E 2 (0)), .ref (aE E 3 (0)), .ref (aE E 4 (0)), .int v])) = cellsC E (sS g 2 0 v) ++ wx := rfl
theorem ce_roadKinds {E : WEt} {g : STt} {wx : va_W} : (cellsC E g ++ wx)[2]? = some (aE E 2 0, .inl (E.2.1 0, 10, .inl (g.2.1 3 0))) := rfl
theorem se_roadKinds {E : WEt} {g : STt} {wx : va_W} (f : Nat → Int32) : (cellsC E g ++ wx).set (2) (aE E 2 0, .inl (E.2.1 0, 10, .inl f)) = cellsC E (sA g 3 0 f) ++ wx := rfl
theorem ce_roadNumbers {E : WEt} {g : STt} {wx : va_W} : (cellsC E g ++ wx)[3]? = some (aE E 3 0, .inl (E.2.1 0, 10, .inl (g.2.1 4 0))) := rfl
theorem se_roadNumbers {E : WEt} {g : STt} {wx : va_W} (f : Nat → Int32) : (cellsC E g ++ wx).set (3) (aE E 3 0, .inl (E.2.1 0, 10, .inl f)) = cellsC E (sA g 4 0 f) ++ wx := rfl
theorem ce_roadThings {E : WEt} {g : STt} {wx : va_W} : (cellsC E g ++ wx)[4]? = some (aE E 4 0, .inl (E.2.1 0, 10, .inl (g.2.1 5 0))) := rfl
theorem se_roadThings {E : WEt} {g : STt} {wx : va_W} (f : Nat → Int32) : (cellsC E g ++ wx).set (4) (aE E 4 0, .inl (E.2.1 0, 10, .inl f)) = cellsC E (sA g 5 0 f) ++ wx := rfl
theorem ce_Text {E : WEt} {g : STt} {wx : va_W} : (cellsC E g ++ wx)[5]? = some (aE E 5 0, .inr (7, [.ref (aE E 17 (0)), .int (g.1 6 0)])) := rfl
theorem se_Text_pos {E : WEt} {g : STt} {wx : va_W} (v : Int32) : (cellsC E g ++ wx).set (5) (aE E 5 0, .inr (7, [.ref (aE E 17 (0)), .int v])) = cellsC E (sS g 6 0 v) ++ wx := rfl
theorem ce_lawsArr {E : WEt} {g : STt} {wx : va_W} : (cellsC E g ++ wx)[6]? = some (aE E 6 0, .inl (E.2.1 4, 6, .inr (.inr (.inr (.inr (fun j => if j < 6 then some (aE E 21 (j)) else none)))))) := rfl
theorem ce_Walk {E : WEt} {g : STt} {wx : va_W} : (cellsC E g ++ wx)[7]? = some (aE E 7 0, .inr (9, [.ref (aE E 1 (0)), .ref (aE E 21 g.2.2.2), .ref (aE E 8 (0)), .ref (aE E 9 (0))])) := rfl
theorem se_Walk_law {E : WEt} {g : STt} {wx : va_W} (k : Nat) : (cellsC E g ++ wx).set (7) (aE E 7 0, .inr (9, [.ref (aE E 1 (0)), .ref (aE E 21 k), .ref (aE E 8 (0)), .ref (aE E 9 (0))])) = cellsC E (sW g k) ++ wx := rfl
theorem ce_facts {E : WEt} {g : STt} {wx : va_W} : (cellsC E g ++ wx)[8]? = some (aE E 8 0, .inl (E.2.1 0, 9, .inl (g.2.1 7 0))) := rfl
theorem se_facts {E : WEt} {g : STt} {wx : va_W} (f : Nat → Int32) : (cellsC E g ++ wx).set (8) (aE E 8 0, .inl (E.2.1 0, 9, .inl f)) = cellsC E (sA g 7 0 f) ++ wx := rfl
theorem ce_less {E : WEt} {g : STt} {wx : va_W} : (cellsC E g ++ wx)[9]? = some (aE E 9 0, .inl (E.2.1 0, 7, .inl (g.2.1 8 0))) := rfl
theorem se_less {E : WEt} {g : STt} {wx : va_W} (f : Nat → Int32) : (cellsC E g ++ wx).set (9) (aE E 9 0, .inl (E.2.1 0, 7, .inl f)) = cellsC E (sA g 8 0 f) ++ wx := rfl
theorem ce_Trial {E : WEt} {g : STt} {wx : va_W} : (cellsC E g ++ wx)[10]? = some (aE E 10 0, .inr (8, [.ref (aE E 7 (0)), .ref (aE E 16 (0)), .ref (aE E 11 (0)), .ref (aE E 19 (9)), .ref (aE E 12 (0)), .ref (aE E 13 (0)), .int (g.1 9 0), .int (g.1 10 0), .int (g.1 11 0)])) := rfl
theorem se_Trial_bestSize {E : WEt} {g : STt} {wx : va_W} (v : Int32) : (cellsC E g ++ wx).set (10) (aE E 10 0, .inr (8, [.ref (aE E 7 (0)), .ref (aE E 16 (0)), .ref (aE E 11 (0)), .ref (aE E 19 (9)), .ref (aE E 12 (0)), .ref (aE E 13 (0)), .int v, .int (g.1 10 0), .int (g.1 11 0)])) = cellsC E (sS g 9 0 v) ++ wx := rfl
theorem se_Trial_bestLearnt {E : WEt} {g : STt} {wx : va_W} (v : Int32) : (cellsC E g ++ wx).set (10) (aE E 10 0, .inr (8, [.ref (aE E 7 (0)), .ref (aE E 16 (0)), .ref (aE E 11 (0)), .ref (aE E 19 (9)), .ref (aE E 12 (0)), .ref (aE E 13 (0)), .int (g.1 9 0), .int v, .int (g.1 11 0)])) = cellsC E (sS g 10 0 v) ++ wx := rfl
theorem se_Trial_goal {E : WEt} {g : STt} {wx : va_W} (v : Int32) : (cellsC E g ++ wx).set (10) (aE E 10 0, .inr (8, [.ref (aE E 7 (0)), .ref (aE E 16 (0)), .ref (aE E 11 (0)), .ref (aE E 19 (9)), .ref (aE E 12 (0)), .ref (aE E 13 (0)), .int (g.1 9 0), .int (g.1 10 0), .int v])) = cellsC E (sS g 11 0 v) ++ wx := rfl
theorem ce_stagesArr {E : WEt} {g : STt} {wx : va_W} : (cellsC E g ++ wx)[11]? = some (aE E 11 0, .inl (E.2.1 6, 7, .inr (.inr (.inr (.inr (fun j => if j < 7 then some (aE E 19 (2 + j)) else none)))))) := rfl
theorem ce_tried {E : WEt} {g : STt} {wx : va_W} : (cellsC E g ++ wx)[12]? = some (aE E 12 0, .inl (E.2.1 0, 4, .inl (g.2.1 12 0))) := rfl
theorem se_tried {E : WEt} {g : STt} {wx : va_W} (f : Nat → Int32) : (cellsC E g ++ wx).set (12) (aE E 12 0, .inl (E.2.1 0, 4, .inl f)) = cellsC E (sA g 12 0 f) ++ wx := rfl
theorem ce_best {E : WEt} {g : STt} {wx : va_W} : (cellsC E g ++ wx)[13]? = some (aE E 13 0, .inl (E.2.1 0, 4, .inl (g.2.1 13 0))) := rfl
theorem se_best {E : WEt} {g : STt} {wx : va_W} (f : Nat → Int32) : (cellsC E g ++ wx).set (13) (aE E 13 0, .inl (E.2.1 0, 4, .inl f)) = cellsC E (sA g 13 0 f) ++ wx := rfl
theorem ce_Bodies {E : WEt} {g : STt} {wx : va_W} : (cellsC E g ++ wx)[14]? = some (aE E 14 0, .inr (0, [.ref (aE E 1 (0)), .ref (aE E 17 (7)), .int (g.1 14 0), .int (g.1 15 0), .int (g.1 16 0), .int (g.1 17 0)])) := rfl
theorem se_Bodies_ran {E : WEt} {g : STt} {wx : va_W} (v : Int32) : (cellsC E g ++ wx).set (14) (aE E 14 0, .inr (0, [.ref (aE E 1 (0)), .ref (aE E 17 (7)), .int v, .int (g.1 15 0), .int (g.1 16 0), .int (g.1 17 0)])) = cellsC E (sS g 14 0 v) ++ wx := rfl
theorem se_Bodies_kind {E : WEt} {g : STt} {wx : va_W} (v : Int32) : (cellsC E g ++ wx).set (14) (aE E 14 0, .inr (0, [.ref (aE E 1 (0)), .ref (aE E 17 (7)), .int (g.1 14 0), .int v, .int (g.1 16 0), .int (g.1 17 0)])) = cellsC E (sS g 15 0 v) ++ wx := rfl
theorem se_Bodies_v {E : WEt} {g : STt} {wx : va_W} (v : Int32) : (cellsC E g ++ wx).set (14) (aE E 14 0, .inr (0, [.ref (aE E 1 (0)), .ref (aE E 17 (7)), .int (g.1 14 0), .int (g.1 15 0), .int v, .int (g.1 17 0)])) = cellsC E (sS g 16 0 v) ++ wx := rfl
theorem se_Bodies_number {E : WEt} {g : STt} {wx : va_W} (v : Int32) : (cellsC E g ++ wx).set (14) (aE E 14 0, .inr (0, [.ref (aE E 1 (0)), .ref (aE E 17 (7)), .int (g.1 14 0), .int (g.1 15 0), .int (g.1 16 0), .int v])) = cellsC E (sS g 17 0 v) ++ wx := rfl
theorem ce_tapesArr {E : WEt} {g : STt} {wx : va_W} : (cellsC E g ++ wx)[15]? = some (aE E 15 0, .inl (E.2.1 5, 6, .inr (.inr (.inr (.inr (fun j => if j < 6 then some (aE E 26 (j)) else none)))))) := rfl
theorem ce_Moment {E : WEt} {g : STt} {wx : va_W} {i : Nat} (hi : i < 2) : (cellsC E g ++ wx)[16 + 1 * i]? = some (aE E 16 i, .inr (3, [.ref (aE E 19 (i)), .ref (aE E 17 (1 + 3 * i)), .ref (aE E 17 (2 + 3 * i)), .ref (aE E 17 (3 + 3 * i)), .int (g.1 18 i), .int (g.1 19 i)])) := by
  rcases (show i = 0 ∨ i = 1 by omega) with rfl | rfl <;> rfl
theorem se_Moment_odds {E : WEt} {g : STt} {wx : va_W} {i : Nat} (hi : i < 2) (v : Int32) : (cellsC E g ++ wx).set (16 + 1 * i) (aE E 16 i, .inr (3, [.ref (aE E 19 (i)), .ref (aE E 17 (1 + 3 * i)), .ref (aE E 17 (2 + 3 * i)), .ref (aE E 17 (3 + 3 * i)), .int v, .int (g.1 19 i)])) = cellsC E (sS g 18 i v) ++ wx := by
  rcases (show i = 0 ∨ i = 1 by omega) with rfl | rfl <;> rfl
theorem se_Moment_held {E : WEt} {g : STt} {wx : va_W} {i : Nat} (hi : i < 2) (v : Int32) : (cellsC E g ++ wx).set (16 + 1 * i) (aE E 16 i, .inr (3, [.ref (aE E 19 (i)), .ref (aE E 17 (1 + 3 * i)), .ref (aE E 17 (2 + 3 * i)), .ref (aE E 17 (3 + 3 * i)), .int (g.1 18 i), .int v])) = cellsC E (sS g 19 i v) ++ wx := by
  rcases (show i = 0 ∨ i = 1 by omega) with rfl | rfl <;> rfl
theorem ce_Strip {E : WEt} {g : STt} {wx : va_W} {i : Nat} (hi : i < 8) : (cellsC E g ++ wx)[18 + 2 * i]? = some (aE E 17 i, .inr (5, [.ref (aE E 18 (i)), .int (g.1 20 i)])) := by
  rcases (show i = 0 ∨ i = 1 ∨ i = 2 ∨ i = 3 ∨ i = 4 ∨ i = 5 ∨ i = 6 ∨ i = 7 by omega) with rfl | rfl | rfl | rfl | rfl | rfl | rfl | rfl <;> rfl
theorem se_Strip_size {E : WEt} {g : STt} {wx : va_W} {i : Nat} (hi : i < 8) (v : Int32) : (cellsC E g ++ wx).set (18 + 2 * i) (aE E 17 i, .inr (5, [.ref (aE E 18 (i)), .int v])) = cellsC E (sS g 20 i v) ++ wx := by
  rcases (show i = 0 ∨ i = 1 ∨ i = 2 ∨ i = 3 ∨ i = 4 ∨ i = 5 ∨ i = 6 ∨ i = 7 by omega) with rfl | rfl | rfl | rfl | rfl | rfl | rfl | rfl <;> rfl
theorem ce_stripItems {E : WEt} {g : STt} {wx : va_W} {i : Nat} (hi : i < 8) : (cellsC E g ++ wx)[19 + 2 * i]? = some (aE E 18 i, .inl (E.2.1 0, lnS i, .inl (g.2.1 21 i))) := by
  rcases (show i = 0 ∨ i = 1 ∨ i = 2 ∨ i = 3 ∨ i = 4 ∨ i = 5 ∨ i = 6 ∨ i = 7 by omega) with rfl | rfl | rfl | rfl | rfl | rfl | rfl | rfl <;> rfl
theorem se_stripItems {E : WEt} {g : STt} {wx : va_W} {i : Nat} (hi : i < 8) (f : Nat → Int32) : (cellsC E g ++ wx).set (19 + 2 * i) (aE E 18 i, .inl (E.2.1 0, lnS i, .inl f)) = cellsC E (sA g 21 i f) ++ wx := by
  rcases (show i = 0 ∨ i = 1 ∨ i = 2 ∨ i = 3 ∨ i = 4 ∨ i = 5 ∨ i = 6 ∨ i = 7 by omega) with rfl | rfl | rfl | rfl | rfl | rfl | rfl | rfl <;> rfl
theorem ce_Donkey {E : WEt} {g : STt} {wx : va_W} {i : Nat} (hi : i < 10) : (cellsC E g ++ wx)[34 + 2 * i]? = some (aE E 19 i, .inr (1, [.ref (aE E 20 (i))])) := by
  rcases (show i = 0 ∨ i = 1 ∨ i = 2 ∨ i = 3 ∨ i = 4 ∨ i = 5 ∨ i = 6 ∨ i = 7 ∨ i = 8 ∨ i = 9 by omega) with rfl | rfl | rfl | rfl | rfl | rfl | rfl | rfl | rfl | rfl <;> rfl
theorem ce_donkNums {E : WEt} {g : STt} {wx : va_W} {i : Nat} (hi : i < 10) : (cellsC E g ++ wx)[35 + 2 * i]? = some (aE E 20 i, .inl (E.2.1 0, 15, .inl (g.2.1 22 i))) := by
  rcases (show i = 0 ∨ i = 1 ∨ i = 2 ∨ i = 3 ∨ i = 4 ∨ i = 5 ∨ i = 6 ∨ i = 7 ∨ i = 8 ∨ i = 9 by omega) with rfl | rfl | rfl | rfl | rfl | rfl | rfl | rfl | rfl | rfl <;> rfl
theorem se_donkNums {E : WEt} {g : STt} {wx : va_W} {i : Nat} (hi : i < 10) (f : Nat → Int32) : (cellsC E g ++ wx).set (35 + 2 * i) (aE E 20 i, .inl (E.2.1 0, 15, .inl f)) = cellsC E (sA g 22 i f) ++ wx := by
  rcases (show i = 0 ∨ i = 1 ∨ i = 2 ∨ i = 3 ∨ i = 4 ∨ i = 5 ∨ i = 6 ∨ i = 7 ∨ i = 8 ∨ i = 9 by omega) with rfl | rfl | rfl | rfl | rfl | rfl | rfl | rfl | rfl | rfl <;> rfl
theorem ce_Law {E : WEt} {g : STt} {wx : va_W} {i : Nat} (hi : i < 7) : (cellsC E g ++ wx)[54 + 5 * i]? = some (aE E 21 i, .inr (2, [.ref (aE E 22 (i)), .ref (aE E 23 (i)), .ref (aE E 24 (i)), .int (g.1 23 i), .ref (aE E 25 (i)), .int (g.1 24 i)])) := by
  rcases (show i = 0 ∨ i = 1 ∨ i = 2 ∨ i = 3 ∨ i = 4 ∨ i = 5 ∨ i = 6 by omega) with rfl | rfl | rfl | rfl | rfl | rfl | rfl <;> rfl
theorem se_Law_clauses {E : WEt} {g : STt} {wx : va_W} {i : Nat} (hi : i < 7) (v : Int32) : (cellsC E g ++ wx).set (54 + 5 * i) (aE E 21 i, .inr (2, [.ref (aE E 22 (i)), .ref (aE E 23 (i)), .ref (aE E 24 (i)), .int v, .ref (aE E 25 (i)), .int (g.1 24 i)])) = cellsC E (sS g 23 i v) ++ wx := by
  rcases (show i = 0 ∨ i = 1 ∨ i = 2 ∨ i = 3 ∨ i = 4 ∨ i = 5 ∨ i = 6 by omega) with rfl | rfl | rfl | rfl | rfl | rfl | rfl <;> rfl
theorem se_Law_codeCount {E : WEt} {g : STt} {wx : va_W} {i : Nat} (hi : i < 7) (v : Int32) : (cellsC E g ++ wx).set (54 + 5 * i) (aE E 21 i, .inr (2, [.ref (aE E 22 (i)), .ref (aE E 23 (i)), .ref (aE E 24 (i)), .int (g.1 23 i), .ref (aE E 25 (i)), .int v])) = cellsC E (sS g 24 i v) ++ wx := by
  rcases (show i = 0 ∨ i = 1 ∨ i = 2 ∨ i = 3 ∨ i = 4 ∨ i = 5 ∨ i = 6 by omega) with rfl | rfl | rfl | rfl | rfl | rfl | rfl <;> rfl
theorem ce_lawWords {E : WEt} {g : STt} {wx : va_W} {i : Nat} (hi : i < 7) : (cellsC E g ++ wx)[55 + 5 * i]? = some (aE E 22 i, .inl (E.2.1 0, 10, .inl (g.2.1 25 i))) := by
  rcases (show i = 0 ∨ i = 1 ∨ i = 2 ∨ i = 3 ∨ i = 4 ∨ i = 5 ∨ i = 6 by omega) with rfl | rfl | rfl | rfl | rfl | rfl | rfl <;> rfl
theorem se_lawWords {E : WEt} {g : STt} {wx : va_W} {i : Nat} (hi : i < 7) (f : Nat → Int32) : (cellsC E g ++ wx).set (55 + 5 * i) (aE E 22 i, .inl (E.2.1 0, 10, .inl f)) = cellsC E (sA g 25 i f) ++ wx := by
  rcases (show i = 0 ∨ i = 1 ∨ i = 2 ∨ i = 3 ∨ i = 4 ∨ i = 5 ∨ i = 6 by omega) with rfl | rfl | rfl | rfl | rfl | rfl | rfl <;> rfl
theorem ce_lawAmounts {E : WEt} {g : STt} {wx : va_W} {i : Nat} (hi : i < 7) : (cellsC E g ++ wx)[56 + 5 * i]? = some (aE E 23 i, .inl (E.2.1 0, 10, .inl (g.2.1 26 i))) := by
  rcases (show i = 0 ∨ i = 1 ∨ i = 2 ∨ i = 3 ∨ i = 4 ∨ i = 5 ∨ i = 6 by omega) with rfl | rfl | rfl | rfl | rfl | rfl | rfl <;> rfl
theorem se_lawAmounts {E : WEt} {g : STt} {wx : va_W} {i : Nat} (hi : i < 7) (f : Nat → Int32) : (cellsC E g ++ wx).set (56 + 5 * i) (aE E 23 i, .inl (E.2.1 0, 10, .inl f)) = cellsC E (sA g 26 i f) ++ wx := by
  rcases (show i = 0 ∨ i = 1 ∨ i = 2 ∨ i = 3 ∨ i = 4 ∨ i = 5 ∨ i = 6 by omega) with rfl | rfl | rfl | rfl | rfl | rfl | rfl <;> rfl
theorem ce_lawStarts {E : WEt} {g : STt} {wx : va_W} {i : Nat} (hi : i < 7) : (cellsC E g ++ wx)[57 + 5 * i]? = some (aE E 24 i, .inl (E.2.1 0, 10, .inl (g.2.1 27 i))) := by
  rcases (show i = 0 ∨ i = 1 ∨ i = 2 ∨ i = 3 ∨ i = 4 ∨ i = 5 ∨ i = 6 by omega) with rfl | rfl | rfl | rfl | rfl | rfl | rfl <;> rfl
theorem se_lawStarts {E : WEt} {g : STt} {wx : va_W} {i : Nat} (hi : i < 7) (f : Nat → Int32) : (cellsC E g ++ wx).set (57 + 5 * i) (aE E 24 i, .inl (E.2.1 0, 10, .inl f)) = cellsC E (sA g 27 i f) ++ wx := by
  rcases (show i = 0 ∨ i = 1 ∨ i = 2 ∨ i = 3 ∨ i = 4 ∨ i = 5 ∨ i = 6 by omega) with rfl | rfl | rfl | rfl | rfl | rfl | rfl <;> rfl
theorem ce_lawCodes {E : WEt} {g : STt} {wx : va_W} {i : Nat} (hi : i < 7) : (cellsC E g ++ wx)[58 + 5 * i]? = some (aE E 25 i, .inl (E.2.1 0, 100, .inl (g.2.1 28 i))) := by
  rcases (show i = 0 ∨ i = 1 ∨ i = 2 ∨ i = 3 ∨ i = 4 ∨ i = 5 ∨ i = 6 by omega) with rfl | rfl | rfl | rfl | rfl | rfl | rfl <;> rfl
theorem se_lawCodes {E : WEt} {g : STt} {wx : va_W} {i : Nat} (hi : i < 7) (f : Nat → Int32) : (cellsC E g ++ wx).set (58 + 5 * i) (aE E 25 i, .inl (E.2.1 0, 100, .inl f)) = cellsC E (sA g 28 i f) ++ wx := by
  rcases (show i = 0 ∨ i = 1 ∨ i = 2 ∨ i = 3 ∨ i = 4 ∨ i = 5 ∨ i = 6 by omega) with rfl | rfl | rfl | rfl | rfl | rfl | rfl <;> rfl
theorem ce_Tape {E : WEt} {g : STt} {wx : va_W} {i : Nat} (hi : i < 6) : (cellsC E g ++ wx)[89 + 2 * i]? = some (aE E 26 i, .inr (6, [.ref (aE E 27 (i)), .int (g.1 29 i), .int (g.1 30 i)])) := by
  rcases (show i = 0 ∨ i = 1 ∨ i = 2 ∨ i = 3 ∨ i = 4 ∨ i = 5 by omega) with rfl | rfl | rfl | rfl | rfl | rfl <;> rfl
theorem se_Tape_sort {E : WEt} {g : STt} {wx : va_W} {i : Nat} (hi : i < 6) (v : Int32) : (cellsC E g ++ wx).set (89 + 2 * i) (aE E 26 i, .inr (6, [.ref (aE E 27 (i)), .int v, .int (g.1 30 i)])) = cellsC E (sS g 29 i v) ++ wx := by
  rcases (show i = 0 ∨ i = 1 ∨ i = 2 ∨ i = 3 ∨ i = 4 ∨ i = 5 by omega) with rfl | rfl | rfl | rfl | rfl | rfl <;> rfl
theorem se_Tape_size {E : WEt} {g : STt} {wx : va_W} {i : Nat} (hi : i < 6) (v : Int32) : (cellsC E g ++ wx).set (89 + 2 * i) (aE E 26 i, .inr (6, [.ref (aE E 27 (i)), .int (g.1 29 i), .int v])) = cellsC E (sS g 30 i v) ++ wx := by
  rcases (show i = 0 ∨ i = 1 ∨ i = 2 ∨ i = 3 ∨ i = 4 ∨ i = 5 by omega) with rfl | rfl | rfl | rfl | rfl | rfl <;> rfl
theorem ce_tapeItems {E : WEt} {g : STt} {wx : va_W} {i : Nat} (hi : i < 6) : (cellsC E g ++ wx)[90 + 2 * i]? = some (aE E 27 i, .inl (E.2.1 1, 60, .inr (.inl (g.2.2.1 31 i)))) := by
  rcases (show i = 0 ∨ i = 1 ∨ i = 2 ∨ i = 3 ∨ i = 4 ∨ i = 5 by omega) with rfl | rfl | rfl | rfl | rfl | rfl <;> rfl
theorem se_tapeItems {E : WEt} {g : STt} {wx : va_W} {i : Nat} (hi : i < 6) (f : Nat → Int64) : (cellsC E g ++ wx).set (90 + 2 * i) (aE E 27 i, .inl (E.2.1 1, 60, .inr (.inl f))) = cellsC E (sL g 31 i f) ++ wx := by
  rcases (show i = 0 ∨ i = 1 ∨ i = 2 ∨ i = 3 ∨ i = 4 ∨ i = 5 by omega) with rfl | rfl | rfl | rfl | rfl | rfl <;> rfl
theorem ce_Mo {E : WEt} {g : STt} {wx : va_W} : (cellsM E g ++ wx)[0]? = some (aE E 28 0, .inr (11, [.int (g.1 32 0), .int (g.1 33 0), .ref (aE E 29 (0)), .ref (aE E 30 (0)), .ref (aE E 31 (0)), .ref (aE E 32 (0)), .ref (aE E 33 (0)), .int (g.1 34 0), .int (g.1 35 0), .int (g.1 36 0), .ref (aE E 34 (0)), .ref (aE E 35 (0)), .ref (aE E 36 (0)), .ref (aE E 37 (0)), .ref (aE E 38 (0)), .ref (aE E 39 (0)), .ref (aE E 40 (0)), .ref (aE E 41 (0)), .ref (aE E 42 (0)), .int (g.1 37 0), .int (g.1 38 0), .int (g.1 39 0), .ref (aE E 43 (0)), .ref (aE E 44 (0)), .int (g.1 40 0), .int (g.1 41 0), .int (g.1 42 0), .ref (aE E 45 (0)), .ref (aE E 46 (0)), .int (g.1 43 0), .int (g.1 44 0), .int (g.1 45 0), .ref (aE E 47 (0)), .int (g.1 46 0), .ref (aE E 48 (0)), .ref (aE E 49 (0)), .ref (aE E 50 (0)), .ref (aE E 51 (0)), .ref (aE E 52 (0)), .int (g.1 47 0), .int (g.1 48 0), .int (g.1 49 0), .int (g.1 50 0), .int (g.1 51 0), .int (g.1 52 0), .ref (aE E 53 (0)), .ref (aE E 54 (0)), .ref (aE E 55 (0)), .ref (aE E 56 (0)), .int (g.1 53 0), .ref (aE E 57 (0))])) := rfl
theorem se_Mo_code {E : WEt} {g : STt} {wx : va_W} (v : Int32) : (cellsM E g ++ wx).set (0) (aE E 28 0, .inr (11, [.int v, .int (g.1 33 0), .ref (aE E 29 (0)), .ref (aE E 30 (0)), .ref (aE E 31 (0)), .ref (aE E 32 (0)), .ref (aE E 33 (0)), .int (g.1 34 0), .int (g.1 35 0), .int (g.1 36 0), .ref (aE E 34 (0)), .ref (aE E 35 (0)), .ref (aE E 36 (0)), .ref (aE E 37 (0)), .ref (aE E 38 (0)), .ref (aE E 39 (0)), .ref (aE E 40 (0)), .ref (aE E 41 (0)), .ref (aE E 42 (0)), .int (g.1 37 0), .int (g.1 38 0), .int (g.1 39 0), .ref (aE E 43 (0)), .ref (aE E 44 (0)), .int (g.1 40 0), .int (g.1 41 0), .int (g.1 42 0), .ref (aE E 45 (0)), .ref (aE E 46 (0)), .int (g.1 43 0), .int (g.1 44 0), .int (g.1 45 0), .ref (aE E 47 (0)), .int (g.1 46 0), .ref (aE E 48 (0)), .ref (aE E 49 (0)), .ref (aE E 50 (0)), .ref (aE E 51 (0)), .ref (aE E 52 (0)), .int (g.1 47 0), .int (g.1 48 0), .int (g.1 49 0), .int (g.1 50 0), .int (g.1 51 0), .int (g.1 52 0), .ref (aE E 53 (0)), .ref (aE E 54 (0)), .ref (aE E 55 (0)), .ref (aE E 56 (0)), .int (g.1 53 0), .ref (aE E 57 (0))])) = cellsM E (sS g 32 0 v) ++ wx := rfl
theorem se_Mo_places {E : WEt} {g : STt} {wx : va_W} (v : Int32) : (cellsM E g ++ wx).set (0) (aE E 28 0, .inr (11, [.int (g.1 32 0), .int v, .ref (aE E 29 (0)), .ref (aE E 30 (0)), .ref (aE E 31 (0)), .ref (aE E 32 (0)), .ref (aE E 33 (0)), .int (g.1 34 0), .int (g.1 35 0), .int (g.1 36 0), .ref (aE E 34 (0)), .ref (aE E 35 (0)), .ref (aE E 36 (0)), .ref (aE E 37 (0)), .ref (aE E 38 (0)), .ref (aE E 39 (0)), .ref (aE E 40 (0)), .ref (aE E 41 (0)), .ref (aE E 42 (0)), .int (g.1 37 0), .int (g.1 38 0), .int (g.1 39 0), .ref (aE E 43 (0)), .ref (aE E 44 (0)), .int (g.1 40 0), .int (g.1 41 0), .int (g.1 42 0), .ref (aE E 45 (0)), .ref (aE E 46 (0)), .int (g.1 43 0), .int (g.1 44 0), .int (g.1 45 0), .ref (aE E 47 (0)), .int (g.1 46 0), .ref (aE E 48 (0)), .ref (aE E 49 (0)), .ref (aE E 50 (0)), .ref (aE E 51 (0)), .ref (aE E 52 (0)), .int (g.1 47 0), .int (g.1 48 0), .int (g.1 49 0), .int (g.1 50 0), .int (g.1 51 0), .int (g.1 52 0), .ref (aE E 53 (0)), .ref (aE E 54 (0)), .ref (aE E 55 (0)), .ref (aE E 56 (0)), .int (g.1 53 0), .ref (aE E 57 (0))])) = cellsM E (sS g 33 0 v) ++ wx := rfl
theorem se_Mo_taped {E : WEt} {g : STt} {wx : va_W} (v : Int32) : (cellsM E g ++ wx).set (0) (aE E 28 0, .inr (11, [.int (g.1 32 0), .int (g.1 33 0), .ref (aE E 29 (0)), .ref (aE E 30 (0)), .ref (aE E 31 (0)), .ref (aE E 32 (0)), .ref (aE E 33 (0)), .int v, .int (g.1 35 0), .int (g.1 36 0), .ref (aE E 34 (0)), .ref (aE E 35 (0)), .ref (aE E 36 (0)), .ref (aE E 37 (0)), .ref (aE E 38 (0)), .ref (aE E 39 (0)), .ref (aE E 40 (0)), .ref (aE E 41 (0)), .ref (aE E 42 (0)), .int (g.1 37 0), .int (g.1 38 0), .int (g.1 39 0), .ref (aE E 43 (0)), .ref (aE E 44 (0)), .int (g.1 40 0), .int (g.1 41 0), .int (g.1 42 0), .ref (aE E 45 (0)), .ref (aE E 46 (0)), .int (g.1 43 0), .int (g.1 44 0), .int (g.1 45 0), .ref (aE E 47 (0)), .int (g.1 46 0), .ref (aE E 48 (0)), .ref (aE E 49 (0)), .ref (aE E 50 (0)), .ref (aE E 51 (0)), .ref (aE E 52 (0)), .int (g.1 47 0), .int (g.1 48 0), .int (g.1 49 0), .int (g.1 50 0), .int (g.1 51 0), .int (g.1 52 0), .ref (aE E 53 (0)), .ref (aE E 54 (0)), .ref (aE E 55 (0)), .ref (aE E 56 (0)), .int (g.1 53 0), .ref (aE E 57 (0))])) = cellsM E (sS g 34 0 v) ++ wx := rfl
theorem se_Mo_laws {E : WEt} {g : STt} {wx : va_W} (v : Int32) : (cellsM E g ++ wx).set (0) (aE E 28 0, .inr (11, [.int (g.1 32 0), .int (g.1 33 0), .ref (aE E 29 (0)), .ref (aE E 30 (0)), .ref (aE E 31 (0)), .ref (aE E 32 (0)), .ref (aE E 33 (0)), .int (g.1 34 0), .int v, .int (g.1 36 0), .ref (aE E 34 (0)), .ref (aE E 35 (0)), .ref (aE E 36 (0)), .ref (aE E 37 (0)), .ref (aE E 38 (0)), .ref (aE E 39 (0)), .ref (aE E 40 (0)), .ref (aE E 41 (0)), .ref (aE E 42 (0)), .int (g.1 37 0), .int (g.1 38 0), .int (g.1 39 0), .ref (aE E 43 (0)), .ref (aE E 44 (0)), .int (g.1 40 0), .int (g.1 41 0), .int (g.1 42 0), .ref (aE E 45 (0)), .ref (aE E 46 (0)), .int (g.1 43 0), .int (g.1 44 0), .int (g.1 45 0), .ref (aE E 47 (0)), .int (g.1 46 0), .ref (aE E 48 (0)), .ref (aE E 49 (0)), .ref (aE E 50 (0)), .ref (aE E 51 (0)), .ref (aE E 52 (0)), .int (g.1 47 0), .int (g.1 48 0), .int (g.1 49 0), .int (g.1 50 0), .int (g.1 51 0), .int (g.1 52 0), .ref (aE E 53 (0)), .ref (aE E 54 (0)), .ref (aE E 55 (0)), .ref (aE E 56 (0)), .int (g.1 53 0), .ref (aE E 57 (0))])) = cellsM E (sS g 35 0 v) ++ wx := rfl
theorem se_Mo_holds {E : WEt} {g : STt} {wx : va_W} (v : Int32) : (cellsM E g ++ wx).set (0) (aE E 28 0, .inr (11, [.int (g.1 32 0), .int (g.1 33 0), .ref (aE E 29 (0)), .ref (aE E 30 (0)), .ref (aE E 31 (0)), .ref (aE E 32 (0)), .ref (aE E 33 (0)), .int (g.1 34 0), .int (g.1 35 0), .int v, .ref (aE E 34 (0)), .ref (aE E 35 (0)), .ref (aE E 36 (0)), .ref (aE E 37 (0)), .ref (aE E 38 (0)), .ref (aE E 39 (0)), .ref (aE E 40 (0)), .ref (aE E 41 (0)), .ref (aE E 42 (0)), .int (g.1 37 0), .int (g.1 38 0), .int (g.1 39 0), .ref (aE E 43 (0)), .ref (aE E 44 (0)), .int (g.1 40 0), .int (g.1 41 0), .int (g.1 42 0), .ref (aE E 45 (0)), .ref (aE E 46 (0)), .int (g.1 43 0), .int (g.1 44 0), .int (g.1 45 0), .ref (aE E 47 (0)), .int (g.1 46 0), .ref (aE E 48 (0)), .ref (aE E 49 (0)), .ref (aE E 50 (0)), .ref (aE E 51 (0)), .ref (aE E 52 (0)), .int (g.1 47 0), .int (g.1 48 0), .int (g.1 49 0), .int (g.1 50 0), .int (g.1 51 0), .int (g.1 52 0), .ref (aE E 53 (0)), .ref (aE E 54 (0)), .ref (aE E 55 (0)), .ref (aE E 56 (0)), .int (g.1 53 0), .ref (aE E 57 (0))])) = cellsM E (sS g 36 0 v) ++ wx := rfl
theorem se_Mo_here {E : WEt} {g : STt} {wx : va_W} (v : Int32) : (cellsM E g ++ wx).set (0) (aE E 28 0, .inr (11, [.int (g.1 32 0), .int (g.1 33 0), .ref (aE E 29 (0)), .ref (aE E 30 (0)), .ref (aE E 31 (0)), .ref (aE E 32 (0)), .ref (aE E 33 (0)), .int (g.1 34 0), .int (g.1 35 0), .int (g.1 36 0), .ref (aE E 34 (0)), .ref (aE E 35 (0)), .ref (aE E 36 (0)), .ref (aE E 37 (0)), .ref (aE E 38 (0)), .ref (aE E 39 (0)), .ref (aE E 40 (0)), .ref (aE E 41 (0)), .ref (aE E 42 (0)), .int v, .int (g.1 38 0), .int (g.1 39 0), .ref (aE E 43 (0)), .ref (aE E 44 (0)), .int (g.1 40 0), .int (g.1 41 0), .int (g.1 42 0), .ref (aE E 45 (0)), .ref (aE E 46 (0)), .int (g.1 43 0), .int (g.1 44 0), .int (g.1 45 0), .ref (aE E 47 (0)), .int (g.1 46 0), .ref (aE E 48 (0)), .ref (aE E 49 (0)), .ref (aE E 50 (0)), .ref (aE E 51 (0)), .ref (aE E 52 (0)), .int (g.1 47 0), .int (g.1 48 0), .int (g.1 49 0), .int (g.1 50 0), .int (g.1 51 0), .int (g.1 52 0), .ref (aE E 53 (0)), .ref (aE E 54 (0)), .ref (aE E 55 (0)), .ref (aE E 56 (0)), .int (g.1 53 0), .ref (aE E 57 (0))])) = cellsM E (sS g 37 0 v) ++ wx := rfl
theorem se_Mo_fault {E : WEt} {g : STt} {wx : va_W} (v : Int32) : (cellsM E g ++ wx).set (0) (aE E 28 0, .inr (11, [.int (g.1 32 0), .int (g.1 33 0), .ref (aE E 29 (0)), .ref (aE E 30 (0)), .ref (aE E 31 (0)), .ref (aE E 32 (0)), .ref (aE E 33 (0)), .int (g.1 34 0), .int (g.1 35 0), .int (g.1 36 0), .ref (aE E 34 (0)), .ref (aE E 35 (0)), .ref (aE E 36 (0)), .ref (aE E 37 (0)), .ref (aE E 38 (0)), .ref (aE E 39 (0)), .ref (aE E 40 (0)), .ref (aE E 41 (0)), .ref (aE E 42 (0)), .int (g.1 37 0), .int v, .int (g.1 39 0), .ref (aE E 43 (0)), .ref (aE E 44 (0)), .int (g.1 40 0), .int (g.1 41 0), .int (g.1 42 0), .ref (aE E 45 (0)), .ref (aE E 46 (0)), .int (g.1 43 0), .int (g.1 44 0), .int (g.1 45 0), .ref (aE E 47 (0)), .int (g.1 46 0), .ref (aE E 48 (0)), .ref (aE E 49 (0)), .ref (aE E 50 (0)), .ref (aE E 51 (0)), .ref (aE E 52 (0)), .int (g.1 47 0), .int (g.1 48 0), .int (g.1 49 0), .int (g.1 50 0), .int (g.1 51 0), .int (g.1 52 0), .ref (aE E 53 (0)), .ref (aE E 54 (0)), .ref (aE E 55 (0)), .ref (aE E 56 (0)), .int (g.1 53 0), .ref (aE E 57 (0))])) = cellsM E (sS g 38 0 v) ++ wx := rfl
theorem se_Mo_laid {E : WEt} {g : STt} {wx : va_W} (v : Int32) : (cellsM E g ++ wx).set (0) (aE E 28 0, .inr (11, [.int (g.1 32 0), .int (g.1 33 0), .ref (aE E 29 (0)), .ref (aE E 30 (0)), .ref (aE E 31 (0)), .ref (aE E 32 (0)), .ref (aE E 33 (0)), .int (g.1 34 0), .int (g.1 35 0), .int (g.1 36 0), .ref (aE E 34 (0)), .ref (aE E 35 (0)), .ref (aE E 36 (0)), .ref (aE E 37 (0)), .ref (aE E 38 (0)), .ref (aE E 39 (0)), .ref (aE E 40 (0)), .ref (aE E 41 (0)), .ref (aE E 42 (0)), .int (g.1 37 0), .int (g.1 38 0), .int v, .ref (aE E 43 (0)), .ref (aE E 44 (0)), .int (g.1 40 0), .int (g.1 41 0), .int (g.1 42 0), .ref (aE E 45 (0)), .ref (aE E 46 (0)), .int (g.1 43 0), .int (g.1 44 0), .int (g.1 45 0), .ref (aE E 47 (0)), .int (g.1 46 0), .ref (aE E 48 (0)), .ref (aE E 49 (0)), .ref (aE E 50 (0)), .ref (aE E 51 (0)), .ref (aE E 52 (0)), .int (g.1 47 0), .int (g.1 48 0), .int (g.1 49 0), .int (g.1 50 0), .int (g.1 51 0), .int (g.1 52 0), .ref (aE E 53 (0)), .ref (aE E 54 (0)), .ref (aE E 55 (0)), .ref (aE E 56 (0)), .int (g.1 53 0), .ref (aE E 57 (0))])) = cellsM E (sS g 39 0 v) ++ wx := rfl
theorem se_Mo_moreLead {E : WEt} {g : STt} {wx : va_W} (v : Int32) : (cellsM E g ++ wx).set (0) (aE E 28 0, .inr (11, [.int (g.1 32 0), .int (g.1 33 0), .ref (aE E 29 (0)), .ref (aE E 30 (0)), .ref (aE E 31 (0)), .ref (aE E 32 (0)), .ref (aE E 33 (0)), .int (g.1 34 0), .int (g.1 35 0), .int (g.1 36 0), .ref (aE E 34 (0)), .ref (aE E 35 (0)), .ref (aE E 36 (0)), .ref (aE E 37 (0)), .ref (aE E 38 (0)), .ref (aE E 39 (0)), .ref (aE E 40 (0)), .ref (aE E 41 (0)), .ref (aE E 42 (0)), .int (g.1 37 0), .int (g.1 38 0), .int (g.1 39 0), .ref (aE E 43 (0)), .ref (aE E 44 (0)), .int v, .int (g.1 41 0), .int (g.1 42 0), .ref (aE E 45 (0)), .ref (aE E 46 (0)), .int (g.1 43 0), .int (g.1 44 0), .int (g.1 45 0), .ref (aE E 47 (0)), .int (g.1 46 0), .ref (aE E 48 (0)), .ref (aE E 49 (0)), .ref (aE E 50 (0)), .ref (aE E 51 (0)), .ref (aE E 52 (0)), .int (g.1 47 0), .int (g.1 48 0), .int (g.1 49 0), .int (g.1 50 0), .int (g.1 51 0), .int (g.1 52 0), .ref (aE E 53 (0)), .ref (aE E 54 (0)), .ref (aE E 55 (0)), .ref (aE E 56 (0)), .int (g.1 53 0), .ref (aE E 57 (0))])) = cellsM E (sS g 40 0 v) ++ wx := rfl
theorem se_Mo_wandered {E : WEt} {g : STt} {wx : va_W} (v : Int32) : (cellsM E g ++ wx).set (0) (aE E 28 0, .inr (11, [.int (g.1 32 0), .int (g.1 33 0), .ref (aE E 29 (0)), .ref (aE E 30 (0)), .ref (aE E 31 (0)), .ref (aE E 32 (0)), .ref (aE E 33 (0)), .int (g.1 34 0), .int (g.1 35 0), .int (g.1 36 0), .ref (aE E 34 (0)), .ref (aE E 35 (0)), .ref (aE E 36 (0)), .ref (aE E 37 (0)), .ref (aE E 38 (0)), .ref (aE E 39 (0)), .ref (aE E 40 (0)), .ref (aE E 41 (0)), .ref (aE E 42 (0)), .int (g.1 37 0), .int (g.1 38 0), .int (g.1 39 0), .ref (aE E 43 (0)), .ref (aE E 44 (0)), .int (g.1 40 0), .int v, .int (g.1 42 0), .ref (aE E 45 (0)), .ref (aE E 46 (0)), .int (g.1 43 0), .int (g.1 44 0), .int (g.1 45 0), .ref (aE E 47 (0)), .int (g.1 46 0), .ref (aE E 48 (0)), .ref (aE E 49 (0)), .ref (aE E 50 (0)), .ref (aE E 51 (0)), .ref (aE E 52 (0)), .int (g.1 47 0), .int (g.1 48 0), .int (g.1 49 0), .int (g.1 50 0), .int (g.1 51 0), .int (g.1 52 0), .ref (aE E 53 (0)), .ref (aE E 54 (0)), .ref (aE E 55 (0)), .ref (aE E 56 (0)), .int (g.1 53 0), .ref (aE E 57 (0))])) = cellsM E (sS g 41 0 v) ++ wx := rfl
theorem se_Mo_rowMany {E : WEt} {g : STt} {wx : va_W} (v : Int32) : (cellsM E g ++ wx).set (0) (aE E 28 0, .inr (11, [.int (g.1 32 0), .int (g.1 33 0), .ref (aE E 29 (0)), .ref (aE E 30 (0)), .ref (aE E 31 (0)), .ref (aE E 32 (0)), .ref (aE E 33 (0)), .int (g.1 34 0), .int (g.1 35 0), .int (g.1 36 0), .ref (aE E 34 (0)), .ref (aE E 35 (0)), .ref (aE E 36 (0)), .ref (aE E 37 (0)), .ref (aE E 38 (0)), .ref (aE E 39 (0)), .ref (aE E 40 (0)), .ref (aE E 41 (0)), .ref (aE E 42 (0)), .int (g.1 37 0), .int (g.1 38 0), .int (g.1 39 0), .ref (aE E 43 (0)), .ref (aE E 44 (0)), .int (g.1 40 0), .int (g.1 41 0), .int v, .ref (aE E 45 (0)), .ref (aE E 46 (0)), .int (g.1 43 0), .int (g.1 44 0), .int (g.1 45 0), .ref (aE E 47 (0)), .int (g.1 46 0), .ref (aE E 48 (0)), .ref (aE E 49 (0)), .ref (aE E 50 (0)), .ref (aE E 51 (0)), .ref (aE E 52 (0)), .int (g.1 47 0), .int (g.1 48 0), .int (g.1 49 0), .int (g.1 50 0), .int (g.1 51 0), .int (g.1 52 0), .ref (aE E 53 (0)), .ref (aE E 54 (0)), .ref (aE E 55 (0)), .ref (aE E 56 (0)), .int (g.1 53 0), .ref (aE E 57 (0))])) = cellsM E (sS g 42 0 v) ++ wx := rfl
theorem se_Mo_learntThen {E : WEt} {g : STt} {wx : va_W} (v : Int32) : (cellsM E g ++ wx).set (0) (aE E 28 0, .inr (11, [.int (g.1 32 0), .int (g.1 33 0), .ref (aE E 29 (0)), .ref (aE E 30 (0)), .ref (aE E 31 (0)), .ref (aE E 32 (0)), .ref (aE E 33 (0)), .int (g.1 34 0), .int (g.1 35 0), .int (g.1 36 0), .ref (aE E 34 (0)), .ref (aE E 35 (0)), .ref (aE E 36 (0)), .ref (aE E 37 (0)), .ref (aE E 38 (0)), .ref (aE E 39 (0)), .ref (aE E 40 (0)), .ref (aE E 41 (0)), .ref (aE E 42 (0)), .int (g.1 37 0), .int (g.1 38 0), .int (g.1 39 0), .ref (aE E 43 (0)), .ref (aE E 44 (0)), .int (g.1 40 0), .int (g.1 41 0), .int (g.1 42 0), .ref (aE E 45 (0)), .ref (aE E 46 (0)), .int v, .int (g.1 44 0), .int (g.1 45 0), .ref (aE E 47 (0)), .int (g.1 46 0), .ref (aE E 48 (0)), .ref (aE E 49 (0)), .ref (aE E 50 (0)), .ref (aE E 51 (0)), .ref (aE E 52 (0)), .int (g.1 47 0), .int (g.1 48 0), .int (g.1 49 0), .int (g.1 50 0), .int (g.1 51 0), .int (g.1 52 0), .ref (aE E 53 (0)), .ref (aE E 54 (0)), .ref (aE E 55 (0)), .ref (aE E 56 (0)), .int (g.1 53 0), .ref (aE E 57 (0))])) = cellsM E (sS g 43 0 v) ++ wx := rfl
theorem se_Mo_odds {E : WEt} {g : STt} {wx : va_W} (v : Int32) : (cellsM E g ++ wx).set (0) (aE E 28 0, .inr (11, [.int (g.1 32 0), .int (g.1 33 0), .ref (aE E 29 (0)), .ref (aE E 30 (0)), .ref (aE E 31 (0)), .ref (aE E 32 (0)), .ref (aE E 33 (0)), .int (g.1 34 0), .int (g.1 35 0), .int (g.1 36 0), .ref (aE E 34 (0)), .ref (aE E 35 (0)), .ref (aE E 36 (0)), .ref (aE E 37 (0)), .ref (aE E 38 (0)), .ref (aE E 39 (0)), .ref (aE E 40 (0)), .ref (aE E 41 (0)), .ref (aE E 42 (0)), .int (g.1 37 0), .int (g.1 38 0), .int (g.1 39 0), .ref (aE E 43 (0)), .ref (aE E 44 (0)), .int (g.1 40 0), .int (g.1 41 0), .int (g.1 42 0), .ref (aE E 45 (0)), .ref (aE E 46 (0)), .int (g.1 43 0), .int v, .int (g.1 45 0), .ref (aE E 47 (0)), .int (g.1 46 0), .ref (aE E 48 (0)), .ref (aE E 49 (0)), .ref (aE E 50 (0)), .ref (aE E 51 (0)), .ref (aE E 52 (0)), .int (g.1 47 0), .int (g.1 48 0), .int (g.1 49 0), .int (g.1 50 0), .int (g.1 51 0), .int (g.1 52 0), .ref (aE E 53 (0)), .ref (aE E 54 (0)), .ref (aE E 55 (0)), .ref (aE E 56 (0)), .int (g.1 53 0), .ref (aE E 57 (0))])) = cellsM E (sS g 44 0 v) ++ wx := rfl
theorem se_Mo_beasts {E : WEt} {g : STt} {wx : va_W} (v : Int32) : (cellsM E g ++ wx).set (0) (aE E 28 0, .inr (11, [.int (g.1 32 0), .int (g.1 33 0), .ref (aE E 29 (0)), .ref (aE E 30 (0)), .ref (aE E 31 (0)), .ref (aE E 32 (0)), .ref (aE E 33 (0)), .int (g.1 34 0), .int (g.1 35 0), .int (g.1 36 0), .ref (aE E 34 (0)), .ref (aE E 35 (0)), .ref (aE E 36 (0)), .ref (aE E 37 (0)), .ref (aE E 38 (0)), .ref (aE E 39 (0)), .ref (aE E 40 (0)), .ref (aE E 41 (0)), .ref (aE E 42 (0)), .int (g.1 37 0), .int (g.1 38 0), .int (g.1 39 0), .ref (aE E 43 (0)), .ref (aE E 44 (0)), .int (g.1 40 0), .int (g.1 41 0), .int (g.1 42 0), .ref (aE E 45 (0)), .ref (aE E 46 (0)), .int (g.1 43 0), .int (g.1 44 0), .int v, .ref (aE E 47 (0)), .int (g.1 46 0), .ref (aE E 48 (0)), .ref (aE E 49 (0)), .ref (aE E 50 (0)), .ref (aE E 51 (0)), .ref (aE E 52 (0)), .int (g.1 47 0), .int (g.1 48 0), .int (g.1 49 0), .int (g.1 50 0), .int (g.1 51 0), .int (g.1 52 0), .ref (aE E 53 (0)), .ref (aE E 54 (0)), .ref (aE E 55 (0)), .ref (aE E 56 (0)), .int (g.1 53 0), .ref (aE E 57 (0))])) = cellsM E (sS g 45 0 v) ++ wx := rfl
theorem se_Mo_filmed {E : WEt} {g : STt} {wx : va_W} (v : Int32) : (cellsM E g ++ wx).set (0) (aE E 28 0, .inr (11, [.int (g.1 32 0), .int (g.1 33 0), .ref (aE E 29 (0)), .ref (aE E 30 (0)), .ref (aE E 31 (0)), .ref (aE E 32 (0)), .ref (aE E 33 (0)), .int (g.1 34 0), .int (g.1 35 0), .int (g.1 36 0), .ref (aE E 34 (0)), .ref (aE E 35 (0)), .ref (aE E 36 (0)), .ref (aE E 37 (0)), .ref (aE E 38 (0)), .ref (aE E 39 (0)), .ref (aE E 40 (0)), .ref (aE E 41 (0)), .ref (aE E 42 (0)), .int (g.1 37 0), .int (g.1 38 0), .int (g.1 39 0), .ref (aE E 43 (0)), .ref (aE E 44 (0)), .int (g.1 40 0), .int (g.1 41 0), .int (g.1 42 0), .ref (aE E 45 (0)), .ref (aE E 46 (0)), .int (g.1 43 0), .int (g.1 44 0), .int (g.1 45 0), .ref (aE E 47 (0)), .int v, .ref (aE E 48 (0)), .ref (aE E 49 (0)), .ref (aE E 50 (0)), .ref (aE E 51 (0)), .ref (aE E 52 (0)), .int (g.1 47 0), .int (g.1 48 0), .int (g.1 49 0), .int (g.1 50 0), .int (g.1 51 0), .int (g.1 52 0), .ref (aE E 53 (0)), .ref (aE E 54 (0)), .ref (aE E 55 (0)), .ref (aE E 56 (0)), .int (g.1 53 0), .ref (aE E 57 (0))])) = cellsM E (sS g 46 0 v) ++ wx := rfl
theorem se_Mo_hasImage {E : WEt} {g : STt} {wx : va_W} (v : Int32) : (cellsM E g ++ wx).set (0) (aE E 28 0, .inr (11, [.int (g.1 32 0), .int (g.1 33 0), .ref (aE E 29 (0)), .ref (aE E 30 (0)), .ref (aE E 31 (0)), .ref (aE E 32 (0)), .ref (aE E 33 (0)), .int (g.1 34 0), .int (g.1 35 0), .int (g.1 36 0), .ref (aE E 34 (0)), .ref (aE E 35 (0)), .ref (aE E 36 (0)), .ref (aE E 37 (0)), .ref (aE E 38 (0)), .ref (aE E 39 (0)), .ref (aE E 40 (0)), .ref (aE E 41 (0)), .ref (aE E 42 (0)), .int (g.1 37 0), .int (g.1 38 0), .int (g.1 39 0), .ref (aE E 43 (0)), .ref (aE E 44 (0)), .int (g.1 40 0), .int (g.1 41 0), .int (g.1 42 0), .ref (aE E 45 (0)), .ref (aE E 46 (0)), .int (g.1 43 0), .int (g.1 44 0), .int (g.1 45 0), .ref (aE E 47 (0)), .int (g.1 46 0), .ref (aE E 48 (0)), .ref (aE E 49 (0)), .ref (aE E 50 (0)), .ref (aE E 51 (0)), .ref (aE E 52 (0)), .int v, .int (g.1 48 0), .int (g.1 49 0), .int (g.1 50 0), .int (g.1 51 0), .int (g.1 52 0), .ref (aE E 53 (0)), .ref (aE E 54 (0)), .ref (aE E 55 (0)), .ref (aE E 56 (0)), .int (g.1 53 0), .ref (aE E 57 (0))])) = cellsM E (sS g 47 0 v) ++ wx := rfl
theorem se_Mo_keptHolds {E : WEt} {g : STt} {wx : va_W} (v : Int32) : (cellsM E g ++ wx).set (0) (aE E 28 0, .inr (11, [.int (g.1 32 0), .int (g.1 33 0), .ref (aE E 29 (0)), .ref (aE E 30 (0)), .ref (aE E 31 (0)), .ref (aE E 32 (0)), .ref (aE E 33 (0)), .int (g.1 34 0), .int (g.1 35 0), .int (g.1 36 0), .ref (aE E 34 (0)), .ref (aE E 35 (0)), .ref (aE E 36 (0)), .ref (aE E 37 (0)), .ref (aE E 38 (0)), .ref (aE E 39 (0)), .ref (aE E 40 (0)), .ref (aE E 41 (0)), .ref (aE E 42 (0)), .int (g.1 37 0), .int (g.1 38 0), .int (g.1 39 0), .ref (aE E 43 (0)), .ref (aE E 44 (0)), .int (g.1 40 0), .int (g.1 41 0), .int (g.1 42 0), .ref (aE E 45 (0)), .ref (aE E 46 (0)), .int (g.1 43 0), .int (g.1 44 0), .int (g.1 45 0), .ref (aE E 47 (0)), .int (g.1 46 0), .ref (aE E 48 (0)), .ref (aE E 49 (0)), .ref (aE E 50 (0)), .ref (aE E 51 (0)), .ref (aE E 52 (0)), .int (g.1 47 0), .int v, .int (g.1 49 0), .int (g.1 50 0), .int (g.1 51 0), .int (g.1 52 0), .ref (aE E 53 (0)), .ref (aE E 54 (0)), .ref (aE E 55 (0)), .ref (aE E 56 (0)), .int (g.1 53 0), .ref (aE E 57 (0))])) = cellsM E (sS g 48 0 v) ++ wx := rfl
theorem se_Mo_keptOdds {E : WEt} {g : STt} {wx : va_W} (v : Int32) : (cellsM E g ++ wx).set (0) (aE E 28 0, .inr (11, [.int (g.1 32 0), .int (g.1 33 0), .ref (aE E 29 (0)), .ref (aE E 30 (0)), .ref (aE E 31 (0)), .ref (aE E 32 (0)), .ref (aE E 33 (0)), .int (g.1 34 0), .int (g.1 35 0), .int (g.1 36 0), .ref (aE E 34 (0)), .ref (aE E 35 (0)), .ref (aE E 36 (0)), .ref (aE E 37 (0)), .ref (aE E 38 (0)), .ref (aE E 39 (0)), .ref (aE E 40 (0)), .ref (aE E 41 (0)), .ref (aE E 42 (0)), .int (g.1 37 0), .int (g.1 38 0), .int (g.1 39 0), .ref (aE E 43 (0)), .ref (aE E 44 (0)), .int (g.1 40 0), .int (g.1 41 0), .int (g.1 42 0), .ref (aE E 45 (0)), .ref (aE E 46 (0)), .int (g.1 43 0), .int (g.1 44 0), .int (g.1 45 0), .ref (aE E 47 (0)), .int (g.1 46 0), .ref (aE E 48 (0)), .ref (aE E 49 (0)), .ref (aE E 50 (0)), .ref (aE E 51 (0)), .ref (aE E 52 (0)), .int (g.1 47 0), .int (g.1 48 0), .int v, .int (g.1 50 0), .int (g.1 51 0), .int (g.1 52 0), .ref (aE E 53 (0)), .ref (aE E 54 (0)), .ref (aE E 55 (0)), .ref (aE E 56 (0)), .int (g.1 53 0), .ref (aE E 57 (0))])) = cellsM E (sS g 49 0 v) ++ wx := rfl
theorem se_Mo_keptRows {E : WEt} {g : STt} {wx : va_W} (v : Int32) : (cellsM E g ++ wx).set (0) (aE E 28 0, .inr (11, [.int (g.1 32 0), .int (g.1 33 0), .ref (aE E 29 (0)), .ref (aE E 30 (0)), .ref (aE E 31 (0)), .ref (aE E 32 (0)), .ref (aE E 33 (0)), .int (g.1 34 0), .int (g.1 35 0), .int (g.1 36 0), .ref (aE E 34 (0)), .ref (aE E 35 (0)), .ref (aE E 36 (0)), .ref (aE E 37 (0)), .ref (aE E 38 (0)), .ref (aE E 39 (0)), .ref (aE E 40 (0)), .ref (aE E 41 (0)), .ref (aE E 42 (0)), .int (g.1 37 0), .int (g.1 38 0), .int (g.1 39 0), .ref (aE E 43 (0)), .ref (aE E 44 (0)), .int (g.1 40 0), .int (g.1 41 0), .int (g.1 42 0), .ref (aE E 45 (0)), .ref (aE E 46 (0)), .int (g.1 43 0), .int (g.1 44 0), .int (g.1 45 0), .ref (aE E 47 (0)), .int (g.1 46 0), .ref (aE E 48 (0)), .ref (aE E 49 (0)), .ref (aE E 50 (0)), .ref (aE E 51 (0)), .ref (aE E 52 (0)), .int (g.1 47 0), .int (g.1 48 0), .int (g.1 49 0), .int v, .int (g.1 51 0), .int (g.1 52 0), .ref (aE E 53 (0)), .ref (aE E 54 (0)), .ref (aE E 55 (0)), .ref (aE E 56 (0)), .int (g.1 53 0), .ref (aE E 57 (0))])) = cellsM E (sS g 50 0 v) ++ wx := rfl
theorem se_Mo_keptFilmed {E : WEt} {g : STt} {wx : va_W} (v : Int32) : (cellsM E g ++ wx).set (0) (aE E 28 0, .inr (11, [.int (g.1 32 0), .int (g.1 33 0), .ref (aE E 29 (0)), .ref (aE E 30 (0)), .ref (aE E 31 (0)), .ref (aE E 32 (0)), .ref (aE E 33 (0)), .int (g.1 34 0), .int (g.1 35 0), .int (g.1 36 0), .ref (aE E 34 (0)), .ref (aE E 35 (0)), .ref (aE E 36 (0)), .ref (aE E 37 (0)), .ref (aE E 38 (0)), .ref (aE E 39 (0)), .ref (aE E 40 (0)), .ref (aE E 41 (0)), .ref (aE E 42 (0)), .int (g.1 37 0), .int (g.1 38 0), .int (g.1 39 0), .ref (aE E 43 (0)), .ref (aE E 44 (0)), .int (g.1 40 0), .int (g.1 41 0), .int (g.1 42 0), .ref (aE E 45 (0)), .ref (aE E 46 (0)), .int (g.1 43 0), .int (g.1 44 0), .int (g.1 45 0), .ref (aE E 47 (0)), .int (g.1 46 0), .ref (aE E 48 (0)), .ref (aE E 49 (0)), .ref (aE E 50 (0)), .ref (aE E 51 (0)), .ref (aE E 52 (0)), .int (g.1 47 0), .int (g.1 48 0), .int (g.1 49 0), .int (g.1 50 0), .int v, .int (g.1 52 0), .ref (aE E 53 (0)), .ref (aE E 54 (0)), .ref (aE E 55 (0)), .ref (aE E 56 (0)), .int (g.1 53 0), .ref (aE E 57 (0))])) = cellsM E (sS g 51 0 v) ++ wx := rfl
theorem se_Mo_keptBeasts {E : WEt} {g : STt} {wx : va_W} (v : Int32) : (cellsM E g ++ wx).set (0) (aE E 28 0, .inr (11, [.int (g.1 32 0), .int (g.1 33 0), .ref (aE E 29 (0)), .ref (aE E 30 (0)), .ref (aE E 31 (0)), .ref (aE E 32 (0)), .ref (aE E 33 (0)), .int (g.1 34 0), .int (g.1 35 0), .int (g.1 36 0), .ref (aE E 34 (0)), .ref (aE E 35 (0)), .ref (aE E 36 (0)), .ref (aE E 37 (0)), .ref (aE E 38 (0)), .ref (aE E 39 (0)), .ref (aE E 40 (0)), .ref (aE E 41 (0)), .ref (aE E 42 (0)), .int (g.1 37 0), .int (g.1 38 0), .int (g.1 39 0), .ref (aE E 43 (0)), .ref (aE E 44 (0)), .int (g.1 40 0), .int (g.1 41 0), .int (g.1 42 0), .ref (aE E 45 (0)), .ref (aE E 46 (0)), .int (g.1 43 0), .int (g.1 44 0), .int (g.1 45 0), .ref (aE E 47 (0)), .int (g.1 46 0), .ref (aE E 48 (0)), .ref (aE E 49 (0)), .ref (aE E 50 (0)), .ref (aE E 51 (0)), .ref (aE E 52 (0)), .int (g.1 47 0), .int (g.1 48 0), .int (g.1 49 0), .int (g.1 50 0), .int (g.1 51 0), .int v, .ref (aE E 53 (0)), .ref (aE E 54 (0)), .ref (aE E 55 (0)), .ref (aE E 56 (0)), .int (g.1 53 0), .ref (aE E 57 (0))])) = cellsM E (sS g 52 0 v) ++ wx := rfl
theorem se_Mo_traces {E : WEt} {g : STt} {wx : va_W} (v : Int32) : (cellsM E g ++ wx).set (0) (aE E 28 0, .inr (11, [.int (g.1 32 0), .int (g.1 33 0), .ref (aE E 29 (0)), .ref (aE E 30 (0)), .ref (aE E 31 (0)), .ref (aE E 32 (0)), .ref (aE E 33 (0)), .int (g.1 34 0), .int (g.1 35 0), .int (g.1 36 0), .ref (aE E 34 (0)), .ref (aE E 35 (0)), .ref (aE E 36 (0)), .ref (aE E 37 (0)), .ref (aE E 38 (0)), .ref (aE E 39 (0)), .ref (aE E 40 (0)), .ref (aE E 41 (0)), .ref (aE E 42 (0)), .int (g.1 37 0), .int (g.1 38 0), .int (g.1 39 0), .ref (aE E 43 (0)), .ref (aE E 44 (0)), .int (g.1 40 0), .int (g.1 41 0), .int (g.1 42 0), .ref (aE E 45 (0)), .ref (aE E 46 (0)), .int (g.1 43 0), .int (g.1 44 0), .int (g.1 45 0), .ref (aE E 47 (0)), .int (g.1 46 0), .ref (aE E 48 (0)), .ref (aE E 49 (0)), .ref (aE E 50 (0)), .ref (aE E 51 (0)), .ref (aE E 52 (0)), .int (g.1 47 0), .int (g.1 48 0), .int (g.1 49 0), .int (g.1 50 0), .int (g.1 51 0), .int (g.1 52 0), .ref (aE E 53 (0)), .ref (aE E 54 (0)), .ref (aE E 55 (0)), .ref (aE E 56 (0)), .int v, .ref (aE E 57 (0))])) = cellsM E (sS g 53 0 v) ++ wx := rfl
theorem ce_m_kind {E : WEt} {g : STt} {wx : va_W} : (cellsM E g ++ wx)[1]? = some (aE E 29 0, .inl (E.2.1 0, 10, .inl (g.2.1 54 0))) := rfl
theorem se_m_kind {E : WEt} {g : STt} {wx : va_W} (f : Nat → Int32) : (cellsM E g ++ wx).set (1) (aE E 29 0, .inl (E.2.1 0, 10, .inl f)) = cellsM E (sA g 54 0 f) ++ wx := rfl
theorem ce_m_number {E : WEt} {g : STt} {wx : va_W} : (cellsM E g ++ wx)[2]? = some (aE E 30 0, .inl (E.2.1 0, 10, .inl (g.2.1 55 0))) := rfl
theorem se_m_number {E : WEt} {g : STt} {wx : va_W} (f : Nat → Int32) : (cellsM E g ++ wx).set (2) (aE E 30 0, .inl (E.2.1 0, 10, .inl f)) = cellsM E (sA g 55 0 f) ++ wx := rfl
theorem ce_m_thing {E : WEt} {g : STt} {wx : va_W} : (cellsM E g ++ wx)[3]? = some (aE E 31 0, .inl (E.2.1 0, 10, .inl (g.2.1 56 0))) := rfl
theorem se_m_thing {E : WEt} {g : STt} {wx : va_W} (f : Nat → Int32) : (cellsM E g ++ wx).set (3) (aE E 31 0, .inl (E.2.1 0, 10, .inl f)) = cellsM E (sA g 56 0 f) ++ wx := rfl
theorem ce_m_is {E : WEt} {g : STt} {wx : va_W} : (cellsM E g ++ wx)[4]? = some (aE E 32 0, .inl (E.2.1 0, 15, .inl (g.2.1 57 0))) := rfl
theorem se_m_is {E : WEt} {g : STt} {wx : va_W} (f : Nat → Int32) : (cellsM E g ++ wx).set (4) (aE E 32 0, .inl (E.2.1 0, 15, .inl f)) = cellsM E (sA g 57 0 f) ++ wx := rfl
theorem ce_m_tape {E : WEt} {g : STt} {wx : va_W} : (cellsM E g ++ wx)[5]? = some (aE E 33 0, .inl (E.2.1 3, 100, .inl (g.2.1 58 0))) := rfl
theorem se_m_tape {E : WEt} {g : STt} {wx : va_W} (f : Nat → Int32) : (cellsM E g ++ wx).set (5) (aE E 33 0, .inl (E.2.1 3, 100, .inl f)) = cellsM E (sA g 58 0 f) ++ wx := rfl
theorem ce_m_clauseMany {E : WEt} {g : STt} {wx : va_W} : (cellsM E g ++ wx)[6]? = some (aE E 34 0, .inl (E.2.1 0, 7, .inl (g.2.1 59 0))) := rfl
theorem se_m_clauseMany {E : WEt} {g : STt} {wx : va_W} (f : Nat → Int32) : (cellsM E g ++ wx).set (6) (aE E 34 0, .inl (E.2.1 0, 7, .inl f)) = cellsM E (sA g 59 0 f) ++ wx := rfl
theorem ce_m_clauseIs {E : WEt} {g : STt} {wx : va_W} : (cellsM E g ++ wx)[7]? = some (aE E 35 0, .inl (E.2.1 0, 70, .inl (g.2.1 60 0))) := rfl
theorem se_m_clauseIs {E : WEt} {g : STt} {wx : va_W} (f : Nat → Int32) : (cellsM E g ++ wx).set (7) (aE E 35 0, .inl (E.2.1 0, 70, .inl f)) = cellsM E (sA g 60 0 f) ++ wx := rfl
theorem ce_m_clauseN {E : WEt} {g : STt} {wx : va_W} : (cellsM E g ++ wx)[8]? = some (aE E 36 0, .inl (E.2.1 0, 70, .inl (g.2.1 61 0))) := rfl
theorem se_m_clauseN {E : WEt} {g : STt} {wx : va_W} (f : Nat → Int32) : (cellsM E g ++ wx).set (8) (aE E 36 0, .inl (E.2.1 0, 70, .inl f)) = cellsM E (sA g 61 0 f) ++ wx := rfl
theorem ce_m_clauseFrom {E : WEt} {g : STt} {wx : va_W} : (cellsM E g ++ wx)[9]? = some (aE E 37 0, .inl (E.2.1 0, 70, .inl (g.2.1 62 0))) := rfl
theorem se_m_clauseFrom {E : WEt} {g : STt} {wx : va_W} (f : Nat → Int32) : (cellsM E g ++ wx).set (9) (aE E 37 0, .inl (E.2.1 0, 70, .inl f)) = cellsM E (sA g 62 0 f) ++ wx := rfl
theorem ce_m_clauseTo {E : WEt} {g : STt} {wx : va_W} : (cellsM E g ++ wx)[10]? = some (aE E 38 0, .inl (E.2.1 0, 70, .inl (g.2.1 63 0))) := rfl
theorem se_m_clauseTo {E : WEt} {g : STt} {wx : va_W} (f : Nat → Int32) : (cellsM E g ++ wx).set (10) (aE E 38 0, .inl (E.2.1 0, 70, .inl f)) = cellsM E (sA g 63 0 f) ++ wx := rfl
theorem ce_m_step {E : WEt} {g : STt} {wx : va_W} : (cellsM E g ++ wx)[11]? = some (aE E 39 0, .inl (E.2.1 0, 700, .inl (g.2.1 64 0))) := rfl
theorem se_m_step {E : WEt} {g : STt} {wx : va_W} (f : Nat → Int32) : (cellsM E g ++ wx).set (11) (aE E 39 0, .inl (E.2.1 0, 700, .inl f)) = cellsM E (sA g 64 0 f) ++ wx := rfl
theorem ce_m_letter {E : WEt} {g : STt} {wx : va_W} : (cellsM E g ++ wx)[12]? = some (aE E 40 0, .inl (E.2.1 0, 700, .inl (g.2.1 65 0))) := rfl
theorem se_m_letter {E : WEt} {g : STt} {wx : va_W} (f : Nat → Int32) : (cellsM E g ++ wx).set (12) (aE E 40 0, .inl (E.2.1 0, 700, .inl f)) = cellsM E (sA g 65 0 f) ++ wx := rfl
theorem ce_m_sign {E : WEt} {g : STt} {wx : va_W} : (cellsM E g ++ wx)[13]? = some (aE E 41 0, .inl (E.2.1 0, 700, .inl (g.2.1 66 0))) := rfl
theorem se_m_sign {E : WEt} {g : STt} {wx : va_W} (f : Nat → Int32) : (cellsM E g ++ wx).set (13) (aE E 41 0, .inl (E.2.1 0, 700, .inl f)) = cellsM E (sA g 66 0 f) ++ wx := rfl
theorem ce_m_value {E : WEt} {g : STt} {wx : va_W} : (cellsM E g ++ wx)[14]? = some (aE E 42 0, .inl (E.2.1 0, 700, .inl (g.2.1 67 0))) := rfl
theorem se_m_value {E : WEt} {g : STt} {wx : va_W} (f : Nat → Int32) : (cellsM E g ++ wx).set (14) (aE E 42 0, .inl (E.2.1 0, 700, .inl f)) = cellsM E (sA g 67 0 f) ++ wx := rfl
theorem ce_m_words {E : WEt} {g : STt} {wx : va_W} : (cellsM E g ++ wx)[15]? = some (aE E 43 0, .inl (E.2.1 0, 31, .inl (g.2.1 68 0))) := rfl
theorem se_m_words {E : WEt} {g : STt} {wx : va_W} (f : Nat → Int32) : (cellsM E g ++ wx).set (15) (aE E 43 0, .inl (E.2.1 0, 31, .inl f)) = cellsM E (sA g 68 0 f) ++ wx := rfl
theorem ce_m_pile {E : WEt} {g : STt} {wx : va_W} : (cellsM E g ++ wx)[16]? = some (aE E 44 0, .inl (E.2.1 2, 100, .inl (g.2.1 69 0))) := rfl
theorem se_m_pile {E : WEt} {g : STt} {wx : va_W} (f : Nat → Int32) : (cellsM E g ++ wx).set (16) (aE E 44 0, .inl (E.2.1 2, 100, .inl f)) = cellsM E (sA g 69 0 f) ++ wx := rfl
theorem ce_m_row {E : WEt} {g : STt} {wx : va_W} : (cellsM E g ++ wx)[17]? = some (aE E 45 0, .inl (E.2.1 0, 12, .inl (g.2.1 70 0))) := rfl
theorem se_m_row {E : WEt} {g : STt} {wx : va_W} (f : Nat → Int32) : (cellsM E g ++ wx).set (17) (aE E 45 0, .inl (E.2.1 0, 12, .inl f)) = cellsM E (sA g 70 0 f) ++ wx := rfl
theorem ce_m_was {E : WEt} {g : STt} {wx : va_W} : (cellsM E g ++ wx)[18]? = some (aE E 46 0, .inl (E.2.1 0, 15, .inl (g.2.1 71 0))) := rfl
theorem se_m_was {E : WEt} {g : STt} {wx : va_W} (f : Nat → Int32) : (cellsM E g ++ wx).set (18) (aE E 46 0, .inl (E.2.1 0, 15, .inl f)) = cellsM E (sA g 71 0 f) ++ wx := rfl
theorem ce_m_beastFear {E : WEt} {g : STt} {wx : va_W} : (cellsM E g ++ wx)[19]? = some (aE E 47 0, .inl (E.2.1 0, 4, .inl (g.2.1 72 0))) := rfl
theorem se_m_beastFear {E : WEt} {g : STt} {wx : va_W} (f : Nat → Int32) : (cellsM E g ++ wx).set (19) (aE E 47 0, .inl (E.2.1 0, 4, .inl f)) = cellsM E (sA g 72 0 f) ++ wx := rfl
theorem ce_m_film {E : WEt} {g : STt} {wx : va_W} : (cellsM E g ++ wx)[20]? = some (aE E 48 0, .inl (E.2.1 0, 12, .inl (g.2.1 73 0))) := rfl
theorem se_m_film {E : WEt} {g : STt} {wx : va_W} (f : Nat → Int32) : (cellsM E g ++ wx).set (20) (aE E 48 0, .inl (E.2.1 0, 12, .inl f)) = cellsM E (sA g 73 0 f) ++ wx := rfl
theorem ce_m_tapeSort {E : WEt} {g : STt} {wx : va_W} : (cellsM E g ++ wx)[21]? = some (aE E 49 0, .inl (E.2.1 0, 6, .inl (g.2.1 74 0))) := rfl
theorem se_m_tapeSort {E : WEt} {g : STt} {wx : va_W} (f : Nat → Int32) : (cellsM E g ++ wx).set (21) (aE E 49 0, .inl (E.2.1 0, 6, .inl f)) = cellsM E (sA g 74 0 f) ++ wx := rfl
theorem ce_m_tapeSize {E : WEt} {g : STt} {wx : va_W} : (cellsM E g ++ wx)[22]? = some (aE E 50 0, .inl (E.2.1 0, 6, .inl (g.2.1 75 0))) := rfl
theorem se_m_tapeSize {E : WEt} {g : STt} {wx : va_W} (f : Nat → Int32) : (cellsM E g ++ wx).set (22) (aE E 50 0, .inl (E.2.1 0, 6, .inl f)) = cellsM E (sA g 75 0 f) ++ wx := rfl
theorem ce_m_items {E : WEt} {g : STt} {wx : va_W} : (cellsM E g ++ wx)[23]? = some (aE E 51 0, .inl (E.2.1 1, 360, .inr (.inl (g.2.2.1 76 0)))) := rfl
theorem se_m_items {E : WEt} {g : STt} {wx : va_W} (f : Nat → Int64) : (cellsM E g ++ wx).set (23) (aE E 51 0, .inl (E.2.1 1, 360, .inr (.inl f))) = cellsM E (sL g 76 0 f) ++ wx := rfl
theorem ce_m_moving {E : WEt} {g : STt} {wx : va_W} : (cellsM E g ++ wx)[24]? = some (aE E 52 0, .inl (E.2.1 1, 60, .inr (.inl (g.2.2.1 77 0)))) := rfl
theorem se_m_moving {E : WEt} {g : STt} {wx : va_W} (f : Nat → Int64) : (cellsM E g ++ wx).set (24) (aE E 52 0, .inl (E.2.1 1, 60, .inr (.inl f))) = cellsM E (sL g 77 0 f) ++ wx := rfl
theorem ce_m_keptIs {E : WEt} {g : STt} {wx : va_W} : (cellsM E g ++ wx)[25]? = some (aE E 53 0, .inl (E.2.1 0, 15, .inl (g.2.1 78 0))) := rfl
theorem se_m_keptIs {E : WEt} {g : STt} {wx : va_W} (f : Nat → Int32) : (cellsM E g ++ wx).set (25) (aE E 53 0, .inl (E.2.1 0, 15, .inl f)) = cellsM E (sA g 78 0 f) ++ wx := rfl
theorem ce_m_keptRow {E : WEt} {g : STt} {wx : va_W} : (cellsM E g ++ wx)[26]? = some (aE E 54 0, .inl (E.2.1 0, 12, .inl (g.2.1 79 0))) := rfl
theorem se_m_keptRow {E : WEt} {g : STt} {wx : va_W} (f : Nat → Int32) : (cellsM E g ++ wx).set (26) (aE E 54 0, .inl (E.2.1 0, 12, .inl f)) = cellsM E (sA g 79 0 f) ++ wx := rfl
theorem ce_m_keptFilm {E : WEt} {g : STt} {wx : va_W} : (cellsM E g ++ wx)[27]? = some (aE E 55 0, .inl (E.2.1 0, 12, .inl (g.2.1 80 0))) := rfl
theorem se_m_keptFilm {E : WEt} {g : STt} {wx : va_W} (f : Nat → Int32) : (cellsM E g ++ wx).set (27) (aE E 55 0, .inl (E.2.1 0, 12, .inl f)) = cellsM E (sA g 80 0 f) ++ wx := rfl
theorem ce_m_keptFear {E : WEt} {g : STt} {wx : va_W} : (cellsM E g ++ wx)[28]? = some (aE E 56 0, .inl (E.2.1 0, 4, .inl (g.2.1 81 0))) := rfl
theorem se_m_keptFear {E : WEt} {g : STt} {wx : va_W} (f : Nat → Int32) : (cellsM E g ++ wx).set (28) (aE E 56 0, .inl (E.2.1 0, 4, .inl f)) = cellsM E (sA g 81 0 f) ++ wx := rfl
theorem ce_m_traced {E : WEt} {g : STt} {wx : va_W} : (cellsM E g ++ wx)[29]? = some (aE E 57 0, .inl (E.2.1 0, 20, .inl (g.2.1 82 0))) := rfl
theorem se_m_traced {E : WEt} {g : STt} {wx : va_W} (f : Nat → Int32) : (cellsM E g ++ wx).set (29) (aE E 57 0, .inl (E.2.1 0, 20, .inl f)) = cellsM E (sA g 82 0 f) ++ wx := rfl
