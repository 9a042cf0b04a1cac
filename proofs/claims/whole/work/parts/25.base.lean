/-! PURE: small words of the functions; numbers -/
theorem inB_iff {x : Int32} {n : Nat} : inB x n = true ↔ 0 ≤ x.toInt ∧ x.toInt < n := by
  simp only [inB, Bool.and_eq_true, decide_eq_true_eq]
theorem inB_f {x : Int32} {n : Nat} : ¬ inB x n = true ↔ x.toInt < 0 ∨ n ≤ x.toInt := by
  rw [inB_iff]; omega
theorem nI_c {k : Nat} (h : k < 2 ^ 31) : (nI k).toNatClampNeg = k := nI_clamp h
theorem inB_nI {k n : Nat} (h : k < n) (hn : n < 2 ^ 31) : inB (nI k) n = true := by
  rw [inB_iff, nI_toInt (by omega)]; omega
theorem inB_of {x : Int32} {n : Nat} (h : inB x n = true) (hn : n < 2 ^ 31) : ∃ k, k < n ∧ x = nI k := vp_in_of (inB_in h) hn
theorem bnd_e {α β γ : Type} (a : α) (b : β) (f : α → β → Option γ) : bnd (some (a, b)) f = f a b := rfl
theorem bnd1_e {α γ : Type} (a : α) (f : α → Option γ) : bnd1 (some a) f = f a := rfl
theorem sS_1 (g : STt) (c i : Nat) (v : Int32) (c' i' : Nat) : (sS g c i v).1 c' i' = if c' = c ∧ i' = i then v else g.1 c' i' := rfl
theorem sS_2 (g : STt) (c i : Nat) (v : Int32) : (sS g c i v).2 = g.2 := rfl
theorem sA_1 (g : STt) (c i : Nat) (f : Nat → Int32) : (sA g c i f).1 = g.1 := rfl
theorem sA_2 (g : STt) (c i : Nat) (f : Nat → Int32) (c' i' : Nat) : (sA g c i f).2.1 c' i' = if c' = c ∧ i' = i then f else g.2.1 c' i' := rfl
theorem sA_3 (g : STt) (c i : Nat) (f : Nat → Int32) : (sA g c i f).2.2 = g.2.2 := rfl
theorem sA1_1 (g : STt) (c i k : Nat) (v : Int32) : (sA1 g c i k v).1 = g.1 := rfl
theorem sA1_2 (g : STt) (c i k : Nat) (v : Int32) (c' i' : Nat) : (sA1 g c i k v).2.1 c' i' = if c' = c ∧ i' = i then upd (g.2.1 c i) k v else g.2.1 c' i' := rfl
theorem sA1_3 (g : STt) (c i k : Nat) (v : Int32) : (sA1 g c i k v).2.2 = g.2.2 := rfl
theorem sL_1 (g : STt) (c i : Nat) (f : Nat → Int64) : (sL g c i f).1 = g.1 := rfl
theorem sL_2 (g : STt) (c i : Nat) (f : Nat → Int64) : (sL g c i f).2.1 = g.2.1 := rfl
theorem sL_3 (g : STt) (c i : Nat) (f : Nat → Int64) (c' i' : Nat) : (sL g c i f).2.2.1 c' i' = if c' = c ∧ i' = i then f else g.2.2.1 c' i' := rfl
theorem sL_4 (g : STt) (c i : Nat) (f : Nat → Int64) : (sL g c i f).2.2.2 = g.2.2.2 := rfl
theorem sA_sA (g : STt) (c i : Nat) (f f' : Nat → Int32) : sA (sA g c i f) c i f' = sA g c i f' := by
  simp only [sA]
  congr 2
  funext c' i'
  by_cases h : c' = c ∧ i' = i <;> simp [h]
theorem sA1_sA (g : STt) (c i k : Nat) (f : Nat → Int32) (v : Int32) : sA1 (sA g c i f) c i k v = sA g c i (upd f k v) := by
  show sA (sA g c i f) c i (upd ((sA g c i f).2.1 c i) k v) = _
  rw [sA_sA, sA_2, if_pos ⟨rfl, rfl⟩]
theorem sA1_def (g : STt) (c i k : Nat) (v : Int32) : sA1 g c i k v = sA g c i (upd (g.2.1 c i) k v) := rfl
/-! the relation of the two states -/
def RPl (g m : STt) (P : Nat) : Prop := P ≤ 10 ∧ g.1 2 0 = nI P ∧ m.1 33 0 = nI P ∧ ∀ k, k < P → (g.2.1 3 0 k = m.2.1 54 0 k ∧ 0 ≤ (g.2.1 3 0 k).toInt ∧ (g.2.1 3 0 k).toInt ≤ 6) ∧ (g.2.1 4 0 k = m.2.1 55 0 k ∧ 0 ≤ (g.2.1 4 0 k).toInt ∧ (g.2.1 4 0 k).toInt ≤ 9) ∧ (g.2.1 5 0 k = m.2.1 56 0 k ∧ 0 ≤ (g.2.1 5 0 k).toInt ∧ (g.2.1 5 0 k).toInt ≤ 5)
def inR (x : Int32) (lo hi : Int) : Prop := lo ≤ x.toInt ∧ x.toInt ≤ hi
/-- the most of a donkey's number (the half minutes up to hb) -/
def mostN (P : Nat) (hb : Int) (k : Nat) : Int := if k = 9 then 9 else if k = 12 then P else if k = 13 then 1 else if k = 14 then hb else 99
/-- a donkey's numbers are in their bounds -/
def DOK (P : Nat) (hb : Int) (D : Nat → Int32) : Prop := ∀ k, k < 15 → inR (D k) 0 (mostN P hb k)
theorem DOK.mono {P P' : Nat} {hb hb' : Int} {D : Nat → Int32} (h : DOK P hb D) (h1 : P ≤ P') (h2 : hb ≤ hb') : DOK P' hb' D := fun k hk => by
  obtain ⟨a, b⟩ := h k hk
  refine ⟨a, Int.le_trans b ?_⟩
  unfold mostN
  split
  · omega
  · split
    · omega
    · split
      · omega
      · split <;> omega
theorem DOK.upd {P : Nat} {hb : Int} {D : Nat → Int32} (h : DOK P hb D) {w : Nat} {x : Int32} (hx : inR x 0 (mostN P hb w)) : DOK P hb (upd D w x) := fun k hk => by
  by_cases e : k = w
  · rw [e, pk_us]; exact hx
  · rw [pk_un e]; exact h k hk
def RDo (g m : STt) (P : Nat) : Prop := (∀ k, k < 15 → g.2.1 22 0 k = m.2.1 57 0 k) ∧ DOK P 9999 (g.2.1 22 0)
def RSt (g m : STt) (s cs ca n : Nat) (lo hi : Int) : Prop := ∃ K, K ≤ n ∧ g.1 20 s = nI K ∧ m.1 cs 0 = nI K ∧ ∀ k, k < K → g.2.1 21 s k = m.2.1 ca 0 k ∧ inR (g.2.1 21 s k) lo hi
def RTp (g m : STt) : Prop := ∀ t, t < 6 → g.1 29 t = m.2.1 74 0 t ∧ inR (g.1 29 t) (-1) 4 ∧ (g.1 29 t = -1 → g.1 30 t = 0) ∧ (g.1 29 t ≠ -1 → ∃ n, n ≤ 60 ∧ g.1 30 t = nI n ∧ m.2.1 75 0 t = nI n ∧ ∀ k, k < n → g.2.2.1 31 t k = m.2.2.1 76 0 (60 * t + k))
def ROd (g m : STt) : Prop := g.1 18 0 = m.1 44 0 ∧ inR (g.1 18 0) 0 10
def RBo (g m : STt) : Prop := ∃ n, n ≤ 1000 ∧ g.1 14 0 = nI n ∧ m.1 53 0 = nI n ∧ g.1 20 7 = nI (min n 20) ∧ ∀ k, k < min n 20 → g.2.1 21 7 k = m.2.1 82 0 k
def wordsF (k : Nat) : Int32 := ([103, 111, 32, 110, 111, 116, 32, 104, 117, 114, 116, 32, 108, 101, 97, 100, 32, 104, 105, 116, 32, 108, 111, 111, 107, 32, 102, 111, 114, 100, 32] : List Int32).getD k 0
def RCo (m : STt) : Prop := m.1 40 0 = 0 ∧ m.1 41 0 = 0 ∧ ∀ k, k < 31 → m.2.1 68 0 k = wordsF k
/-- which law holds: none (-1), or one below N -/
def RHd (x : Int32) (N : Nat) : Prop := x = -1 ∨ ∃ j, j < N ∧ x = nI j
def RIm (g m : STt) (P N : Nat) : Prop := g.1 1 0 = m.1 47 0 ∧ (g.1 1 0 = 0 ∨ (g.1 1 0 = 1 ∧ (∀ k, k < 15 → g.2.1 22 1 k = m.2.1 78 0 k) ∧ DOK P 9999 (g.2.1 22 1) ∧ RSt g m 4 50 79 12 0 7 ∧ RSt g m 5 51 80 12 0 3 ∧ RSt g m 6 52 81 4 0 99 ∧ (g.1 18 1 = m.1 49 0 ∧ inR (g.1 18 1) 0 10) ∧ (g.1 19 1 = m.1 48 0 ∧ RHd (g.1 19 1) N)))
/-! laws as what they say -/
def LwOK (tog : Nat → (Nat → Int32) → Int32) (last : Nat → Int32) : Prop := (∀ (w : Nat) (F F' : Nat → Int32), (∀ k, k < 9 → F k = F' k) → tog w F = tog w F') ∧ (∀ (w : Nat) (F : Nat → Int32), inR (tog w F) 0 990) ∧ (∀ w : Nat, inR (last w) 0 99)
def LwC (g : STt) (L : Nat) (tog : Nat → (Nat → Int32) → Int32) (last : Nat → Int32) : Prop := ∀ g' : STt, g'.1 23 L = g.1 23 L → g'.1 24 L = g.1 24 L → g'.2.1 25 L = g.2.1 25 L → g'.2.1 26 L = g.2.1 26 L → g'.2.1 27 L = g.2.1 27 L → g'.2.1 28 L = g.2.1 28 L → (∀ w, w < 3 → fX2_together g' L (nI w) = some (tog w (g'.2.1 7 0))) ∧ (∀ w, 3 ≤ w → w < 7 → fX2_last g' L (nI w) = some (last w))
def ltF (k : Nat) : Int32 := ([102, 104, 112, 119, 108, 115, 97, 107, 116] : List Int32).getD k 0
def LwMj (m : STt) (h : Int32) (tog : Nat → (Nat → Int32) → Int32) (last : Nat → Int32) : Prop := ∀ m' : STt, m'.1 36 0 = h → m'.2.1 59 0 = m.2.1 59 0 → m'.2.1 60 0 = m.2.1 60 0 → m'.2.1 61 0 = m.2.1 61 0 → m'.2.1 62 0 = m.2.1 62 0 → m'.2.1 63 0 = m.2.1 63 0 → m'.2.1 64 0 = m.2.1 64 0 → m'.2.1 65 0 = m.2.1 65 0 → m'.2.1 66 0 = m.2.1 66 0 → m'.2.1 67 0 = m.2.1 67 0 → (∀ w, w < 3 → ∀ F : Nat → Int32, (∀ k, k < 9 → fX11_factOf m' (ltF k) = some (F k)) → ∃ p, fX11_sumOf m' (nI w) = some (sA m' 69 0 p, tog w F)) ∧ (∀ w, 3 ≤ w → w < 7 → fX11_lastOf m' (nI w) = some (last w))
/-- the same, from the rows of law j alone -/
def LwMr (m : STt) (j : Nat) (tog : Nat → (Nat → Int32) → Int32) (last : Nat → Int32) : Prop := ∀ m' : STt, m'.1 36 0 = nI j → m'.2.1 59 0 j = m.2.1 59 0 j → (∀ k, 10 * j ≤ k → k < 10 * j + 10 → m'.2.1 60 0 k = m.2.1 60 0 k ∧ m'.2.1 61 0 k = m.2.1 61 0 k ∧ m'.2.1 62 0 k = m.2.1 62 0 k ∧ m'.2.1 63 0 k = m.2.1 63 0 k) → (∀ k, 100 * j ≤ k → k < 100 * j + 100 → m'.2.1 64 0 k = m.2.1 64 0 k ∧ m'.2.1 65 0 k = m.2.1 65 0 k ∧ m'.2.1 66 0 k = m.2.1 66 0 k ∧ m'.2.1 67 0 k = m.2.1 67 0 k) → (∀ w, w < 3 → ∀ F : Nat → Int32, (∀ k, k < 9 → fX11_factOf m' (ltF k) = some (F k)) → ∃ p, fX11_sumOf m' (nI w) = some (sA m' 69 0 p, tog w F)) ∧ (∀ w, 3 ≤ w → w < 7 → fX11_lastOf m' (nI w) = some (last w))
theorem LwMr.mj {m : STt} {j : Nat} {tog : Nat → (Nat → Int32) → Int32} {last : Nat → Int32} (h : LwMr m j tog last) : LwMj m (nI j) tog last := fun m' a b c d e f k l n o => h m' a (by rw [b]) (fun _ _ _ => ⟨by rw [c], by rw [d], by rw [e], by rw [f]⟩) (fun _ _ _ => ⟨by rw [k], by rw [l], by rw [n], by rw [o]⟩)
def tog0 (_ : Nat) (_ : Nat → Int32) : Int32 := 0
def last0 (w : Nat) : Int32 := if w = 3 then 3 else if w = 4 then 5 else if w = 5 then 2 else 9
def RLw (g m : STt) (N : Nat) : Prop := LwC g 6 tog0 last0 ∧ ∀ j, j < N → ∃ tog last, LwOK tog last ∧ LwC g j tog last ∧ LwMr m j tog last
def RHo (g m : STt) (N : Nat) : Prop := N ≤ 6 ∧ g.1 0 0 = nI N ∧ m.1 35 0 = nI N ∧ g.1 19 0 = m.1 36 0 ∧ ((g.1 19 0 = -1 ∧ g.2.2.2 = 6) ∨ ∃ j, j < N ∧ g.1 19 0 = nI j ∧ g.2.2.2 = j) ∧ RLw g m N
/-! answers of the small functions -/
theorem eX4_has {g : STt} {P : Nat} (hP : (g.1 2 0).toInt = P) (x : Int32) : fX4_has g x = some (if inB x P = true then 1 else 0) := by
  unfold fX4_has
  by_cases h : inB x P = true
  · rw [if_pos h]
    have h1 := inB_iff.mp h
    rw [if_neg (by (simp only [Int32.lt_iff_toInt_lt, Int32.le_iff_toInt_le, ← Int32.toInt_inj, Int32.reduceToInt] at *; omega)), if_neg (by (simp only [Int32.lt_iff_toInt_lt, Int32.le_iff_toInt_le, ← Int32.toInt_inj, Int32.reduceToInt] at *; omega))]
  · rw [if_neg h]
    have h1 := inB_f.mp h
    by_cases h2 : x < 0
    · rw [if_pos h2]
    · rw [if_neg h2, if_pos (by (simp only [Int32.lt_iff_toInt_lt, Int32.le_iff_toInt_le, ← Int32.toInt_inj, Int32.reduceToInt] at *; omega))]
theorem eX4_kindOf {g : STt} {P : Nat} (hP : (g.1 2 0).toInt = P) (hp : P ≤ 10) (x : Int32) : fX4_kindOf g x = some (if inB x P = true then g.2.1 3 0 x.toNatClampNeg else -1) := by
  unfold fX4_kindOf
  by_cases h : inB x P = true
  · rw [if_pos h]
    have h1 := inB_iff.mp h
    rw [if_neg (by (simp only [Int32.lt_iff_toInt_lt, Int32.le_iff_toInt_le, ← Int32.toInt_inj, Int32.reduceToInt] at *; omega)), if_neg (by (simp only [Int32.lt_iff_toInt_lt, Int32.le_iff_toInt_le, ← Int32.toInt_inj, Int32.reduceToInt] at *; omega)), if_neg (by (simp only [Int32.lt_iff_toInt_lt, Int32.le_iff_toInt_le, ← Int32.toInt_inj, Int32.reduceToInt] at *; omega)), if_pos (inB_iff.mpr (by omega))]
  · rw [if_neg h]
    have h1 := inB_f.mp h
    by_cases h2 : x < 0
    · rw [if_pos h2]
    · rw [if_neg h2, if_pos (by (simp only [Int32.lt_iff_toInt_lt, Int32.le_iff_toInt_le, ← Int32.toInt_inj, Int32.reduceToInt] at *; omega))]
theorem eX4_numberOf {g : STt} {P : Nat} (hP : (g.1 2 0).toInt = P) (hp : P ≤ 10) (x : Int32) : fX4_numberOf g x = some (if inB x P = true then g.2.1 4 0 x.toNatClampNeg else 0) := by
  unfold fX4_numberOf
  by_cases h : inB x P = true
  · rw [if_pos h]
    have h1 := inB_iff.mp h
    rw [if_neg (by (simp only [Int32.lt_iff_toInt_lt, Int32.le_iff_toInt_le, ← Int32.toInt_inj, Int32.reduceToInt] at *; omega)), if_neg (by (simp only [Int32.lt_iff_toInt_lt, Int32.le_iff_toInt_le, ← Int32.toInt_inj, Int32.reduceToInt] at *; omega)), if_neg (by (simp only [Int32.lt_iff_toInt_lt, Int32.le_iff_toInt_le, ← Int32.toInt_inj, Int32.reduceToInt] at *; omega)), if_pos (inB_iff.mpr (by omega))]
  · rw [if_neg h]
    have h1 := inB_f.mp h
    by_cases h2 : x < 0
    · rw [if_pos h2]
    · rw [if_neg h2, if_pos (by (simp only [Int32.lt_iff_toInt_lt, Int32.le_iff_toInt_le, ← Int32.toInt_inj, Int32.reduceToInt] at *; omega))]
theorem eX4_thingOf {g : STt} {P : Nat} (hP : (g.1 2 0).toInt = P) (hp : P ≤ 10) (x : Int32) : fX4_thingOf g x = some (if inB x P = true then g.2.1 5 0 x.toNatClampNeg else -1) := by
  unfold fX4_thingOf
  by_cases h : inB x P = true
  · rw [if_pos h]
    have h1 := inB_iff.mp h
    rw [if_neg (by (simp only [Int32.lt_iff_toInt_lt, Int32.le_iff_toInt_le, ← Int32.toInt_inj, Int32.reduceToInt] at *; omega)), if_neg (by (simp only [Int32.lt_iff_toInt_lt, Int32.le_iff_toInt_le, ← Int32.toInt_inj, Int32.reduceToInt] at *; omega)), if_neg (by (simp only [Int32.lt_iff_toInt_lt, Int32.le_iff_toInt_le, ← Int32.toInt_inj, Int32.reduceToInt] at *; omega)), if_pos (inB_iff.mpr (by omega))]
  · rw [if_neg h]
    have h1 := inB_f.mp h
    by_cases h2 : x < 0
    · rw [if_pos h2]
    · rw [if_neg h2, if_pos (by (simp only [Int32.lt_iff_toInt_lt, Int32.le_iff_toInt_le, ← Int32.toInt_inj, Int32.reduceToInt] at *; omega))]
theorem eX1_get (g : STt) (d : Nat) (x : Int32) : fX1_get g d x = some (if inB x 15 = true then g.2.1 22 d x.toNatClampNeg else 0) := by
  unfold fX1_get
  by_cases h : inB x 15 = true
  · rw [if_pos h, if_pos h]
    have h1 := inB_iff.mp h
    rw [if_neg (by (simp only [Int32.lt_iff_toInt_lt, Int32.le_iff_toInt_le, ← Int32.toInt_inj, Int32.reduceToInt] at *; omega)), if_neg (by (simp only [Int32.lt_iff_toInt_lt, Int32.le_iff_toInt_le, ← Int32.toInt_inj, Int32.reduceToInt] at *; omega))]
  · have h1 := inB_f.mp h
    by_cases h2 : x < 0
    · rw [if_pos h2, if_neg h]
    · rw [if_neg h2, if_pos (by (simp only [Int32.lt_iff_toInt_lt, Int32.le_iff_toInt_le, ← Int32.toInt_inj, Int32.reduceToInt] at *; omega)), if_neg h]
theorem eX1_getk (g : STt) (d : Nat) (x : Int32) (k : Nat) (hk : k < 15) (hx : x = nI k) : fX1_get g d x = some (g.2.1 22 d k) := by
  rw [eX1_get, hx, if_pos (inB_nI hk (by omega)), nI_c (by omega)]
theorem eX11_in (g : STt) (x a b : Int32) : fX11_in g x a b = some (if a.toInt ≤ x.toInt ∧ x.toInt ≤ b.toInt then 1 else 0) := by
  unfold fX11_in
  by_cases h1 : x < a
  · rw [if_pos h1, if_neg (by (simp only [Int32.lt_iff_toInt_lt, Int32.le_iff_toInt_le, ← Int32.toInt_inj, Int32.reduceToInt] at *; omega))]
  · rw [if_neg h1]
    by_cases h2 : b < x
    · rw [if_pos h2, if_neg (by (simp only [Int32.lt_iff_toInt_lt, Int32.le_iff_toInt_le, ← Int32.toInt_inj, Int32.reduceToInt] at *; omega))]
    · rw [if_neg h2, if_pos (by (simp only [Int32.lt_iff_toInt_lt, Int32.le_iff_toInt_le, ← Int32.toInt_inj, Int32.reduceToInt] at *; omega))]
theorem b01 (p : Prop) [Decidable p] : vp_nar .boolean (if p then (1 : Int32) else 0) = if p then 1 else 0 := by
  by_cases h : p <;> simp only [h, if_true, if_false] <;> rfl
theorem b_if {α : Type} (p : Prop) [Decidable p] (A B : Option α) : (bnd1 (some (if p then (1 : Int32) else 0)) fun r => if r = 0 then A else B) = if p then B else A := by
  by_cases h : p <;> simp only [h, if_true, if_false, bnd1_e] <;> rfl
theorem eX11_isPlace {m : STt} {P : Nat} (hP : m.1 33 0 = nI P) (hp : P ≤ 10) (x : Int32) : fX11_isPlace m x = some (if inB x P = true then 1 else 0) := by
  unfold fX11_isPlace
  rw [eX11_in, bnd1_e, if_pos (b01 _)]
  have e1 : (m.1 33 0 - 1).toInt = (P : Int) - 1 := by rw [hP]; exact pk_sub_toInt (a := P) (b := 1) (by omega) (by omega)
  have e0 : (0 : Int32).toInt = 0 := by decide
  by_cases h : inB x P = true
  · have h1 := inB_iff.mp h
    rw [if_pos h, if_pos (by omega)]
  · have h1 := inB_f.mp h
    rw [if_neg h, if_neg (by omega)]
theorem eX10_isAct (g : STt) (x : Int32) : fX10_isAct g x = some (if inB x 8 = true then 1 else 0) := by
  unfold fX10_isAct
  by_cases h : inB x 8 = true
  · have h1 := inB_iff.mp h
    rw [if_pos h, if_neg (by (simp only [Int32.lt_iff_toInt_lt, Int32.le_iff_toInt_le, ← Int32.toInt_inj, Int32.reduceToInt] at *; omega)), if_neg (by (simp only [Int32.lt_iff_toInt_lt, Int32.le_iff_toInt_le, ← Int32.toInt_inj, Int32.reduceToInt] at *; omega))]
  · have h1 := inB_f.mp h
    rw [if_neg h]
    by_cases h2 : x < 0
    · rw [if_pos h2]
    · rw [if_neg h2, if_pos (by (simp only [Int32.lt_iff_toInt_lt, Int32.le_iff_toInt_le, ← Int32.toInt_inj, Int32.reduceToInt] at *; omega))]
theorem eX11_isAct (m : STt) (x : Int32) : fX11_isAct m x = some (if inB x 8 = true then 1 else 0) := by
  unfold fX11_isAct
  rw [eX11_in, bnd1_e, if_pos (b01 _)]
  by_cases h : inB x 8 = true
  · have h1 := inB_iff.mp h
    rw [if_pos h, if_pos (by (simp only [Int32.lt_iff_toInt_lt, Int32.le_iff_toInt_le, ← Int32.toInt_inj, Int32.reduceToInt] at *; omega))]
  · have h1 := inB_f.mp h
    rw [if_neg h, if_neg (by (simp only [Int32.lt_iff_toInt_lt, Int32.le_iff_toInt_le, ← Int32.toInt_inj, Int32.reduceToInt] at *; omega))]
theorem addZ {x y : Int32} (h1 : -2147483648 ≤ x.toInt + y.toInt) (h2 : x.toInt + y.toInt ≤ 2147483647) : (x + y).toInt = x.toInt + y.toInt := by
  rw [Int32.toInt_add]; exact Int.bmod_eq_of_le (by omega) (by omega)
theorem subZ {x y : Int32} (h1 : -2147483648 ≤ x.toInt - y.toInt) (h2 : x.toInt - y.toInt ≤ 2147483647) : (x - y).toInt = x.toInt - y.toInt := by
  rw [Int32.toInt_sub]; exact Int.bmod_eq_of_le (by omega) (by omega)
theorem mulZ {x y : Int32} (h1 : -2147483648 ≤ x.toInt * y.toInt) (h2 : x.toInt * y.toInt ≤ 2147483647) : (x * y).toInt = x.toInt * y.toInt := by
  rw [Int32.toInt_mul]; exact Int.bmod_eq_of_le (by omega) (by omega)
theorem rng1 {α : Type} (x lo hi : Int32) (A B : α) : (if x < lo then A else (if hi < x then A else B)) = if lo.toInt ≤ x.toInt ∧ x.toInt ≤ hi.toInt then B else A := by
  by_cases h1 : x < lo
  · rw [if_pos h1, if_neg (by (simp only [Int32.lt_iff_toInt_lt, Int32.le_iff_toInt_le, ← Int32.toInt_inj, Int32.reduceToInt] at *; omega))]
  · rw [if_neg h1]
    by_cases h2 : hi < x
    · rw [if_pos h2, if_neg (by (simp only [Int32.lt_iff_toInt_lt, Int32.le_iff_toInt_le, ← Int32.toInt_inj, Int32.reduceToInt] at *; omega))]
    · rw [if_neg h2, if_pos (by (simp only [Int32.lt_iff_toInt_lt, Int32.le_iff_toInt_le, ← Int32.toInt_inj, Int32.reduceToInt] at *; omega))]
theorem rng2 {α : Type} (x lo hi : Int32) (A B : α) : (if x < lo then A else (if x ≤ hi then B else A)) = if lo.toInt ≤ x.toInt ∧ x.toInt ≤ hi.toInt then B else A := by
  by_cases h1 : x < lo
  · rw [if_pos h1, if_neg (by (simp only [Int32.lt_iff_toInt_lt, Int32.le_iff_toInt_le, ← Int32.toInt_inj, Int32.reduceToInt] at *; omega))]
  · rw [if_neg h1]
    by_cases h2 : x ≤ hi
    · rw [if_pos h2, if_pos (by (simp only [Int32.lt_iff_toInt_lt, Int32.le_iff_toInt_le, ← Int32.toInt_inj, Int32.reduceToInt] at *; omega))]
    · rw [if_neg h2, if_neg (by (simp only [Int32.lt_iff_toInt_lt, Int32.le_iff_toInt_le, ← Int32.toInt_inj, Int32.reduceToInt] at *; omega))]
/-- a loop by its measure: each round either ends or comes to a state of a smaller one -/
theorem iterO_eq {σ τ : Type} {F : (σ → Option τ) → σ → Option τ} (μ : σ → Nat) (Q : σ → τ → Prop) (I : σ → Prop) (step : ∀ (K : σ → Option τ) (s : σ), I s → (∀ s', I s' → μ s' < μ s → ∃ r, K s' = some r ∧ Q s' r) → ∃ r, F K s = some r ∧ Q s r) : ∀ (n : Nat) (s : σ), I s → μ s < n → ∃ r, iterO F n s = some r ∧ Q s r := by
  intro n
  induction n with
  | zero => intro s _ h; omega
  | succ n ih => intro s hs h; exact step (iterO F n) s hs fun s' h1 h2 => ih s' h1 (by omega)
