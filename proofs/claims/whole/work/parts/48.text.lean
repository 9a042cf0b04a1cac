/-! PURE: the text and what it says; tokens; the class's small readers -/
def dgP (c : Int32) : Prop := 48 ≤ c.toInt ∧ c.toInt ≤ 57
def dgB (c : Int32) : Bool := decide (48 ≤ c.toInt) && decide (c.toInt ≤ 57)
theorem dgB_t {c : Int32} : dgB c = true ↔ 48 ≤ c.toInt ∧ c.toInt ≤ 57 := by
  unfold dgB; rw [Bool.and_eq_true, decide_eq_true_eq, decide_eq_true_eq]
def dvN (c : Int32) : Nat := (c.toInt - 48).toNat
theorem dv_of {c : Int32} (h : dgB c = true) : c - 48 = nI (dvN c) ∧ dvN c ≤ 9 ∧ c = nI (dvN c + 48) := by
  obtain ⟨h1, h2⟩ := dgB_t.mp h
  have e48 : (48 : Int32).toInt = 48 := by decide
  have hd : ((dvN c : Nat) : Int) = c.toInt - 48 := by unfold dvN; omega
  refine ⟨?_, by omega, ?_⟩
  · apply Int32.toInt_inj.mp
    rw [subZ (by omega) (by omega), nI_toInt (by omega)]; omega
  · apply Int32.toInt_inj.mp
    rw [nI_toInt (by omega)]; omega
def pNm (C : Nat → Int32) (i : Nat) : Nat × Option Nat := if dgB (C i) = true then (if dgB (C (i + 1)) = true then (i + 2, some (10 * dvN (C i) + dvN (C (i + 1)))) else (i + 1, some (dvN (C i)))) else (i, none)
def leN (c : Int32) : Option Nat := if c = 102 then some 0 else if c = 104 then some 1 else if c = 112 then some 2 else if c = 119 then some 3 else if c = 108 then some 4 else if c = 115 then some 5 else if c = 97 then some 6 else if c = 107 then some 7 else if c = 116 then some 8 else none
def siN (c : Int32) : Option Nat := if c = 60 then some 0 else if c = 61 then some 1 else if c = 62 then some 2 else none
abbrev TkT : Type := Nat × Nat × Nat × Nat
def tsB (F : Nat → Int32) (q sg n : Nat) : Bool := if sg = 0 then decide (F q < nI n) else if sg = 1 then decide (F q = nI n) else decide (nI n < F q)
def pTs (C : Nat → Int32) (i : Nat) : Nat × Option (Nat × Nat × Nat) := match leN (C i) with
  | none => (i, none)
  | some q => match siN (C (i + 1)) with
    | none => (i + 1, none)
    | some sg => match pNm C (i + 2) with
      | (j, none) => (j, none)
      | (j, some n) => (j, some (q, sg, n))
def prs (C : Nat → Int32) : Nat → Nat → Nat → Nat → Nat × Option ((Nat → Int32) → Bool)
  | 0, _, _, i => (i, none)
  | f + 1, mode, d, i =>
    if mode = 0 then
      if d < 4 ∧ C i = 33 then match prs C f 0 (d + 1) (i + 1) with
        | (j, none) => (j, none)
        | (j, some F) => (j, some (fun x => !(F x)))
      else if d < 4 ∧ C i = 40 then match prs C f 2 (d + 1) (i + 1) with
        | (j, none) => (j, none)
        | (j, some F) => if C j = 41 then (j + 1, some F) else (j, none)
      else match pTs C i with
        | (j, none) => (j, none)
        | (j, some (q, sg, n)) => (j, some (fun x => tsB x q sg n))
    else if mode = 1 then match prs C f 0 d i with
      | (j, none) => (j, none)
      | (j, some F) => if C j = 38 then match prs C f 1 d (j + 1) with
        | (k, none) => (k, none)
        | (k, some G) => (k, some (fun x => F x && G x)) else (j, some F)
    else match prs C f 1 d i with
      | (j, none) => (j, none)
      | (j, some F) => if C j = 124 then match prs C f 2 d (j + 1) with
        | (k, none) => (k, none)
        | (k, some G) => (k, some (fun x => F x || G x)) else (j, some F)
/-! the signs end at K -/
def TxE (C : Nat → Int32) (K : Nat) : Prop := K ≤ 100 ∧ (∀ i, i < K → inR (C i) 0 127) ∧ ∀ i, K ≤ i → C i = -1
theorem tx_in {C : Nat → Int32} {K i : Nat} {b : Int32} (h : TxE C K) (hc : C i = b) (hb : b ≠ -1) : i < K := by
  rcases Nat.lt_or_ge i K with e | e
  · exact e
  · exact absurd (hc.symm.trans (h.2.2 i e)) hb
theorem tx_dg {C : Nat → Int32} {K i : Nat} (h : TxE C K) (hc : dgB (C i) = true) : i < K := by
  rcases Nat.lt_or_ge i K with e | e
  · exact e
  · rw [h.2.2 i e] at hc; exact absurd hc (by decide)
theorem pNm_b {C : Nat → Int32} {K : Nat} (h : TxE C K) {i : Nat} (hi : i ≤ K) : i ≤ (pNm C i).1 ∧ (pNm C i).1 ≤ K ∧ ∀ n, (pNm C i).2 = some n → n < 100 ∧ i < (pNm C i).1 := by
  unfold pNm
  by_cases c1 : dgB (C i) = true
  · have k1 := tx_dg h c1
    have v1 := (dv_of c1).2.1
    rw [if_pos c1]
    by_cases c2 : dgB (C (i + 1)) = true
    · have k2 := tx_dg h c2
      have v2 := (dv_of c2).2.1
      rw [if_pos c2]
      refine ⟨by show i ≤ i + 2; omega, by show i + 2 ≤ K; omega, fun n hn => ?_⟩
      have : 10 * dvN (C i) + dvN (C (i + 1)) = n := Option.some.inj hn
      exact ⟨by omega, by show i < i + 2; omega⟩
    · rw [if_neg c2]
      refine ⟨by show i ≤ i + 1; omega, by show i + 1 ≤ K; omega, fun n hn => ?_⟩
      have : dvN (C i) = n := Option.some.inj hn
      exact ⟨by omega, by show i < i + 1; omega⟩
  · rw [if_neg c1]
    exact ⟨Nat.le_refl i, hi, fun n hn => (by cases hn)⟩
theorem leN_of {c : Int32} {q : Nat} (h : leN c = some q) : q < 9 ∧ c = ltF q := by
  unfold leN at h
  by_cases c0 : c = 102
  · rw [if_pos c0] at h; cases h; exact ⟨by omega, c0⟩
  · rw [if_neg c0] at h
    by_cases c1 : c = 104
    · rw [if_pos c1] at h; cases h; exact ⟨by omega, c1⟩
    · rw [if_neg c1] at h
      by_cases c2 : c = 112
      · rw [if_pos c2] at h; cases h; exact ⟨by omega, c2⟩
      · rw [if_neg c2] at h
        by_cases c3 : c = 119
        · rw [if_pos c3] at h; cases h; exact ⟨by omega, c3⟩
        · rw [if_neg c3] at h
          by_cases c4 : c = 108
          · rw [if_pos c4] at h; cases h; exact ⟨by omega, c4⟩
          · rw [if_neg c4] at h
            by_cases c5 : c = 115
            · rw [if_pos c5] at h; cases h; exact ⟨by omega, c5⟩
            · rw [if_neg c5] at h
              by_cases c6 : c = 97
              · rw [if_pos c6] at h; cases h; exact ⟨by omega, c6⟩
              · rw [if_neg c6] at h
                by_cases c7 : c = 107
                · rw [if_pos c7] at h; cases h; exact ⟨by omega, c7⟩
                · rw [if_neg c7] at h
                  by_cases c8 : c = 116
                  · rw [if_pos c8] at h; cases h; exact ⟨by omega, c8⟩
                  · rw [if_neg c8] at h; cases h
theorem siN_of {c : Int32} {q : Nat} (h : siN c = some q) : q < 3 ∧ c = nI (60 + q) := by
  unfold siN at h
  by_cases c0 : c = 60
  · rw [if_pos c0] at h; cases h; exact ⟨by omega, c0⟩
  · rw [if_neg c0] at h
    by_cases c1 : c = 61
    · rw [if_pos c1] at h; cases h; exact ⟨by omega, c1⟩
    · rw [if_neg c1] at h
      by_cases c2 : c = 62
      · rw [if_pos c2] at h; cases h; exact ⟨by omega, c2⟩
      · rw [if_neg c2] at h; cases h
theorem lt_ne (q : Nat) (hq : q < 9) : ltF q ≠ -1 := by
  have e : q = 0 ∨ q = 1 ∨ q = 2 ∨ q = 3 ∨ q = 4 ∨ q = 5 ∨ q = 6 ∨ q = 7 ∨ q = 8 := by omega
  rcases e with rfl | rfl | rfl | rfl | rfl | rfl | rfl | rfl | rfl <;> decide
theorem pTs_b {C : Nat → Int32} {K : Nat} (h : TxE C K) {i : Nat} (hi : i ≤ K) : i ≤ (pTs C i).1 ∧ (pTs C i).1 ≤ K ∧ ∀ q sg n, (pTs C i).2 = some (q, sg, n) → q < 9 ∧ sg < 3 ∧ n < 100 ∧ i + 3 ≤ (pTs C i).1 := by
  unfold pTs
  cases h1 : leN (C i) with
  | none => exact ⟨Nat.le_refl i, hi, fun q sg n hn => (by cases hn)⟩
  | some q =>
    obtain ⟨q9, eq⟩ := leN_of h1
    have k1 : i < K := tx_in h eq (lt_ne q q9)
    show i ≤ (match siN (C (i + 1)) with
      | none => (i + 1, none)
      | some sg => match pNm C (i + 2) with
        | (j, none) => (j, none)
        | (j, some n) => (j, some (q, sg, n)) : Nat × Option (Nat × Nat × Nat)).1 ∧ _
    cases h2 : siN (C (i + 1)) with
    | none => exact ⟨by show i ≤ i + 1; omega, by show i + 1 ≤ K; omega, fun q sg n hn => (by cases hn)⟩
    | some sg =>
      obtain ⟨s3, es⟩ := siN_of h2
      have k2 : i + 1 < K := tx_in h es (fun q => by
        have := congrArg Int32.toInt q
        rw [nI_toInt (by omega)] at this
        have e1 : (-1 : Int32).toInt = -1 := by decide
        omega)
      obtain ⟨b1, b2, b3⟩ := pNm_b h (show i + 2 ≤ K by omega)
      show i ≤ (match pNm C (i + 2) with
        | (j, none) => (j, none)
        | (j, some n) => (j, some (q, sg, n)) : Nat × Option (Nat × Nat × Nat)).1 ∧ _
      cases h3 : pNm C (i + 2) with
      | mk j r =>
        rw [h3] at b1 b2 b3
        cases r with
        | none => exact ⟨by show i ≤ j; have : i + 2 ≤ j := b1; omega, b2, fun q sg n hn => (by cases hn)⟩
        | some n =>
          obtain ⟨b4, b5⟩ := b3 n rfl
          refine ⟨by show i ≤ j; have : i + 2 ≤ j := b1; omega, b2, fun q' sg' n' hn => ?_⟩
          have hn : (q, sg, n) = (q', sg', n') := Option.some.inj hn
          cases hn
          exact ⟨q9, s3, b4, b5⟩
theorem prs_b {C : Nat → Int32} {K : Nat} (h : TxE C K) : ∀ (f mode d i : Nat), i ≤ K → i ≤ (prs C f mode d i).1 ∧ (prs C f mode d i).1 ≤ K := by
  intro f
  induction f with
  | zero => intro mode d i hi; exact ⟨Nat.le_refl i, hi⟩
  | succ f ih =>
    intro mode d i hi
    unfold prs
    by_cases m0 : mode = 0
    · rw [if_pos m0]
      by_cases c1 : d < 4 ∧ C i = 33
      · rw [if_pos c1]
        have k1 := tx_in h c1.2 (by decide)
        obtain ⟨a, b⟩ := ih 0 (d + 1) (i + 1) (by omega)
        cases hp : prs C f 0 (d + 1) (i + 1) with
        | mk j r =>
          rw [hp] at a b
          have a : i + 1 ≤ j := a
          have b : j ≤ K := b
          cases r with
          | none => exact ⟨by show i ≤ j; omega, b⟩
          | some F => exact ⟨by show i ≤ j; omega, b⟩
      · rw [if_neg c1]
        by_cases c2 : d < 4 ∧ C i = 40
        · rw [if_pos c2]
          have k1 := tx_in h c2.2 (by decide)
          obtain ⟨a, b⟩ := ih 2 (d + 1) (i + 1) (by omega)
          cases hp : prs C f 2 (d + 1) (i + 1) with
          | mk j r =>
            rw [hp] at a b
            have a : i + 1 ≤ j := a
            have b : j ≤ K := b
            cases r with
            | none => exact ⟨by show i ≤ j; omega, b⟩
            | some F =>
              show i ≤ (if C j = 41 then (j + 1, some F) else (j, none) : Nat × Option ((Nat → Int32) → Bool)).1 ∧ (if C j = 41 then (j + 1, some F) else (j, none) : Nat × Option ((Nat → Int32) → Bool)).1 ≤ K
              by_cases c3 : C j = 41
              · have k3 := tx_in h c3 (by decide)
                rw [if_pos c3]
                exact ⟨by show i ≤ j + 1; omega, by show j + 1 ≤ K; omega⟩
              · rw [if_neg c3]
                exact ⟨by show i ≤ j; omega, b⟩
        · rw [if_neg c2]
          obtain ⟨a, b, -⟩ := pTs_b h hi
          cases hp : pTs C i with
          | mk j r =>
            rw [hp] at a b
            cases r with
            | none => exact ⟨a, b⟩
            | some t => exact ⟨a, b⟩
    · rw [if_neg m0]
      have two : ∀ (m1 m2 : Nat) (b : Int32) (op : ((Nat → Int32) → Bool) → ((Nat → Int32) → Bool) → (Nat → Int32) → Bool), b ≠ -1 → i ≤ (match prs C f m1 d i with
        | (j, none) => (j, none)
        | (j, some F) => if C j = b then match prs C f m2 d (j + 1) with
          | (k, none) => (k, none)
          | (k, some G) => (k, some (op F G)) else (j, some F) : Nat × Option ((Nat → Int32) → Bool)).1 ∧ (match prs C f m1 d i with
        | (j, none) => (j, none)
        | (j, some F) => if C j = b then match prs C f m2 d (j + 1) with
          | (k, none) => (k, none)
          | (k, some G) => (k, some (op F G)) else (j, some F) : Nat × Option ((Nat → Int32) → Bool)).1 ≤ K := by
        intro m1 m2 b op hb
        obtain ⟨a, b'⟩ := ih m1 d i hi
        cases hp : prs C f m1 d i with
        | mk j r =>
          rw [hp] at a b'
          have a : i ≤ j := a
          have b' : j ≤ K := b'
          cases r with
          | none => exact ⟨a, b'⟩
          | some F =>
            show i ≤ (if C j = b then match prs C f m2 d (j + 1) with
              | (k, none) => (k, none)
              | (k, some G) => (k, some (op F G)) else (j, some F) : Nat × Option ((Nat → Int32) → Bool)).1 ∧ (if C j = b then match prs C f m2 d (j + 1) with
              | (k, none) => (k, none)
              | (k, some G) => (k, some (op F G)) else (j, some F) : Nat × Option ((Nat → Int32) → Bool)).1 ≤ K
            by_cases c3 : C j = b
            · have k3 := tx_in h c3 hb
              rw [if_pos c3]
              obtain ⟨a2, b2⟩ := ih m2 d (j + 1) (by omega)
              cases hp2 : prs C f m2 d (j + 1) with
              | mk k r2 =>
                rw [hp2] at a2 b2
                have a2 : j + 1 ≤ k := a2
                have b2 : k ≤ K := b2
                cases r2 with
                | none => exact ⟨by show i ≤ k; omega, b2⟩
                | some G => exact ⟨by show i ≤ k; omega, b2⟩
            · rw [if_neg c3]
              exact ⟨a, b'⟩
      by_cases m1 : mode = 1
      · rw [if_pos m1]
        exact two 0 1 38 (fun F G x => F x && G x) (by decide)
      · rw [if_neg m1]
        exact two 1 2 124 (fun F G x => F x || G x) (by decide)
