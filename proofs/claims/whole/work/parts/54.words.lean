/-! PURE: the words -/
def mtW (C : Nat → Int32) : Nat → List Int32 → Nat
  | _, [] => 0
  | i, x :: L => if C i = x then mtW C (i + 1) L + 1 else 0
def wdL (w : Nat) : List Int32 := sL_byt.getD w []
def clW (C : Nat → Int32) (i : Nat) : Nat → Nat → Nat → Nat × Option Nat
  | 0, most, _ => (i + most, none)
  | r + 1, most, w => if mtW C i (wdL w) = (wdL w).length then (i + (wdL w).length, some w) else clW C i r (max most (mtW C i (wdL w))) (w + 1)
def moW (C : Nat → Int32) (i : Nat) : Nat → Nat → Nat → Nat × Option Nat
  | 0, far, _ => (far, none)
  | r + 1, far, w => if mtW C i (wdL w ++ [32]) = (wdL w).length + 1 then (i + (wdL w).length + 1, some w) else moW C i r (max far (i + mtW C i (wdL w ++ [32]))) (w + 1)
theorem mtW_le (C : Nat → Int32) : ∀ (L : List Int32) (i : Nat), mtW C i L ≤ L.length
  | [], _ => Nat.le_refl _
  | x :: L, i => by
    have := mtW_le C L (i + 1)
    show (if C i = x then mtW C (i + 1) L + 1 else 0) ≤ (x :: L).length
    rw [List.length_cons]
    split <;> omega
def hdC (C : Nat → Int32) (i : Nat) : Nat × Option Nat := match clW C i 7 0 0 with
  | (j, none) => (j, none)
  | (j, some w) => if C j = 32 then (j + 1, some w) else (j, none)
set_option maxHeartbeats 4000000 in
theorem hd_eq (C : Nat → Int32) (i : Nat) : hdC C i = moW C i 7 i 0 := by
  have l0 : wdL 0 = [103, 111] := rfl
  have l1 : wdL 1 = [110, 111, 116] := rfl
  have l2 : wdL 2 = [104, 117, 114, 116] := rfl
  have l3 : wdL 3 = [108, 101, 97, 100] := rfl
  have l4 : wdL 4 = [104, 105, 116] := rfl
  have l5 : wdL 5 = [108, 111, 111, 107] := rfl
  have l6 : wdL 6 = [102, 111, 114, 100] := rfl
  unfold hdC
  simp only [clW, moW, l0, l1, l2, l3, l4, l5, l6, mtW, List.cons_append, List.nil_append, List.length_cons, List.length_nil, Nat.zero_add, Nat.add_assoc, Nat.reduceAdd]
  by_cases a0 : C i = 103
  · simp (decide := true) only [a0, if_true, if_false]
    by_cases a1 : C (i + 1) = 111
    · simp (decide := true) only [a1, if_true, if_false]
      by_cases a2 : C (i + 2) = 32
      · simp (decide := true) only [a2, if_true, if_false]
      · simp (decide := true) only [a2, if_true, if_false]
        refine Prod.ext ?_ rfl
        show i + 2 = _
        omega
    · simp (decide := true) only [a1, if_true, if_false]
      refine Prod.ext ?_ rfl
      show i + _ = _
      omega
  · simp only [if_neg a0]
    by_cases b0 : C i = 110
    · simp (decide := true) only [b0, if_true, if_false]
      by_cases a1 : C (i + 1) = 111
      · simp (decide := true) only [a1, if_true, if_false]
        by_cases a2 : C (i + 2) = 116
        · simp (decide := true) only [a2, if_true, if_false]
          by_cases a3 : C (i + 3) = 32
          · simp (decide := true) only [a3, if_true, if_false]
          · simp (decide := true) only [a3, if_true, if_false]
            refine Prod.ext ?_ rfl
            show i + 3 = _
            omega
        · simp (decide := true) only [a2, if_true, if_false]
          refine Prod.ext ?_ rfl
          show i + _ = _
          omega
      · simp (decide := true) only [a1, if_true, if_false]
        refine Prod.ext ?_ rfl
        show i + _ = _
        omega
    · simp only [if_neg b0]
      by_cases c0 : C i = 104
      · simp (decide := true) only [c0, if_true, if_false]
        by_cases a1 : C (i + 1) = 117
        · simp (decide := true) only [a1, if_true, if_false]
          by_cases a2 : C (i + 2) = 114
          · simp (decide := true) only [a2, if_true, if_false]
            by_cases a3 : C (i + 3) = 116
            · simp (decide := true) only [a3, if_true, if_false]
              by_cases a4 : C (i + 4) = 32
              · simp (decide := true) only [a4, if_true, if_false]
              · simp (decide := true) only [a4, if_true, if_false]
                refine Prod.ext ?_ rfl
                show i + 4 = _
                omega
            · simp (decide := true) only [a3, if_true, if_false]
              refine Prod.ext ?_ rfl
              show i + _ = _
              omega
          · simp (decide := true) only [a2, if_true, if_false]
            refine Prod.ext ?_ rfl
            show i + _ = _
            omega
        · simp (decide := true) only [a1, if_true, if_false]
          by_cases d1 : C (i + 1) = 105
          · simp (decide := true) only [d1, if_true, if_false]
            by_cases a2 : C (i + 2) = 116
            · simp (decide := true) only [a2, if_true, if_false]
              by_cases a3 : C (i + 3) = 32
              · simp (decide := true) only [a3, if_true, if_false]
              · simp (decide := true) only [a3, if_true, if_false]
                refine Prod.ext ?_ rfl
                show i + 3 = _
                omega
            · simp (decide := true) only [a2, if_true, if_false]
              refine Prod.ext ?_ rfl
              show i + _ = _
              omega
          · simp (decide := true) only [d1, if_true, if_false]
            refine Prod.ext ?_ rfl
            show i + _ = _
            omega
      · simp only [if_neg c0]
        by_cases e0 : C i = 108
        · simp (decide := true) only [e0, if_true, if_false]
          by_cases a1 : C (i + 1) = 101
          · simp (decide := true) only [a1, if_true, if_false]
            by_cases a2 : C (i + 2) = 97
            · simp (decide := true) only [a2, if_true, if_false]
              by_cases a3 : C (i + 3) = 100
              · simp (decide := true) only [a3, if_true, if_false]
                by_cases a4 : C (i + 4) = 32
                · simp (decide := true) only [a4, if_true, if_false]
                · simp (decide := true) only [a4, if_true, if_false]
                  refine Prod.ext ?_ rfl
                  show i + 4 = _
                  omega
              · simp (decide := true) only [a3, if_true, if_false]
                refine Prod.ext ?_ rfl
                show i + _ = _
                omega
            · simp (decide := true) only [a2, if_true, if_false]
              refine Prod.ext ?_ rfl
              show i + _ = _
              omega
          · simp (decide := true) only [a1, if_true, if_false]
            by_cases d1 : C (i + 1) = 111
            · simp (decide := true) only [d1, if_true, if_false]
              by_cases a2 : C (i + 2) = 111
              · simp (decide := true) only [a2, if_true, if_false]
                by_cases a3 : C (i + 3) = 107
                · simp (decide := true) only [a3, if_true, if_false]
                  by_cases a4 : C (i + 4) = 32
                  · simp (decide := true) only [a4, if_true, if_false]
                  · simp (decide := true) only [a4, if_true, if_false]
                    refine Prod.ext ?_ rfl
                    show i + 4 = _
                    omega
                · simp (decide := true) only [a3, if_true, if_false]
                  refine Prod.ext ?_ rfl
                  show i + _ = _
                  omega
              · simp (decide := true) only [a2, if_true, if_false]
                refine Prod.ext ?_ rfl
                show i + _ = _
                omega
            · simp (decide := true) only [d1, if_true, if_false]
              refine Prod.ext ?_ rfl
              show i + _ = _
              omega
        · simp only [if_neg e0]
          by_cases f0 : C i = 102
          · simp (decide := true) only [f0, if_true, if_false]
            by_cases a1 : C (i + 1) = 111
            · simp (decide := true) only [a1, if_true, if_false]
              by_cases a2 : C (i + 2) = 114
              · simp (decide := true) only [a2, if_true, if_false]
                by_cases a3 : C (i + 3) = 100
                · simp (decide := true) only [a3, if_true, if_false]
                  by_cases a4 : C (i + 4) = 32
                  · simp (decide := true) only [a4, if_true, if_false]
                  · simp (decide := true) only [a4, if_true, if_false]
                    refine Prod.ext ?_ rfl
                    show i + 4 = _
                    omega
                · simp (decide := true) only [a3, if_true, if_false]
                  refine Prod.ext ?_ rfl
                  show i + _ = _
                  omega
              · simp (decide := true) only [a2, if_true, if_false]
                refine Prod.ext ?_ rfl
                show i + _ = _
                omega
            · simp (decide := true) only [a1, if_true, if_false]
              refine Prod.ext ?_ rfl
              show i + _ = _
              omega
          · simp (decide := true) only [f0, if_true, if_false]
            refine Prod.ext ?_ rfl
            show i + _ = _
            omega
