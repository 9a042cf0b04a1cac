/-! PURE: the model's word reader -/
def oW (w : Nat) : Nat := ([0, 3, 7, 12, 17, 21, 26, 31] : List Nat).getD w 0
theorem oW_s : ∀ w, w < 7 → oW (w + 1) = oW w + (wdL w).length + 1 ∧ oW w + (wdL w).length + 1 ≤ 31 := by
  intro w hw
  have e : w = 0 ∨ w = 1 ∨ w = 2 ∨ w = 3 ∨ w = 4 ∨ w = 5 ∨ w = 6 := by omega
  rcases e with rfl | rfl | rfl | rfl | rfl | rfl | rfl <;> decide
theorem words_at : ∀ w : Fin 7, ∀ k : Fin 6, k.val < (wdL w.val).length + 1 → wordsF (oW w.val + k.val) = (wdL w.val ++ [32]).getD k.val 0 := by decide +kernel
theorem wd_32 : ∀ w, w < 7 → ∀ x, x ∈ wdL w → x ≠ 32 ∧ x ≠ -1 := by
  intro w hw
  have e : w = 0 ∨ w = 1 ∨ w = 2 ∨ w = 3 ∨ w = 4 ∨ w = 5 ∨ w = 6 := by omega
  rcases e with rfl | rfl | rfl | rfl | rfl | rfl | rfl <;> decide
section MW
variable {m : STt} {K N i : Nat} {C : Nat → Int32}
theorem mw_last (K9 : (Int32 × Int32 × Int32) → Option (STt × Int32)) (K27 : (Int32 × Int32 × Int32 × Int32) → Option (STt × Int32)) (far p l1 : Nat) (l3 : Int32) (b : Int32) (hf : far < 1000) (hp : p < 1000) : fX11_readWord_l27c K9 K27 m (nI far) l3 (nI l1) (nI p) b 0 = if b = 0 then K9 (nI l1, nI (max far p), l3 + 1) else some (sS m 37 0 (nI p), l3) := by
  unfold fX11_readWord_l27c fX11_readWord_j117
  rw [if_pos rfl]
  by_cases c : b = 0
  · rw [if_pos c, if_pos c]
    by_cases q : p ≤ far
    · rw [if_pos (nI_le q (by omega)), Nat.max_eq_left q]
    · rw [if_neg (nI_ge (by omega) (by omega)), Nat.max_eq_right (by omega)]
  · rw [if_neg c, if_neg c]
theorem mw_skip (K9 : (Int32 × Int32 × Int32) → Option (STt × Int32)) (far p : Nat) (l3 : Int32) (hf : far < 1000) (hp : p < 1000) : ∀ (L : List Int32) (l1 fu : Nat), l1 + L.length + 1 ≤ 31 → (∀ x, x ∈ L → x ≠ 32) → (∀ t, t < L.length + 1 → m.2.1 68 0 (l1 + t) = (L ++ [32]).getD t 0) → L.length + 1 < fu → iterO (fun Q z => fX11_readWord_l27c K9 Q m (nI far) l3 z.1 z.2.1 z.2.2.1 z.2.2.2) fu (nI l1, nI p, 0, 1) = K9 (nI (l1 + L.length + 1), nI (max far p), l3 + 1) := by
  intro L
  induction L with
  | nil =>
    intro l1 fu h31 _ hw hfu
    obtain ⟨fu, rfl⟩ : ∃ j, fu = j + 1 + 1 := ⟨fu - 2, by show fu = fu - 2 + 1 + 1; have : 0 + 1 < fu := hfu; omega⟩
    have h0 : m.2.1 68 0 l1 = 32 := hw 0 (by decide)
    have h31 : l1 + 0 + 1 ≤ 31 := h31
    rw [iterO_succ]
    show fX11_readWord_l27c K9 _ m (nI far) l3 (nI l1) (nI p) 0 1 = K9 (nI (l1 + 0 + 1), nI (max far p), l3 + 1)
    unfold fX11_readWord_l27c fX11_readWord_j68 fX11_readWord_j71 fX11_readWord_j87
    rw [if_neg (by decide), if_pos rfl, if_pos (inB_nI (by omega) (by omega)), nI_c (by omega), h0, if_pos rfl, nI_1, iterO_succ]
    refine (mw_last K9 _ far p (l1 + 1) l3 0 hf hp).trans ?_
    rw [if_pos rfl]
  | cons x L ih =>
    intro l1 fu h31 hx hw hfu
    obtain ⟨fu, rfl⟩ : ∃ j, fu = j + 1 := ⟨fu - 1, by omega⟩
    rw [List.length_cons] at h31 hfu ⊢
    have h0 : m.2.1 68 0 l1 = x := hw 0 (by rw [List.length_cons]; omega)
    have ih := ih (l1 + 1) fu (by omega) (fun y hy => hx y (List.mem_cons_of_mem _ hy)) (fun t ht => by
      have := hw (t + 1) (by rw [List.length_cons]; omega)
      rw [show l1 + 1 + t = l1 + (t + 1) by omega]; exact this) (by omega)
    rw [iterO_succ]
    generalize iterO (fun Q z => fX11_readWord_l27c K9 Q m (nI far) l3 z.1 z.2.1 z.2.2.1 z.2.2.2) fu = Q at ih ⊢
    show fX11_readWord_l27c K9 Q m (nI far) l3 (nI l1) (nI p) 0 1 = _
    unfold fX11_readWord_l27c fX11_readWord_j68 fX11_readWord_j71 fX11_readWord_j87
    rw [if_neg (by decide), if_pos rfl, if_pos (inB_nI (by omega) (by omega)), nI_c (by omega), h0, if_neg (hx x (List.mem_cons_self ..)), nI_1, ih]
    rw [show l1 + 1 + L.length + 1 = l1 + (L.length + 1) + 1 by omega]
theorem mw_word (h : TxM m K N C) (K9 : (Int32 × Int32 × Int32) → Option (STt × Int32)) (far : Nat) (l3 : Int32) (hf : far < 1000) : ∀ (L : List Int32) (l1 p fu : Nat), p < 200 → l1 + L.length + 1 ≤ 31 → (∀ x, x ∈ L → x ≠ 32 ∧ x ≠ -1) → (∀ t, t < L.length + 1 → m.2.1 68 0 (l1 + t) = (L ++ [32]).getD t 0) → L.length + 1 < fu → iterO (fun Q z => fX11_readWord_l27c K9 Q m (nI far) l3 z.1 z.2.1 z.2.2.1 z.2.2.2) fu (nI l1, nI p, 1, 1) = if mtW C p (L ++ [32]) = L.length + 1 then some (sS m 37 0 (nI (p + L.length + 1)), l3) else K9 (nI (l1 + L.length + 1), nI (max far (p + mtW C p (L ++ [32]))), l3 + 1) := by
  have hK := h.1.1
  have step : ∀ (Q : (Int32 × Int32 × Int32 × Int32) → Option (STt × Int32)) (l1 p : Nat) (x : Int32), p < 500 → l1 < 31 → m.2.1 68 0 l1 = x → x ≠ -1 → fX11_readWord_l27c K9 Q m (nI far) l3 (nI l1) (nI p) 1 1 = if C p = x then Q (nI (l1 + 1), nI (p + 1), 1, if x = 32 then 0 else 1) else Q (nI (l1 + 1), nI p, 0, if x = 32 then 0 else 1) := by
    intro Q l1 p x hp hl h0 hx
    unfold fX11_readWord_l27c fX11_readWord_j68 fX11_readWord_j71 fX11_readWord_j87
    rw [if_neg (by decide), if_neg (by decide), h.2.1, if_pos (inB_nI (n := 31) (k := l1) hl (by omega)), if_pos (inB_nI (n := 31) (k := l1) hl (by omega)), nI_c (k := l1) (by omega), h0, nI_1, nI_1]
    have tail : ∀ (a b : Int32), (if x = 32 then Q (nI (l1 + 1), a, b, 0) else Q (nI (l1 + 1), a, b, 1)) = Q (nI (l1 + 1), a, b, if x = 32 then 0 else 1) := by
      intro a b
      by_cases c : x = 32
      · rw [if_pos c, if_pos c]
      · rw [if_neg c, if_neg c]
    rw [tail, tail]
    by_cases c : K ≤ p
    · rw [if_pos (nI_le c (by omega)), if_neg (c := C p = x) (fun q => hx (q.symm.trans (h.1.2.2 p c)))]
    · rw [if_neg (nI_ge (by omega) (by omega)), if_pos (inB_nI (n := 100) (k := p) (by omega) (by omega)), nI_c (k := p) (by omega), h.2.2.1 p (by omega), if_pos (inB_nI (n := 31) (k := l1) hl (by omega))]
  intro L
  induction L with
  | nil =>
    intro l1 p fu hp h31 _ hw hfu
    obtain ⟨fu, rfl⟩ : ∃ j, fu = j + 1 + 1 := ⟨fu - 2, by show fu = fu - 2 + 1 + 1; have : 0 + 1 < fu := hfu; omega⟩
    have h0 : m.2.1 68 0 l1 = 32 := hw 0 (by decide)
    have h31 : l1 + 0 + 1 ≤ 31 := h31
    rw [iterO_succ]
    refine (step _ l1 p 32 (by omega) (by omega) h0 (by decide)).trans ?_
    show _ = if mtW C p [32] = 0 + 1 then some (sS m 37 0 (nI (p + 0 + 1)), l3) else K9 (nI (l1 + 0 + 1), nI (max far (p + mtW C p [32])), l3 + 1)
    rw [if_pos rfl]
    by_cases c : C p = 32
    · have e1 : mtW C p [32] = 1 := by
        show (if C p = 32 then 0 + 1 else 0) = 1
        rw [if_pos c]
      rw [if_pos c, e1, if_pos rfl, iterO_succ]
      refine (mw_last K9 _ far (p + 1) (l1 + 1) l3 1 hf (by omega)).trans ?_
      rw [if_neg (by decide)]
    · have e1 : mtW C p [32] = 0 := by
        show (if C p = 32 then 0 + 1 else 0) = 0
        rw [if_neg c]
      rw [if_neg c, e1, if_neg (by omega), iterO_succ]
      refine (mw_last K9 _ far p (l1 + 1) l3 0 hf (by omega)).trans ?_
      rw [if_pos rfl]
      rfl
  | cons x L ih =>
    intro l1 p fu hp h31 hx hw hfu
    obtain ⟨fu, rfl⟩ : ∃ j, fu = j + 1 := ⟨fu - 1, by omega⟩
    rw [List.length_cons] at h31 hfu ⊢
    have h0 : m.2.1 68 0 l1 = x := hw 0 (by rw [List.length_cons]; omega)
    have hw' : ∀ t, t < L.length + 1 → m.2.1 68 0 (l1 + 1 + t) = (L ++ [32]).getD t 0 := fun t ht => by
      have := hw (t + 1) (by rw [List.length_cons]; omega)
      rw [show l1 + 1 + t = l1 + (t + 1) by omega]; exact this
    have hx0 := hx x (List.mem_cons_self ..)
    rw [iterO_succ]
    refine (step _ l1 p x (by omega) (by omega) h0 hx0.2).trans ?_
    show _ = if (if C p = x then mtW C (p + 1) (L ++ [32]) + 1 else 0) = L.length + 1 + 1 then some (sS m 37 0 (nI (p + (L.length + 1) + 1)), l3) else K9 (nI (l1 + (L.length + 1) + 1), nI (max far (p + (if C p = x then mtW C (p + 1) (L ++ [32]) + 1 else 0))), l3 + 1)
    rw [if_neg hx0.1]
    by_cases c : C p = x
    · have k1 := tx_in h.1 c hx0.2
      rw [if_pos c, if_pos c]
      refine (ih (l1 + 1) (p + 1) fu (by omega) (by omega) (fun y hy => hx y (List.mem_cons_of_mem _ hy)) hw' (by omega)).trans ?_
      by_cases q : mtW C (p + 1) (L ++ [32]) = L.length + 1
      · rw [if_pos q, if_pos (by omega), show p + 1 + L.length + 1 = p + (L.length + 1) + 1 by omega]
      · rw [if_neg q, if_neg (by omega), show l1 + 1 + L.length + 1 = l1 + (L.length + 1) + 1 by omega, show p + 1 + mtW C (p + 1) (L ++ [32]) = p + (mtW C (p + 1) (L ++ [32]) + 1) by omega]
    · rw [if_neg c, if_neg c, if_neg (by omega)]
      refine (mw_skip K9 far p l3 hf (by omega) L (l1 + 1) fu (by omega) (fun y hy => (hx y (List.mem_cons_of_mem _ hy)).1) hw' (by omega)).trans ?_
      rw [show l1 + 1 + L.length + 1 = l1 + (L.length + 1) + 1 by omega]
      rfl
theorem mw_all (h : TxM m K N C) (hco : ∀ k, k < 31 → m.2.1 68 0 k = wordsF k) (hi : i ≤ K) (h37 : m.1 37 0 = nI i) (h38 : m.1 38 0 = -1) : ∀ (r far w fu : Nat), w + r = 7 → r < fu → far ≤ i + 5 → iterO (fun Q z => fX11_readWord_l9c Q m z.1 z.2.1 z.2.2) fu (nI (oW w), nI far, nI w) = (match moW C i r far w with
    | (j, none) => some (sS (sS m 37 0 (nI j)) 38 0 (nI j), -1)
    | (j, some w) => some (sS m 37 0 (nI j), nI w)) := by
  have hK := h.1.1
  intro r
  induction r with
  | zero =>
    intro far w fu hw hf hfar
    obtain ⟨fu, rfl⟩ : ∃ j, fu = j + 1 := ⟨fu - 1, by omega⟩
    have e : w = 7 := by omega
    subst e
    rw [iterO_succ]
    show fX11_readWord_l9c _ m (nI (oW 7)) (nI far) (nI 7) = some (sS (sS m 37 0 (nI far)) 38 0 (nI far), -1)
    unfold fX11_readWord_l9c
    rw [if_pos (by decide), m_faulty (i := far) (by rw [sS_n _ _ (by omega)]; exact h38) (sS_s _ _ _ _), bnd1_e]
  | succ r ih =>
    intro far w fu hw hf hfar
    obtain ⟨fu, rfl⟩ : ∃ j, fu = j + 1 := ⟨fu - 1, by omega⟩
    have hw7 : w < 7 := by omega
    have hl := wd_len w hw7
    obtain ⟨o1, o2⟩ := oW_s w hw7
    have hmt := mtW_le C (wdL w ++ [32]) i
    rw [List.length_append] at hmt
    have hmt : mtW C i (wdL w ++ [32]) ≤ (wdL w).length + 1 := hmt
    have ih := ih (max far (i + mtW C i (wdL w ++ [32]))) (w + 1) fu (by omega) (by omega) (by omega)
    rw [iterO_succ]
    generalize iterO (fun Q z => fX11_readWord_l9c Q m z.1 z.2.1 z.2.2) fu = Q at ih ⊢
    show fX11_readWord_l9c Q m (nI (oW w)) (nI far) (nI w) = _
    unfold fX11_readWord_l9c fX11_readWord_l27
    rw [if_neg (show ¬ (6 : Int32) < nI w from nI_nlt (a := 6) (by omega) (by omega)), h37]
    refine (mw_word h Q far (nI w) (by omega) (wdL w) (oW w) i fuelN (by omega) o2 (wd_32 w hw7) (fun t ht => ?_) (by show _ < 5000; omega)).trans ?_
    · rw [hco _ (by omega)]
      exact words_at ⟨w, hw7⟩ ⟨t, by omega⟩ ht
    · show _ = (match (if mtW C i (wdL w ++ [32]) = (wdL w).length + 1 then (i + (wdL w).length + 1, some w) else moW C i r (max far (i + mtW C i (wdL w ++ [32]))) (w + 1) : Nat × Option Nat) with
        | (j, none) => some (sS (sS m 37 0 (nI j)) 38 0 (nI j), -1)
        | (j, some w) => some (sS m 37 0 (nI j), nI w))
      by_cases c : mtW C i (wdL w ++ [32]) = (wdL w).length + 1
      · rw [if_pos c, if_pos c]
      · rw [if_neg c, if_neg c, ← o1, nI_1]
        exact ih
theorem m_word (h : TxM m K N C) (hco : ∀ k, k < 31 → m.2.1 68 0 k = wordsF k) (hi : i ≤ K) (h37 : m.1 37 0 = nI i) (h38 : m.1 38 0 = -1) : fX11_readWord m = (match hdC C i with
    | (j, none) => some (sS (sS m 37 0 (nI j)) 38 0 (nI j), -1)
    | (j, some w) => some (sS m 37 0 (nI j), nI w)) := by
  rw [hd_eq]
  have := mw_all h hco hi h37 h38 7 i 0 fuelN rfl (by decide) (by omega)
  unfold fX11_readWord fX11_readWord_l9
  rw [h37]
  exact this
end MW
