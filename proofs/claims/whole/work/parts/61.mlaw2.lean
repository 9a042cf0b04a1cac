/-! PURE: the model's law() -/
theorem j96_F {m : STt} {j : Nat} (hj : j < 1000) (h38 : m.1 38 0 = nI j) : fX11_law_j96 m = some (sS m 34 0 0, -10 - nI j) := by
  unfold fX11_law_j96
  rw [show (sS m 34 0 0).1 38 0 = nI j from (sS_n m 0 (by omega)).trans h38, if_neg (nI_pos (show j < 2 ^ 31 by omega))]
theorem j96_O {m : STt} {N : Nat} (h38 : m.1 38 0 = -1) (h35 : m.1 35 0 = nI N) : fX11_law_j96 m = some (sS (sS (sS m 34 0 0) 36 0 (nI N)) 35 0 (nI (N + 1)), nI N) := by
  unfold fX11_law_j96
  rw [show (sS m 34 0 0).1 38 0 = -1 from (sS_n m 0 (by omega)).trans h38, if_pos (by decide), show (sS m 34 0 0).1 35 0 = nI N from (sS_n m 0 (by omega)).trans h35, show (sS (sS m 34 0 0) 36 0 (nI N)).1 35 0 = nI N from (sS_n _ _ (by omega)).trans ((sS_n m 0 (by omega)).trans h35), nI_1, sS_s, nI_sub1 (by omega), Nat.add_sub_cancel]
theorem m_law {m : STt} {K N : Nat} {C : Nat → Int32} (h : TxM m K N C) (hco : ∀ k, k < 31 → m.2.1 68 0 k = wordsF k) : ((pLw C K 10 0).2 = none → ∃ m', fX11_law m = some (sS m' 34 0 0, -10 - nI (pLw C K 10 0).1) ∧ FpK N 0 0 m m') ∧ (∀ xs, (pLw C K 10 0).2 = some xs → ∃ m' e, fX11_law m = some (sS (sS (sS m' 34 0 0) 36 0 (nI N)) 35 0 (nI (N + 1)), nI N) ∧ FpK N 0 0 m m' ∧ m'.2.1 59 0 N = nI xs.length ∧ RmL m' N (10 * N) 0 xs e ∧ e ≤ 100) := by
  have hK := h.1.1
  have hN := h.2.2.2.2
  obtain ⟨m0, hm0⟩ : ∃ m0, sA1 (sS (sS (sS m 37 0 0) 38 0 (-1)) 39 0 0) 59 0 N 0 = m0 := ⟨_, rfl⟩
  have f0 : FpK N 0 0 m m0 := by
    rw [← hm0]
    exact (((FpK_S N 0 0 m (by omega) _).tr (FpK_S N 0 0 _ (by omega) _) (Nat.le_refl _) (Nat.le_refl _)).tr (FpK_S N 0 0 _ (by omega) _) (Nat.le_refl _) (Nat.le_refl _)).tr (FpK_9 N 0 0 _ _) (Nat.le_refl _) (Nat.le_refl _)
  have h0 := TxM_K h f0
  have b37 : m0.1 37 0 = nI 0 := by
    rw [← hm0]; show (sS (sS (sS m 37 0 0) 38 0 (-1)) 39 0 0).1 37 0 = nI 0
    rw [sS_n _ _ (by omega), sS_n _ _ (by omega), sS_s]; rfl
  have b38 : m0.1 38 0 = -1 := by
    rw [← hm0]; show (sS (sS (sS m 37 0 0) 38 0 (-1)) 39 0 0).1 38 0 = -1
    rw [sS_n _ _ (by omega), sS_s]
  have b39 : m0.1 39 0 = nI 0 := by
    rw [← hm0]; show (sS (sS (sS m 37 0 0) 38 0 (-1)) 39 0 0).1 39 0 = nI 0
    rw [sS_s]; rfl
  have b59 : m0.2.1 59 0 N = nI 0 := by rw [← hm0, sA1_s, upd_s]; rfl
  have run : fX11_law m = bnd1 (fX11_clause m0) fun g_4 => iterO (fun Q z => fX11_law_l41c Q z) fuelN g_4 := by
    unfold fX11_law
    have e35 : (sS (sS (sS m 37 0 0) 38 0 (-1)) 39 0 0).1 35 0 = nI N := by
      rw [sS_n _ _ (by omega), sS_n _ _ (by omega), sS_n _ _ (by omega)]; exact h.2.2.2.1
    rw [h.2.2.2.1, if_neg (show ¬ nI N = 6 from fun q => by have := (nI_eq (b := 6) (by omega) (by omega)).mp q; omega), e35, if_pos (inB_nI (by omega) (by omega)), nI_c (by omega), hm0]
    rfl
  have hcl := m_cl (c := 0) (k := 0) h0 (fun k hk => by rw [f0.2.1 68 0 (by omega)]; exact hco k hk) (i := 0) (by omega) (by omega) (by omega) b37 b38 b39 b59
  obtain ⟨pb1, pb2, pb3⟩ := pCl_b h.1 (show 0 ≤ K by omega)
  obtain ⟨hc1, hc2⟩ := hcl
  obtain ⟨wb1, wb2⟩ := pLw_b h.1 10 0 (by omega)
  rw [run]
  cases hp : pCl C 0 with
  | mk j o =>
    rw [hp] at hc1 hc2 pb1 pb2 pb3
    have pb2 : j ≤ K := pb2
    cases o with
    | none =>
      obtain ⟨m1, a1, a2, a3⟩ := hc1 rfl
      have a3 : m1.1 38 0 = nI j := a3
      have eL : pLw C K 10 0 = (j, none) := by rw [pLw_s, hp]
      rw [eL]
      refine ⟨fun _ => ⟨m1, ?_, f0.tr a2 (Nat.le_refl _) (Nat.le_refl _)⟩, fun xs hx => (by cases hx)⟩
      rw [a1, bnd1_e, fuel_s, iterO_succ]
      show fX11_law_l41c _ m1 = _
      unfold fX11_law_l41c fX11_law_j81
      rw [m_hereF (show j < 1000 by omega) a3, bnd1_e, if_pos rfl, m_faultyF (show j < 1000 by omega) a3, bnd1_e]
      have e := j96_F (show j < 1000 by omega) a3
      split <;> exact e
    | some y =>
      obtain ⟨m1, l, a1, a2, a37, a38, a39, al, a59, a60, a61, a62, a63, ah⟩ := hc2 y rfl
      obtain ⟨y7, y100⟩ := pb3 y rfl
      have al : 0 + l.length ≤ j := al
      have f1 := f0.tr a2 (Nat.le_refl _) (Nat.le_refl _)
      have h1 := TxM_K h f1
      have hco1 : ∀ k, k < 31 → m1.2.1 68 0 k = wordsF k := fun k hk => by rw [f1.2.1 68 0 (by omega)]; exact hco k hk
      have ih := ml_41 (K := K) (N := N) (C := C) 9 j (0 + l.length) (0 + 1) fuelN m1 (0, none) (by omega) (by omega) (by decide) pb2 al h1 hco1 a37 a38 a39 a59
      obtain ⟨i1, i2, i3⟩ := ih
      rw [a1, bnd1_e]
      have grow : ∀ {m'}, FpK N (0 + 1) (0 + l.length) m1 m' → FpK N 0 0 m m' := fun hF => f1.tr hF (by omega) (by omega)
      have row : ∀ {m' : STt} {xs : List ClT} {e : Nat}, FpK N (0 + 1) (0 + l.length) m1 m' → RmL m' N (10 * N + (0 + 1)) (0 + l.length) xs e → RmL m' N (10 * N) 0 (y :: xs) e := fun {m' xs e} hF hr => ⟨l, y7, y100, by rw [hF.2.2.2.1 60 _ (by omega) (by omega) (by omega)]; exact a60, by rw [hF.2.2.2.1 61 _ (by omega) (by omega) (by omega)]; exact a61, by rw [hF.2.2.2.1 62 _ (by omega) (by omega) (by omega)]; exact a62, by rw [hF.2.2.2.1 63 _ (by omega) (by omega) (by omega)]; exact a63, by omega, fun hw => ⟨HdM_k (k := 0) (c := 0) hF l _ (by omega) (ah hw).1, (ah hw).2⟩, hr⟩
      have e35 : ∀ {m'}, FpK N 0 0 m m' → m'.1 35 0 = nI N := fun hF => (TxM_K h hF).2.2.2.1
      have eL : pLw C K 10 0 = (if j = K then (j, some [y]) else if 9 = 0 then (j, none) else if C j = 59 then match pLw C K 9 (j + 1) with
        | (q, none) => (q, none)
        | (q, some xs) => (q, some (y :: xs)) else (j, none) : Nat × Option (List ClT)) := by
        rw [pLw_s, hp]
        rfl
      rw [eL] at wb1 ⊢
      by_cases c1 : j = K
      · obtain ⟨m', g1, g2, g3, g4⟩ := i1 c1
        rw [if_pos c1]
        refine ⟨fun hn => (by cases hn), fun xs hx => ?_⟩
        have hx : [y] = xs := Option.some.inj hx
        subst hx
        refine ⟨m', 0 + l.length, ?_, grow g2, by rw [g4]; exact a59, row g2 rfl, by omega⟩
        rw [g1]; exact j96_O g3 (e35 (grow g2))
      · rw [if_neg c1] at wb1 ⊢
        rw [if_neg (show ¬ (9 : Nat) = 0 by omega)] at wb1 ⊢
        by_cases c3 : C j = 59
        · obtain ⟨i4, i5⟩ := i3 c1 (by omega) c3
          rw [if_pos c3] at wb1 ⊢
          cases hp2 : pLw C K 9 (j + 1) with
          | mk u o =>
            rw [hp2] at i4 i5 wb1
            cases o with
            | none =>
              have wb1 : u ≤ K := wb1
              obtain ⟨m', g1, g2, g3⟩ := i4 rfl
              refine ⟨fun _ => ⟨m', ?_, grow g2⟩, fun xs hx => (by cases hx)⟩
              rw [g1]; exact j96_F (show u < 1000 by omega) g3
            | some ys =>
              obtain ⟨m', e, g1, g2, g3, g4, g5, g6⟩ := i5 ys rfl
              refine ⟨fun hn => (by cases hn), fun xs hx => ?_⟩
              have hx : y :: ys = xs := Option.some.inj hx
              subst hx
              refine ⟨m', e, ?_, grow g2, ?_, row g2 g5, g6⟩
              · rw [g1]; exact j96_O g3 (e35 (grow g2))
              · rw [g4, List.length_cons]; exact congrArg nI (by omega)
        · obtain ⟨m', g1, g2, g3⟩ := i2 c1 (Or.inr c3)
          rw [if_neg c3] at wb1 ⊢
          refine ⟨fun _ => ⟨m', ?_, grow g2⟩, fun xs hx => (by cases hx)⟩
          rw [g1]; exact j96_F (show j < 1000 by omega) g3
