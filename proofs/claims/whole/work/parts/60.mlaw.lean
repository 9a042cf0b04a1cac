/-! PURE: a law; the model reads one -/
def pLw (C : Nat → Int32) (K : Nat) : Nat → Nat → Nat × Option (List ClT)
  | 0, i => (i, none)
  | r + 1, i => match pCl C i with
    | (j, none) => (j, none)
    | (j, some x) => if j = K then (j, some [x]) else if r = 0 then (j, none) else if C j = 59 then match pLw C K r (j + 1) with
      | (q, none) => (q, none)
      | (q, some xs) => (q, some (x :: xs)) else (j, none)
theorem pLw_s (C : Nat → Int32) (K r i : Nat) : pLw C K (r + 1) i = match pCl C i with
    | (j, none) => (j, none)
    | (j, some x) => if j = K then (j, some [x]) else if r = 0 then (j, none) else if C j = 59 then match pLw C K r (j + 1) with
      | (q, none) => (q, none)
      | (q, some xs) => (q, some (x :: xs)) else (j, none) := rfl
theorem pLw_b {C : Nat → Int32} {K : Nat} (h : TxE C K) : ∀ (r i : Nat), i ≤ K → (pLw C K r i).1 ≤ K ∧ ∀ xs, (pLw C K r i).2 = some xs → xs.length ≤ r ∧ ∀ x, x ∈ xs → x.1 < 7 ∧ x.2.1 < 100
  | 0, i, hi => ⟨hi, fun xs hx => (by cases hx)⟩
  | r + 1, i, hi => by
    obtain ⟨b1, b2, b3⟩ := pCl_b h hi
    unfold pLw
    cases hc : pCl C i with
    | mk j o =>
      rw [hc] at b1 b2 b3
      have b2 : j ≤ K := b2
      cases o with
      | none => exact ⟨b2, fun xs hx => (by cases hx)⟩
      | some x =>
        have b3 := b3 x rfl
        show (if j = K then (j, some [x]) else if r = 0 then (j, none) else if C j = 59 then match pLw C K r (j + 1) with
          | (q, none) => (q, none)
          | (q, some xs) => (q, some (x :: xs)) else (j, none) : Nat × Option (List ClT)).1 ≤ K ∧ ∀ xs, (if j = K then (j, some [x]) else if r = 0 then (j, none) else if C j = 59 then match pLw C K r (j + 1) with
          | (q, none) => (q, none)
          | (q, some xs) => (q, some (x :: xs)) else (j, none) : Nat × Option (List ClT)).2 = some xs → xs.length ≤ r + 1 ∧ ∀ x, x ∈ xs → x.1 < 7 ∧ x.2.1 < 100
        by_cases c1 : j = K
        · rw [if_pos c1]
          refine ⟨b2, fun xs hx => ?_⟩
          have hx : [x] = xs := Option.some.inj hx
          subst hx
          refine ⟨by show 0 + 1 ≤ r + 1; omega, fun y hy => ?_⟩
          have hy : y = x := List.mem_singleton.mp hy
          rw [hy]; exact b3
        · rw [if_neg c1]
          by_cases c2 : r = 0
          · rw [if_pos c2]
            exact ⟨b2, fun xs hx => (by cases hx)⟩
          · rw [if_neg c2]
            by_cases c3 : C j = 59
            · rw [if_pos c3]
              have k1 := tx_in h c3 (by decide)
              obtain ⟨d1, d2⟩ := pLw_b h r (j + 1) (by omega)
              cases hp : pLw C K r (j + 1) with
              | mk q o =>
                rw [hp] at d1 d2
                cases o with
                | none => exact ⟨d1, fun xs hx => (by cases hx)⟩
                | some ys =>
                  obtain ⟨d3, d4⟩ := d2 ys rfl
                  refine ⟨d1, fun xs hx => ?_⟩
                  have hx : x :: ys = xs := Option.some.inj hx
                  subst hx
                  refine ⟨by rw [List.length_cons]; omega, fun y hy => ?_⟩
                  rcases List.mem_cons.mp hy with e | e
                  · rw [e]; exact b3
                  · exact d4 y e
            · rw [if_neg c3]
              exact ⟨b2, fun xs hx => (by cases hx)⟩
theorem HdM_k {N k c k' c' : Nat} {m m' : STt} (hF : FpK N k' c' m m') : ∀ (l : List TkT) (e : Nat), e + l.length ≤ 100 * N + c' → HdM m e l → HdM m' e l
  | [], _, _, _ => trivial
  | t :: l, e, he, h => by
    rw [List.length_cons] at he
    refine ⟨?_, HdM_k (k := k) (c := c) hF l (e + 1) (by omega) h.2⟩
    rw [hF.2.2.2.2.1 64 e (by omega) (by omega) (by omega), hF.2.2.2.2.1 65 e (by omega) (by omega) (by omega), hF.2.2.2.2.1 66 e (by omega) (by omega) (by omega), hF.2.2.2.2.1 67 e (by omega) (by omega) (by omega)]
    exact h.1
/-- the end of law(): the text is let go -/
def endM (m : STt) : Option (STt × Int32) := fX11_law_j96 m
section ML
variable {K N : Nat} {C : Nat → Int32}
/-- what the model's law leaves, and what it answers -/
theorem ml_41 : ∀ (r i c k fu : Nat) (m : STt) (x : Nat × Option ClT), k + r = 10 → 0 < k → r + 1 < fu → i ≤ K → c ≤ i → TxM m K N C → (∀ k, k < 31 → m.2.1 68 0 k = wordsF k) → m.1 37 0 = nI i → m.1 38 0 = -1 → m.1 39 0 = nI c → m.2.1 59 0 N = nI k → (i = K → ∃ m', iterO (fun Q z => fX11_law_l41c Q z) fu m = fX11_law_j96 m' ∧ FpK N k c m m' ∧ m'.1 38 0 = -1 ∧ m' = m) ∧ (i ≠ K → (r = 0 ∨ C i ≠ 59) → ∃ m', iterO (fun Q z => fX11_law_l41c Q z) fu m = fX11_law_j96 m' ∧ FpK N k c m m' ∧ m'.1 38 0 = nI i) ∧ (i ≠ K → r ≠ 0 → C i = 59 → ((pLw C K r (i + 1)).2 = none → ∃ m', iterO (fun Q z => fX11_law_l41c Q z) fu m = fX11_law_j96 m' ∧ FpK N k c m m' ∧ m'.1 38 0 = nI (pLw C K r (i + 1)).1) ∧ (∀ xs, (pLw C K r (i + 1)).2 = some xs → ∃ m' e, iterO (fun Q z => fX11_law_l41c Q z) fu m = fX11_law_j96 m' ∧ FpK N k c m m' ∧ m'.1 38 0 = -1 ∧ m'.2.1 59 0 N = nI (k + xs.length) ∧ RmL m' N (10 * N + k) c xs e ∧ e ≤ 100)) := by
  intro r
  induction r with
  | zero =>
    intro i c k fu m x hkr hk0 hfu hi hci h hco h37 h38 h39 h59
    have hK := h.1.1
    have hN := h.2.2.2.2
    obtain ⟨fu, rfl⟩ : ∃ j, fu = j + 1 := ⟨fu - 1, by omega⟩
    have h10 : k = 10 := by omega
    subst h10
    have hh := m_here h hi h37 h38 (b := 59) (by decide)
    have e81 : iterO (fun Q z => fX11_law_l41c Q z) (fu + 1) m = fX11_law_j81 m := by
      rw [iterO_succ]
      show fX11_law_l41c _ m = _
      unfold fX11_law_l41c
      rw [hh, b_if]
      by_cases q : C i = 59
      · rw [if_pos q, h.2.2.2.1, if_pos (inB_nI (n := 7) (by omega) (by omega)), nI_c (by omega), h59, if_pos (by decide)]
      · rw [if_neg q]
    rw [e81]
    unfold fX11_law_j81
    rw [h.2.1, h37]
    refine ⟨fun e => ⟨m, ?_, ⟨fun _ _ _ _ _ => rfl, fun _ _ _ => rfl, fun _ _ => rfl, fun _ _ _ _ _ => rfl, fun _ _ _ _ _ => rfl, rfl⟩, h38, rfl⟩, fun e _ => ⟨sS m 38 0 (nI i), ?_, FpK_S N 10 c m (by omega) _, sS_s _ _ _ _⟩, fun _ e _ => absurd rfl e⟩
    · rw [if_pos (nI_le (by omega) (by omega))]
    · rw [if_neg (nI_ge (by omega) (by omega)), m_faulty h38 h37, bnd1_e]
  | succ r ih =>
    intro i c k fu m x hkr hk0 hfu hi hci h hco h37 h38 h39 h59
    have hK := h.1.1
    have hN := h.2.2.2.2
    obtain ⟨fu, rfl⟩ : ∃ j, fu = j + 1 := ⟨fu - 1, by omega⟩
    have hh := m_here h hi h37 h38 (b := 59) (by decide)
    by_cases q : C i = 59
    · have k1 := tx_in h.1 q (by decide)
      refine ⟨fun e => by omega, fun e e2 => ?_, fun e _ _ => ?_⟩
      · rcases e2 with e2 | e2
        · omega
        · exact absurd q e2
      · have f0 := FpK_S N k c m (a := 37) (by omega) (nI (i + 1))
        have h0 := TxM_K h f0
        have hcl := m_cl (c := c) (k := k) h0 hco (i := i + 1) (by omega) (by omega) (by omega) (sS_s _ _ _ _) (by rw [sS_n _ _ (by omega)]; exact h38) (by rw [sS_n _ _ (by omega)]; exact h39) h59
        have e41 : iterO (fun Q z => fX11_law_l41c Q z) (fu + 1) m = bnd1 (fX11_clause (sS m 37 0 (nI (i + 1)))) fun g_7 => iterO (fun Q z => fX11_law_l41c Q z) fu g_7 := by
          rw [iterO_succ]
          show fX11_law_l41c _ m = _
          unfold fX11_law_l41c
          rw [hh, b_if, if_pos q, h.2.2.2.1, if_pos (inB_nI (n := 7) (by omega) (by omega)), nI_c (by omega), h59, if_neg (show ¬ (10 : Int32) ≤ nI k from nI_ge (b := 10) (by omega) (by omega)), h37, nI_1]
        rw [e41]
        obtain ⟨pb1, pb2, pb3⟩ := pCl_b h.1 (show i + 1 ≤ K by omega)
        obtain ⟨hc1, hc2⟩ := hcl
        cases hp : pCl C (i + 1) with
        | mk j o =>
          rw [hp] at hc1 hc2 pb1 pb2 pb3
          have pb1 : i + 1 ≤ j := pb1
          have pb2 : j ≤ K := pb2
          cases o with
          | none =>
            obtain ⟨m1, a1, a2, a3⟩ := hc1 rfl
            have a3 : m1.1 38 0 = nI j := a3
            have eL : pLw C K (r + 1) (i + 1) = (j, none) := by rw [pLw_s, hp]
            rw [eL]
            refine ⟨fun _ => ⟨m1, ?_, f0.tr a2 (Nat.le_refl _) (Nat.le_refl _), a3⟩, fun xs hx => (by cases hx)⟩
            obtain ⟨fu, rfl⟩ : ∃ j, fu = j + 1 := ⟨fu - 1, by omega⟩
            rw [a1, bnd1_e, iterO_succ]
            show fX11_law_l41c _ m1 = _
            unfold fX11_law_l41c fX11_law_j81
            rw [m_hereF (show j < 1000 by omega) a3, bnd1_e, if_pos rfl, m_faultyF (show j < 1000 by omega) a3, bnd1_e]
            split <;> rfl
          | some y =>
            obtain ⟨m1, l, a1, a2, a37, a38, a39, al, a59, a60, a61, a62, a63, ah⟩ := hc2 y rfl
            obtain ⟨y7, y100⟩ := pb3 y rfl
            have al : c + l.length ≤ j := al
            have f1 := f0.tr a2 (Nat.le_refl _) (Nat.le_refl _)
            have h1 := TxM_K h f1
            have hco1 : ∀ k, k < 31 → m1.2.1 68 0 k = wordsF k := fun k hk => by rw [f1.2.1 68 0 (by omega)]; exact hco k hk
            have ih := ih j (c + l.length) (k + 1) fu m1 x (by omega) (by omega) (by omega) pb2 al h1 hco1 a37 a38 a39 a59
            obtain ⟨i1, i2, i3⟩ := ih
            rw [a1, bnd1_e]
            have grow : ∀ {m'}, FpK N (k + 1) (c + l.length) m1 m' → FpK N k c m m' := fun hF => f1.tr hF (by omega) (by omega)
            have row : ∀ {m' : STt} {xs : List ClT} {e : Nat}, FpK N (k + 1) (c + l.length) m1 m' → RmL m' N (10 * N + (k + 1)) (c + l.length) xs e → RmL m' N (10 * N + k) c (y :: xs) e := fun {m' xs e} hF hr => ⟨l, y7, y100, by rw [hF.2.2.2.1 60 _ (by omega) (by omega) (by omega)]; exact a60, by rw [hF.2.2.2.1 61 _ (by omega) (by omega) (by omega)]; exact a61, by rw [hF.2.2.2.1 62 _ (by omega) (by omega) (by omega)]; exact a62, by rw [hF.2.2.2.1 63 _ (by omega) (by omega) (by omega)]; exact a63, by omega, fun hw => ⟨HdM_k (k := 0) (c := 0) hF l _ (by omega) (ah hw).1, (ah hw).2⟩, hr⟩
            have eL : pLw C K (r + 1) (i + 1) = (if j = K then (j, some [y]) else if r = 0 then (j, none) else if C j = 59 then match pLw C K r (j + 1) with
              | (q, none) => (q, none)
              | (q, some xs) => (q, some (y :: xs)) else (j, none) : Nat × Option (List ClT)) := by rw [pLw_s, hp]
            rw [eL]
            by_cases c1 : j = K
            · obtain ⟨m', g1, g2, g3, g4⟩ := i1 c1
              rw [if_pos c1]
              refine ⟨fun hn => (by cases hn), fun xs hx => ?_⟩
              have hx : [y] = xs := Option.some.inj hx
              subst hx
              refine ⟨m', c + l.length, g1, grow g2, g3, by rw [g4]; exact a59, row g2 rfl, by omega⟩
            · rw [if_neg c1]
              by_cases c2 : r = 0
              · obtain ⟨m', g1, g2, g3⟩ := i2 c1 (Or.inl c2)
                rw [if_pos c2]
                exact ⟨fun _ => ⟨m', g1, grow g2, g3⟩, fun xs hx => (by cases hx)⟩
              · rw [if_neg c2]
                by_cases c3 : C j = 59
                · obtain ⟨i4, i5⟩ := i3 c1 c2 c3
                  rw [if_pos c3]
                  cases hp2 : pLw C K r (j + 1) with
                  | mk u o =>
                    rw [hp2] at i4 i5
                    cases o with
                    | none =>
                      obtain ⟨m', g1, g2, g3⟩ := i4 rfl
                      exact ⟨fun _ => ⟨m', g1, grow g2, g3⟩, fun xs hx => (by cases hx)⟩
                    | some ys =>
                      obtain ⟨m', e, g1, g2, g3, g4, g5, g6⟩ := i5 ys rfl
                      refine ⟨fun hn => (by cases hn), fun xs hx => ?_⟩
                      have hx : y :: ys = xs := Option.some.inj hx
                      subst hx
                      refine ⟨m', e, g1, grow g2, g3, ?_, row g2 g5, g6⟩
                      rw [g4, List.length_cons]; exact congrArg nI (by omega)
                · obtain ⟨m', g1, g2, g3⟩ := i2 c1 (Or.inr c3)
                  rw [if_neg c3]
                  exact ⟨fun _ => ⟨m', g1, grow g2, g3⟩, fun xs hx => (by cases hx)⟩
    · have e81 : iterO (fun Q z => fX11_law_l41c Q z) (fu + 1) m = fX11_law_j81 m := by
        rw [iterO_succ]
        show fX11_law_l41c _ m = _
        unfold fX11_law_l41c
        rw [hh, b_if, if_neg q]
      rw [e81]
      unfold fX11_law_j81
      rw [h.2.1, h37]
      refine ⟨fun e => ⟨m, ?_, ⟨fun _ _ _ _ _ => rfl, fun _ _ _ => rfl, fun _ _ => rfl, fun _ _ _ _ _ => rfl, fun _ _ _ _ _ => rfl, rfl⟩, h38, rfl⟩, fun e _ => ⟨sS m 38 0 (nI i), ?_, FpK_S N k c m (by omega) _, sS_s _ _ _ _⟩, fun _ _ e => absurd e q⟩
      · rw [if_pos (nI_le (by omega) (by omega))]
      · rw [if_neg (nI_ge (by omega) (by omega)), m_faulty h38 h37, bnd1_e]
end ML
