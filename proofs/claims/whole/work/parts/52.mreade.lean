/-! PURE: the model reads an E -/
def OutM (N c i : Nat) (m : STt) (r : Nat × Option ((Nat → Int32) → Bool)) (out : Option STt) : Prop := (r.2 = none → ∃ m' c', out = some m' ∧ FpM (100 * N + c) m m' ∧ m'.1 37 0 = nI r.1 ∧ m'.1 38 0 = nI r.1 ∧ m'.1 39 0 = nI c' ∧ c ≤ c' ∧ c' + i ≤ r.1 + c) ∧ (∀ F, r.2 = some F → ∃ m' l, out = some m' ∧ FpM (100 * N + c) m m' ∧ m'.1 37 0 = nI r.1 ∧ m'.1 38 0 = -1 ∧ m'.1 39 0 = nI (c + l.length) ∧ l.length + i ≤ r.1 ∧ HdM m' (100 * N + c) l ∧ GdM l F)
section ME
variable {K N : Nat} {C : Nat → Int32} {qB qE qO : STt → Int32 → Option STt}
theorem m_206 {m m1 : STt} {c : Nat} {v : Int32} (h : TxM m1 K N C) (hr : fX11_readNumber m = some (m1, v)) (h39 : m1.1 39 0 = nI c) (hc : c < 100) : ∃ m', fX11_one_j206 qB qE qO m (nI (100 * N + c)) = some m' ∧ FpM (100 * N + c) m1 m' ∧ m'.1 37 0 = m1.1 37 0 ∧ m'.1 38 0 = m1.1 38 0 ∧ m'.1 39 0 = nI (c + 1) ∧ m'.2.1 64 0 (100 * N + c) = nI 0 ∧ m'.2.1 65 0 = m1.2.1 65 0 ∧ m'.2.1 66 0 = m1.2.1 66 0 ∧ m'.2.1 67 0 (100 * N + c) = v := by
  have hN := h.2.2.2.2
  have f7 : FpM (100 * N + c) m1 (sA1 m1 67 0 (100 * N + c) v) := FpM_A _ m1 (by omega) (Nat.le_refl _) v
  have hl := m_lay (TxM_F h f7) (v := 0) (show (sA1 m1 67 0 (100 * N + c) v).1 39 0 = nI c from h39) hc
  refine ⟨sS (sA1 (sA1 m1 67 0 (100 * N + c) v) 64 0 (100 * N + c) (nI 0)) 39 0 (nI (c + 1)), ?_, f7.tr ((FpM_A _ _ (by omega) (Nat.le_refl _) _).tr (FpM_S _ _ (by omega) _) (Nat.le_refl _)) (Nat.le_refl _), ?_, ?_, sS_s _ _ _ _, ?_, ?_, ?_, ?_⟩
  · unfold fX11_one_j206
    have hl : fX11_lay (sA1 m1 67 0 (100 * N + c) v) 0 = _ := hl
    rw [hr, bnd_e, if_pos (inB_nI (show 100 * N + c < 700 by omega) (by omega)), nI_c (by omega), hl, bnd1_e]
  · rw [sS_n _ _ (by omega)]; rfl
  · rw [sS_n _ _ (by omega)]; rfl
  · show (sA1 (sA1 m1 67 0 (100 * N + c) v) 64 0 (100 * N + c) (nI 0)).2.1 64 0 _ = _
    rw [sA1_s, upd_s]
  · show (sA1 (sA1 m1 67 0 (100 * N + c) v) 64 0 (100 * N + c) (nI 0)).2.1 65 0 = _
    rw [sA1_n _ _ (by omega), sA1_n _ _ (by omega)]
  · show (sA1 (sA1 m1 67 0 (100 * N + c) v) 64 0 (100 * N + c) (nI 0)).2.1 66 0 = _
    rw [sA1_n _ _ (by omega), sA1_n _ _ (by omega)]
  · show (sA1 (sA1 m1 67 0 (100 * N + c) v) 64 0 (100 * N + c) (nI 0)).2.1 67 0 _ = _
    rw [sA1_n _ _ (by omega), sA1_s, upd_s]
theorem m_161 {m : STt} {i c : Nat} {s0 : Int32} (h : TxM m K N C) (hi : i ≤ K) (h37 : m.1 37 0 = nI i) (h38 : m.1 38 0 = -1) (hN : 100 * N + c < 700) : fX11_one_j161 qB qE qO m (nI (100 * N + c)) s0 (nI (100 * N + c)) = if siN (C i) = none then fX11_one_j206 qB qE qO (sS (sA1 m 66 0 (100 * N + c) s0) 38 0 (nI i)) (nI (100 * N + c)) else fX11_one_j206 qB qE qO (sS (sA1 m 66 0 (100 * N + c) s0) 37 0 (nI (i + 1))) (nI (100 * N + c)) := by
  have h' := TxM_F h (FpM_A (100 * N + c) m (c := 66) (by omega) (Nat.le_refl _) s0)
  have e1 := fun b hb => m_here (m := sA1 m 66 0 (100 * N + c) s0) h' hi h37 h38 (b := b) hb
  unfold fX11_one_j161 fX11_one_j189
  rw [if_pos (inB_nI hN (by omega)), nI_c (by omega), e1 60 (by decide), bnd1_e, e1 61 (by decide), bnd1_e, e1 62 (by decide), bnd1_e, m_faulty (m := sA1 m 66 0 (100 * N + c) s0) h38 h37, bnd1_e, show (sA1 m 66 0 (100 * N + c) s0).1 37 0 = nI i from h37, nI_1]
  unfold siN
  by_cases c0 : C i = 60
  · rw [if_pos c0, if_pos c0, if_neg (by decide), if_neg (by intro q; cases q)]
  · rw [if_neg c0, if_neg c0, if_pos rfl]
    by_cases c1 : C i = 61
    · rw [if_pos c1, if_pos c1, if_neg (by decide), if_neg (by intro q; cases q)]
    · rw [if_neg c1, if_neg c1, if_pos rfl]
      by_cases c2 : C i = 62
      · rw [if_pos c2, if_pos c2, if_neg (by decide), if_neg (by intro q; cases q)]
      · rw [if_neg c2, if_neg c2, if_pos rfl, if_pos rfl]
theorem m_test {m : STt} {i c : Nat} (h : TxM m K N C) (hi : i ≤ K) (hci : c ≤ i) (h37 : m.1 37 0 = nI i) (h38 : m.1 38 0 = -1) (h39 : m.1 39 0 = nI c) : OutM N c i m (match pTs C i with
        | (j, none) => (j, none)
        | (j, some (q, sg, n)) => (j, some (fun x => tsB x q sg n))) (fX11_one_j87 qB qE qO m) := by
  have hK := h.1.1
  have hN := h.2.2.2.2
  unfold fX11_one_j87
  rw [m_letter h hi h37 h38, b_if2]
  obtain ⟨p1, p2, p3⟩ := pTs_b h.1 hi
  revert p1 p2 p3
  unfold pTs
  cases e1 : leN (C i) with
  | none =>
    intro p1 p2 p3
    rw [if_pos rfl, m_faulty h38 h37, bnd1_e]
    exact ⟨fun _ => ⟨_, c, rfl, FpM_S _ m (by omega) _, by rw [sS_n _ _ (by omega)]; exact h37, sS_s _ _ _ _, by rw [sS_n _ _ (by omega)]; exact h39, Nat.le_refl c, by show c + i ≤ i + c; omega⟩, fun F hF => (by cases hF)⟩
  | some q =>
    obtain ⟨q9, eq⟩ := leN_of e1
    have k1 : i < K := tx_in h.1 eq (lt_ne q q9)
    rw [if_neg (by intro q; cases q), h37, h.2.2.2.1, h39, show (100 : Int32) = nI 100 from rfl, pk_mul, nI_add, if_pos (inB_nI (show i < 100 by omega) (by omega)), if_pos (inB_nI (show 100 * N + c < 700 by omega) (by omega)), nI_c (by omega), nI_c (by omega), h.2.2.1 i k1]
    rw [show (sA1 m 65 0 (100 * N + c) (C i)).1 37 0 = nI i from h37, nI_1, sS_s, show (sS (sA1 m 65 0 (100 * N + c) (C i)) 37 0 (nI (i + 1))).1 34 0 = nI K from h.2.1]
    have f1 : FpM (100 * N + c) m (sS (sA1 m 65 0 (100 * N + c) (C i)) 37 0 (nI (i + 1))) := (FpM_A _ m (by omega) (Nat.le_refl _) _).tr (FpM_S _ _ (by omega) _) (Nat.le_refl _)
    have h1 := TxM_F h f1
    have g37 : (sS (sA1 m 65 0 (100 * N + c) (C i)) 37 0 (nI (i + 1))).1 37 0 = nI (i + 1) := sS_s _ _ _ _
    have g38 : (sS (sA1 m 65 0 (100 * N + c) (C i)) 37 0 (nI (i + 1))).1 38 0 = -1 := by rw [sS_n _ _ (by omega)]; exact h38
    have g39 : (sS (sA1 m 65 0 (100 * N + c) (C i)) 37 0 (nI (i + 1))).1 39 0 = nI c := by rw [sS_n _ _ (by omega)]; exact h39
    have g65 : (sS (sA1 m 65 0 (100 * N + c) (C i)) 37 0 (nI (i + 1))).2.1 65 0 (100 * N + c) = ltF q := by
      show (sA1 m 65 0 (100 * N + c) (C i)).2.1 65 0 _ = _
      rw [sA1_s, upd_s, eq]
    have hsig : ∃ s0 : Int32, (i + 1 < K → s0 = C (i + 1)) ∧ ∀ (A B : Int32 → Option STt), (∀ z, A z = B z) → (if nI K ≤ nI (i + 1) then A 0 else (if inB (nI (i + 1)) 100 = true then B ((sS (sA1 m 65 0 (100 * N + c) (C i)) 37 0 (nI (i + 1))).2.1 58 0 (nI (i + 1)).toNatClampNeg) else none)) = A s0 := by
      by_cases ck : K ≤ i + 1
      · exact ⟨0, fun q => (by omega), fun A B hAB => by rw [if_pos (nI_le ck (by omega))]⟩
      · refine ⟨C (i + 1), fun _ => rfl, fun A B hAB => ?_⟩
        rw [if_neg (nI_ge (by omega) (by omega)), if_pos (inB_nI (by omega) (by omega)), nI_c (by omega), show (sS (sA1 m 65 0 (100 * N + c) (C i)) 37 0 (nI (i + 1))).2.1 58 0 (i + 1) = C (i + 1) from h.2.2.1 (i + 1) (by omega), hAB]
    generalize sS (sA1 m 65 0 (100 * N + c) (C i)) 37 0 (nI (i + 1)) = m1 at *
    obtain ⟨s0, hs0, hif⟩ := hsig
    rw [hif (fun z => fX11_one_j161 qB qE qO m1 (nI (100 * N + c)) z (nI (100 * N + c))) (fun z => fX11_one_j161 qB qE qO m1 (nI (100 * N + c)) z (nI (100 * N + c))) (fun _ => rfl), m_161 h1 (by omega) g37 g38 (by omega)]
    have f2 : FpM (100 * N + c) m1 (sA1 m1 66 0 (100 * N + c) s0) := FpM_A _ m1 (by omega) (Nat.le_refl _) _
    show i ≤ (match siN (C (i + 1)) with
      | none => (i + 1, none)
      | some sg => match pNm C (i + 2) with
        | (j, none) => (j, none)
        | (j, some n) => (j, some (q, sg, n)) : Nat × Option (Nat × Nat × Nat)).1 → _
    cases e2 : siN (C (i + 1)) with
    | none =>
      intro p1 p2 p3
      rw [if_pos rfl]
      have f3 := f2.tr (FpM_S (100 * N + c) _ (c := 38) (by omega) (nI (i + 1))) (Nat.le_refl _)
      obtain ⟨m5, a1, a2, a3, a4, a5, -⟩ := m_206 (qB := qB) (qE := qE) (qO := qO) (c := c) (TxM_F h1 f3) (m_numF (j := i + 1) (by omega) (sS_s _ _ _ _)) (by rw [sS_n _ _ (by omega)]; exact g39) (by omega)
      refine ⟨fun _ => ⟨m5, c + 1, a1, (f1.tr f3 (Nat.le_refl _)).tr a2 (Nat.le_refl _), a3.trans (by rw [sS_n _ _ (by omega)]; exact g37), a4.trans (sS_s _ _ _ _), a5, by omega, by show c + 1 + i ≤ i + 1 + c; omega⟩, fun F hF => (by cases hF)⟩
    | some sg =>
      obtain ⟨s3, es⟩ := siN_of e2
      have k2 : i + 1 < K := tx_in h.1 es (fun q => by
        have := congrArg Int32.toInt q
        rw [nI_toInt (by omega)] at this
        have e1 : (-1 : Int32).toInt = -1 := by decide
        omega)
      rw [if_neg (by intro q; cases q), show i + 1 + 1 = i + 2 by omega]
      have f3 := f2.tr (FpM_S (100 * N + c) _ (c := 37) (by omega) (nI (i + 2))) (Nat.le_refl _)
      have h3 := TxM_F h1 f3
      have v38 : (sS (sA1 m1 66 0 (100 * N + c) s0) 37 0 (nI (i + 2))).1 38 0 = -1 := by rw [sS_n _ _ (by omega)]; exact g38
      have v39 : (sS (sA1 m1 66 0 (100 * N + c) s0) 37 0 (nI (i + 2))).1 39 0 = nI c := by rw [sS_n _ _ (by omega)]; exact g39
      have v65 : (sS (sA1 m1 66 0 (100 * N + c) s0) 37 0 (nI (i + 2))).2.1 65 0 (100 * N + c) = ltF q := by
        show (sA1 m1 66 0 (100 * N + c) s0).2.1 65 0 _ = _
        rw [sA1_n _ _ (by omega)]; exact g65
      have v66 : (sS (sA1 m1 66 0 (100 * N + c) s0) 37 0 (nI (i + 2))).2.1 66 0 (100 * N + c) = nI (60 + sg) := by
        show (sA1 m1 66 0 (100 * N + c) s0).2.1 66 0 _ = _
        rw [sA1_s, upd_s, hs0 k2, es]
      have v37 : (sS (sA1 m1 66 0 (100 * N + c) s0) 37 0 (nI (i + 2))).1 37 0 = nI (i + 2) := sS_s _ _ _ _
      generalize sS (sA1 m1 66 0 (100 * N + c) s0) 37 0 (nI (i + 2)) = m3 at *
      obtain ⟨n1, n2⟩ := m_num h3 (show i + 2 ≤ K by omega) v37 v38
      show i ≤ (match pNm C (i + 2) with
        | (j, none) => (j, none)
        | (j, some n) => (j, some (q, sg, n)) : Nat × Option (Nat × Nat × Nat)).1 → _
      cases e3 : pNm C (i + 2) with
      | mk j r =>
        rw [e3] at n1 n2
        cases r with
        | none =>
          intro p1 p2 p3
          obtain ⟨ej, er⟩ := n1 rfl
          have ej : j = i + 2 := ej
          have f4 := f3.tr (FpM_S (100 * N + c) m3 (c := 38) (by omega) (nI (i + 2))) (Nat.le_refl _)
          obtain ⟨m5, a1, a2, a3, a4, a5, -⟩ := m_206 (qB := qB) (qE := qE) (qO := qO) (c := c) (TxM_F h1 f4) er (by rw [sS_n _ _ (by omega)]; exact v39) (by omega)
          refine ⟨fun _ => ⟨m5, c + 1, a1, (f1.tr f4 (Nat.le_refl _)).tr a2 (Nat.le_refl _), ?_, ?_, a5, by omega, by show c + 1 + i ≤ j + c; omega⟩, fun F hF => (by cases hF)⟩
          · rw [a3, sS_n _ _ (by omega), v37, ej]
          · rw [a4, sS_s, ej]
        | some n =>
          intro p1 p2 p3
          have er := n2 n rfl
          have er : fX11_readNumber m3 = some (sS m3 37 0 (nI j), nI n) := er
          obtain ⟨-, -, n100, hj⟩ := p3 q sg n rfl
          have hj : i + 3 ≤ j := hj
          have f4 := f3.tr (FpM_S (100 * N + c) m3 (c := 37) (by omega) (nI j)) (Nat.le_refl _)
          obtain ⟨m5, a1, a2, a3, a4, a5, a6, a7, a8, a9⟩ := m_206 (qB := qB) (qE := qE) (qO := qO) (c := c) (TxM_F h1 f4) er (by rw [sS_n _ _ (by omega)]; exact v39) (by omega)
          refine ⟨fun hn => (by cases hn), fun F hF => ?_⟩
          have hF : (fun x => tsB x q sg n) = F := Option.some.inj hF
          subst hF
          refine ⟨m5, [(0, q, sg, n)], a1, (f1.tr f4 (Nat.le_refl _)).tr a2 (Nat.le_refl _), a3.trans (sS_s _ _ _ _), ?_, a5, by show 1 + i ≤ j; omega, ⟨⟨a6, by show 0 ≤ 3; omega, fun _ => ⟨q9, s3, n100, ?_, ?_, a9⟩⟩, trivial⟩, gm_test q sg n⟩
          · rw [a4, sS_n _ _ (by omega)]; exact v38
          · rw [a7]; exact v65
          · rw [a8]; exact v66
/-- one more step behind what was read -/
theorem m_layO {m m1 : STt} {i i1 c c1 j : Nat} {l0 l : List TkT} (h : TxM m1 K N C) (hf : FpM (100 * N + c) m m1) (hd : HdM m1 (100 * N + c) l) (h39 : m1.1 39 0 = nI (c + l.length)) (hc : c + l.length < 100) (t : TkT) (ht : t.1 ≤ 3) (ht0 : t.1 ≠ 0) : ∃ m', fX11_lay m1 (nI t.1) = some m' ∧ FpM (100 * N + c) m m' ∧ m'.1 37 0 = m1.1 37 0 ∧ m'.1 38 0 = m1.1 38 0 ∧ m'.1 39 0 = nI (c + (l ++ [t]).length) ∧ HdM m' (100 * N + c) (l ++ [t]) := by
  have f2 : FpM (100 * N + (c + l.length)) m1 (sS (sA1 m1 64 0 (100 * N + (c + l.length)) (nI t.1)) 39 0 (nI (c + l.length + 1))) := (FpM_A _ m1 (by omega) (Nat.le_refl _) _).tr (FpM_S _ _ (by omega) _) (Nat.le_refl _)
  refine ⟨_, m_lay h h39 hc, hf.tr f2 (by omega), ?_, ?_, ?_, HdM_app _ _ _ _ (HdM_c f2 l _ (by omega) hd) ⟨⟨?_, ht, fun q => absurd q ht0⟩, trivial⟩⟩
  · rw [sS_n _ _ (by omega)]; rfl
  · rw [sS_n _ _ (by omega)]; rfl
  · rw [sS_s, List.length_append]; exact congrArg nI (by show c + l.length + 1 = c + (l.length + 1); omega)
  · show (sA1 m1 64 0 (100 * N + (c + l.length)) (nI t.1)).2.1 64 0 (100 * N + c + l.length) = _
    rw [show 100 * N + c + l.length = 100 * N + (c + l.length) by omega, sA1_s, upd_s]
theorem m_layF {m m1 : STt} {c c1 : Nat} (h : TxM m1 K N C) (hf : FpM (100 * N + c) m m1) (h39 : m1.1 39 0 = nI c1) (hcc : c ≤ c1) (hc : c1 < 100) (v : Nat) : ∃ m', fX11_lay m1 (nI v) = some m' ∧ FpM (100 * N + c) m m' ∧ m'.1 37 0 = m1.1 37 0 ∧ m'.1 38 0 = m1.1 38 0 ∧ m'.1 39 0 = nI (c1 + 1) := by
  refine ⟨_, m_lay h h39 hc, hf.tr ((FpM_A (100 * N + c1) m1 (by omega) (Nat.le_refl _) _).tr (FpM_S _ _ (by omega) _) (Nat.le_refl _)) (by omega), ?_, ?_, sS_s _ _ _ _⟩
  · rw [sS_n _ _ (by omega)]; rfl
  · rw [sS_n _ _ (by omega)]; rfl
end ME
