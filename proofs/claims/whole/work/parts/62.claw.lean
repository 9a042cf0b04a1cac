/-! PURE: the class reads a law -/
def FpL (L k c : Nat) (g g' : STt) : Prop := (∀ a i, a ≠ 6 → ¬ (a = 23 ∧ i = L) → ¬ (a = 24 ∧ i = L) → g'.1 a i = g.1 a i) ∧ (∀ a i, ¬ (25 ≤ a ∧ a ≤ 28 ∧ i = L) → g'.2.1 a i = g.2.1 a i) ∧ (∀ a j, 25 ≤ a → a ≤ 27 → j < k → g'.2.1 a L j = g.2.1 a L j) ∧ (∀ j, j < c → g'.2.1 28 L j = g.2.1 28 L j) ∧ g'.2.2 = g.2.2
theorem FpL.tr {L k c k' c' : Nat} {g g' g'' : STt} (h : FpL L k c g g') (h' : FpL L k' c' g' g'') (hk : k ≤ k') (hc : c ≤ c') : FpL L k c g g'' := ⟨fun a i p q r => (h'.1 a i p q r).trans (h.1 a i p q r), fun a i p => (h'.2.1 a i p).trans (h.2.1 a i p), fun a j p q r => (h'.2.2.1 a j p q (by omega)).trans (h.2.2.1 a j p q r), fun j p => (h'.2.2.2.1 j (by omega)).trans (h.2.2.2.1 j p), h'.2.2.2.2.trans h.2.2.2.2⟩
theorem FpL_C {L k c : Nat} {g g' : STt} (h : FpC L c g g') : FpL L k c g g' := ⟨fun a i p _ r => h.1 a i p r, fun a i p => h.2.1 a i (by omega), fun a j p q _ => congrFun (h.2.1 a L (by omega)) j, fun j p => h.2.2.1 j p, h.2.2.2⟩
theorem FpL_23 (L k c : Nat) (g : STt) (v : Int32) : FpL L k c g (sS g 23 L v) := ⟨fun a i _ p _ => sS_n _ _ p, fun _ _ _ => rfl, fun _ _ _ _ _ => rfl, fun _ _ => rfl, rfl⟩
theorem FpL_A {L k c a : Nat} (g : STt) (ha : 25 ≤ a ∧ a ≤ 27) (v : Int32) : FpL L k c g (sA1 g a L k v) := ⟨fun _ _ _ _ _ => rfl, fun a' i p => sA1_n _ _ (by omega), fun a' j p q r => by
  by_cases e : a' = a
  · subst e; rw [sA1_s, upd_n _ _ (by omega)]
  · rw [sA1_n _ _ (by omega)], fun j _ => congrFun (sA1_n g (c' := 28) (i' := L) v (by omega)) j, rfl⟩
theorem TxC_L {L k c K : Nat} {C : Nat → Int32} {g g' : STt} (h : TxC g K C) (hF : FpL L k c g g') : TxC g' K C := ⟨h.1, (hF.1 20 0 (by omega) (by omega) (by omega)).trans h.2.1, fun i hi => (congrFun (hF.2.1 21 0 (by omega)) i).trans (h.2.2 i hi)⟩
section CL
variable {g : STt} {K L i c k : Nat} {C : Nat → Int32}
theorem c_begin (hk : k < 10) (h23 : g.1 23 L = nI k) (x1 x2 : Int32) : ∃ g', fX2_beginClause g L x1 x2 = some g' ∧ FpL L k 100 g g' ∧ g'.1 6 0 = g.1 6 0 ∧ g'.1 23 L = nI (k + 1) ∧ g'.1 24 L = g.1 24 L ∧ g'.2.1 25 L k = x1 ∧ g'.2.1 26 L k = x2 ∧ g'.2.1 27 L k = g.1 24 L ∧ g'.2.1 28 L = g.2.1 28 L := by
  refine ⟨sS (sA1 (sA1 (sA1 g 25 L k x1) 26 L k x2) 27 L k (g.1 24 L)) 23 L (nI (k + 1)), ?_, (((FpL_A g (by omega) _).tr (FpL_A _ (by omega) _) (Nat.le_refl _) (Nat.le_refl _)).tr (FpL_A _ (by omega) _) (Nat.le_refl _) (Nat.le_refl _)).tr (FpL_23 L k 100 _ _) (Nat.le_refl _) (Nat.le_refl _), sS_n _ _ (by omega), sS_s _ _ _ _, sS_n _ _ (by omega), ?_, ?_, ?_, ?_⟩
  · unfold fX2_beginClause
    rw [h23, if_neg (nI_pos (show k < 2 ^ 31 by omega)), if_neg (show ¬ (10 : Int32) ≤ nI k from nI_ge (b := 10) hk (by omega)), if_pos (inB_nI (n := 10) (k := k) hk (by omega)), nI_c (k := k) (by omega), show (sA1 g 25 L k x1).1 23 L = nI k from h23, if_pos (inB_nI (n := 10) (k := k) hk (by omega)), nI_c (k := k) (by omega), show (sA1 (sA1 g 25 L k x1) 26 L k x2).1 23 L = nI k from h23, if_pos (inB_nI (n := 10) (k := k) hk (by omega)), nI_c (k := k) (by omega), show (sA1 (sA1 g 25 L k x1) 26 L k x2).1 24 L = g.1 24 L from rfl, show (sA1 (sA1 (sA1 g 25 L k x1) 26 L k x2) 27 L k (g.1 24 L)).1 23 L = nI k from h23, nI_1]
  · show (sA1 (sA1 (sA1 g 25 L k x1) 26 L k x2) 27 L k (g.1 24 L)).2.1 25 L k = x1
    rw [sA1_n _ _ (by omega), sA1_n _ _ (by omega), sA1_s, upd_s]
  · show (sA1 (sA1 (sA1 g 25 L k x1) 26 L k x2) 27 L k (g.1 24 L)).2.1 26 L k = x2
    rw [sA1_n _ _ (by omega), sA1_s, upd_s]
  · show (sA1 (sA1 (sA1 g 25 L k x1) 26 L k x2) 27 L k (g.1 24 L)).2.1 27 L k = _
    rw [sA1_s, upd_s]
  · show (sA1 (sA1 (sA1 g 25 L k x1) 26 L k x2) 27 L k (g.1 24 L)).2.1 28 L = _
    rw [sA1_n _ _ (by omega), sA1_n _ _ (by omega), sA1_n _ _ (by omega)]
/-- a clause in the class: either a fault at the place, or the rows and what comes after -/
theorem c_cl (Q : (STt × Int32) → Option (STt × Int32)) (h : TxC g K C) (hi : i ≤ K) (hci : c ≤ i) (hk : k < 10) (h6 : g.1 6 0 = nI i) (h23 : g.1 23 L = nI k) (h24 : g.1 24 L = nI c) : ((pCl C i).2 = none → ∃ g', fX7_readLaw_l11c Q L g (nI (k + 1)) = some (g', nI (pCl C i).1) ∧ FpL L k c g g') ∧ (∀ x, (pCl C i).2 = some x → ∃ (g' : STt) (l : List TkT), fX7_readLaw_l11c Q L g (nI (k + 1)) = fX7_readLaw_j72 Q g' L (nI (k + 1)) ∧ FpL L k c g g' ∧ g'.1 6 0 = nI (pCl C i).1 ∧ g'.1 23 L = nI (k + 1) ∧ g'.1 24 L = nI (c + l.length) ∧ c + l.length ≤ (pCl C i).1 ∧ g'.2.1 25 L k = nI x.1 ∧ g'.2.1 26 L k = nI x.2.1 ∧ g'.2.1 27 L k = nI c ∧ (x.1 < 3 → HdC (g'.2.1 28 L) c l ∧ GdC 11 l x.2.2)) := by
  have hK := h.1.1
  obtain ⟨b1, b2, b3⟩ := pHd_b h.1 hi
  obtain ⟨d1, d2⟩ := c_headW h hi h6 L
  have e10 : ¬ (10 : Int32) < nI (k + 1) := nI_nlt (a := 10) (by omega) (by omega)
  cases hd : pHd C i with
  | mk q r =>
    rw [hd] at b1 b2 b3 d1 d2
    have b1 : i ≤ q := b1
    have b2 : q ≤ K := b2
    have f6 := FpC_6 L c g (nI q)
    cases r with
    | none =>
      have e : pCl C i = (q, none) := by unfold pCl; rw [hd]
      rw [e]
      refine ⟨fun _ => ⟨sS g 6 0 (nI q), ?_, FpL_C f6⟩, fun x hx => (by cases hx)⟩
      unfold fX7_readLaw_l11c
      have d1 : fX7_readHead g L = some (sS g 6 0 (nI q), -1) := d1 rfl
      rw [if_neg e10, d1, bnd_e, if_neg (by decide), sS_s]
    | some wn =>
      obtain ⟨w, n⟩ := wn
      obtain ⟨w7, n100⟩ := b3 w n rfl
      have e : pCl C i = (if w < 3 then (if C q = 32 then match prs C 320 2 0 (q + 1) with
          | (j, none) => (j, none)
          | (j, some F) => (j, some (w, n, F)) else (q, none)) else (q, some (w, n, fun _ => false)) : Nat × Option ClT) := by
        unfold pCl
        rw [hd]
        rfl
      have d2 : fX7_readHead g L = bnd1 (fX2_beginClause (sS g 6 0 (nI q)) L (nI w) (nI n)) fun g_14 => some (g_14, nI w) := d2 w n rfl
      obtain ⟨g1, a1, a2, a6, a23, a24, a25, a26, a27, a28⟩ := c_begin (g := sS g 6 0 (nI q)) (L := L) hk (by rw [sS_n _ _ (by omega)]; exact h23) (nI w) (nI n)
      have a6 : g1.1 6 0 = nI q := a6.trans (sS_s _ _ _ _)
      have a24 : g1.1 24 L = nI c := a24.trans ((sS_n _ _ (by omega)).trans h24)
      have a27 : g1.2.1 27 L k = nI c := a27.trans ((sS_n _ _ (by omega)).trans h24)
      have f1 : FpL L k c g g1 := (FpL_C (k := k) f6).tr a2 (Nat.le_refl _) (by omega)
      have h1 := TxC_L h f1
      have run : fX7_readLaw_l11c Q L g (nI (k + 1)) = if w < 3 then fX7_readLaw_j42 Q g1 L (nI (k + 1)) 1 else fX7_readLaw_j42 Q g1 L (nI (k + 1)) 0 := by
        unfold fX7_readLaw_l11c
        rw [if_neg e10, d2, a1, bnd1_e, bnd_e, if_pos (nI_pos' (by omega))]
        by_cases z : w < 3
        · rw [if_pos z, if_neg (show ¬ (2 : Int32) < nI w from nI_nlt (a := 2) (by omega) (by omega))]
        · rw [if_neg z, if_pos (show (2 : Int32) < nI w from nI_lt (a := 2) (by omega) (by omega))]
      rw [e, run]
      by_cases z : w < 3
      · rw [if_pos z, if_pos z]
        unfold fX7_readLaw_j42 fX7_readLaw_j67
        rw [if_neg (c := (1 : Int32) = 0) (by decide), c_next h1 (by omega) a6]
        by_cases c32 : C q = 32
        · have kq := tx_in h.1 c32 (by decide)
          rw [if_pos c32, if_pos c32, bnd_e, if_neg (by decide)]
          have f2 := FpC_6 L c g1 (nI (q + 1))
          have h2 := TxC_F h1 f2
          obtain ⟨s1, s2⟩ := (c_RD (C := C) (K := K) (L := L) 320).2.2 0 0 (q + 1) c (sS g1 6 0 (nI (q + 1))) fuelN 39 (by omega) (by omega) (by omega) (by omega) (by omega) (by rw [Nat.zero_min]; omega) (by omega) (by show _ ≤ 5000; omega) h2 (sS_s _ _ _ _) (by rw [sS_n _ _ (by omega)]; exact a24)
          have s1 : _ → ∃ g', fX7_readEither fuelX7_readBoth (sS g1 6 0 (nI (q + 1))) L 0 = some (g', 0) ∧ _ := s1
          have s2 : ∀ F, _ → ∃ g' l, fX7_readEither fuelX7_readBoth (sS g1 6 0 (nI (q + 1))) L 0 = some (g', 1) ∧ _ := s2
          obtain ⟨y1, y2⟩ := prs_b h.1 320 2 0 (q + 1) (by omega)
          cases hp : prs C 320 2 0 (q + 1) with
          | mk u r =>
            rw [hp] at s1 s2 y1 y2
            have y1 : q + 1 ≤ u := y1
            cases r with
            | none =>
              obtain ⟨g', v1, v2, v3⟩ := s1 rfl
              have v3 : g'.1 6 0 = nI u := v3
              refine ⟨fun _ => ⟨g', ?_, (f1.tr (FpL_C (k := k) f2) (Nat.le_refl _) (Nat.le_refl _)).tr (FpL_C v2) (Nat.le_refl _) (Nat.le_refl _)⟩, fun x hx => (by cases hx)⟩
              rw [v1, bnd_e, if_pos rfl, v3]
            | some F =>
              obtain ⟨g', l, v1, v2, v3, v4, v5, v6, v7, -⟩ := s2 F rfl
              have v5 : l.length + (q + 1) ≤ u + min 0 1 := v5
              have v7 := v7 rfl
              refine ⟨fun hn => (by cases hn), fun x hx => ?_⟩
              have hx : (w, n, F) = x := Option.some.inj hx
              subst hx
              have keep : ∀ a, a ≠ 28 → g'.2.1 a L = g1.2.1 a L := fun a ha => v2.2.1 a L (by omega)
              refine ⟨g', l, ?_, (f1.tr (FpL_C (k := k) f2) (Nat.le_refl _) (Nat.le_refl _)).tr (FpL_C v2) (Nat.le_refl _) (Nat.le_refl _), v3, ?_, v4, by show c + l.length ≤ u; omega, by rw [keep 25 (by omega)]; exact a25, by rw [keep 26 (by omega)]; exact a26, by rw [keep 27 (by omega)]; exact a27, fun _ => ⟨v6, g_up v7 (by omega)⟩⟩
              · rw [v1, bnd_e, if_neg (by decide)]
              · rw [v2.1 23 L (by omega) (by omega), sS_n _ _ (by omega)]; exact a23
        · rw [if_neg c32, if_neg c32, bnd_e, if_pos rfl]
          refine ⟨fun _ => ⟨g1, ?_, f1⟩, fun x hx => (by cases hx)⟩
          rw [a6]
      · rw [if_neg z, if_neg z]
        unfold fX7_readLaw_j42
        rw [if_pos rfl]
        refine ⟨fun hn => (by cases hn), fun x hx => ?_⟩
        have hx : (w, n, fun _ => false) = x := Option.some.inj hx
        subst hx
        exact ⟨g1, [], rfl, f1, a6, a23, a24, by show c + 0 ≤ q; omega, a25, a26, a27, fun hw => absurd hw z⟩
end CL
