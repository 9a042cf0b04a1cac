/-! PURE: string, shiftLoad -/
def leX (Q : Nat → Int32) : Nat → Nat → Nat → Nat
  | 0, b, _ => b
  | r + 1, b, i => leX Q r (if Q b ≤ Q i then b else i) (i + 1)
theorem le_lt (Q : Nat → Int32) {K : Nat} : ∀ (r b i : Nat), b < K → i + r ≤ K → leX Q r b i < K
  | 0, _, _, h, _ => h
  | r + 1, b, i, h, h2 => by
    refine le_lt Q r _ _ ?_ (by omega)
    split <;> omega
theorem le_c {Q Q' : Nat → Int32} {K : Nat} (hQ : ∀ j, j < K → Q j = Q' j) : ∀ (r b i : Nat), b < K → i + r ≤ K → leX Q r b i = leX Q' r b i
  | 0, _, _, _, _ => rfl
  | r + 1, b, i, h, h2 => by
    show leX Q r (if Q b ≤ Q i then b else i) (i + 1) = leX Q' r (if Q' b ≤ Q' i then b else i) (i + 1)
    rw [hQ b h, hQ i (by omega)]
    refine le_c hQ r _ _ ?_ (by omega)
    split <;> omega
theorem c_least {g : STt} {K : Nat} (hK : K ≤ 4) (hg : g.1 20 3 = nI K) : ∀ (fu i b : Nat), 1 ≤ i → i ≤ K → b < K → K - i < fu → iterO (fun K z => fX5_placeOfLeast_l4c K g 3 z.1 z.2) fu (nI b, nI i) = some (nI (leX (g.2.1 21 3) (K - i) b i)) := by
  intro fu
  induction fu with
  | zero => intro i b h1 h2 h3 h4; omega
  | succ fu ih =>
    intro i b h1 h2 h3 h4
    rw [iterO_succ]
    generalize iterO (fun K z => fX5_placeOfLeast_l4c K g 3 z.1 z.2) fu = Kk at ih ⊢
    show fX5_placeOfLeast_l4c Kk g 3 (nI b) (nI i) = _
    unfold fX5_placeOfLeast_l4c fX5_placeOfLeast_j29 fX5_placeOfLeast_j31
    rw [hg]
    by_cases c : i = K
    · subst c; rw [if_pos (nI_le (Nat.le_refl i) (by omega)), show i - i = 0 by omega]; rfl
    · have hs : K - i = (K - (i + 1)) + 1 := by omega
      rw [if_neg (nI_ge (by omega) (by omega)), if_neg (nI_pos (by omega)), eX5_get (n := 4) rfl (by omega) hg hK, bnd1_e, eX5_get (n := 4) rfl (by omega) hg hK, bnd1_e, if_pos (inB_nI (show i < K by omega) (by omega)), if_pos (inB_nI h3 (by omega)), nI_c (by omega), nI_c (by omega), hs]
      show _ = some (nI (leX (g.2.1 21 3) (K - (i + 1)) (if g.2.1 21 3 b ≤ g.2.1 21 3 i then b else i) (i + 1)))
      by_cases c2 : g.2.1 21 3 b ≤ g.2.1 21 3 i
      · rw [if_pos c2, if_pos c2, nI_1]; exact ih (i + 1) b (by omega) (by omega) h3 (by omega)
      · rw [if_neg c2, if_neg c2, nI_1]; exact ih (i + 1) i (by omega) (by omega) (by omega) (by omega)
theorem m_least {m : STt} {K : Nat} (hK : K ≤ 4) (hm : m.1 45 0 = nI K) (w : Int32) : ∀ (fu i b : Nat), 1 ≤ i → i ≤ K → b < K → K - i < fu → iterO (fun K z => fX11_string_l35c K m w z.1 z.2) fu (nI b, nI i) = fX11_string_l35c (fun _ => none) m w (nI (leX (m.2.1 72 0) (K - i) b i)) (nI K) := by
  intro fu
  induction fu with
  | zero => intro i b h1 h2 h3 h4; omega
  | succ fu ih =>
    intro i b h1 h2 h3 h4
    rw [iterO_succ]
    generalize iterO (fun K z => fX11_string_l35c K m w z.1 z.2) fu = Kk at ih ⊢
    show fX11_string_l35c Kk m w (nI b) (nI i) = _
    by_cases c : i = K
    · subst c
      rw [show i - i = 0 by omega]
      show _ = fX11_string_l35c (fun _ => none) m w (nI b) (nI i)
      unfold fX11_string_l35c
      rw [hm, if_pos (nI_le (Nat.le_refl i) (by omega)), if_pos (nI_le (Nat.le_refl i) (by omega))]
    · have hs : K - i = (K - (i + 1)) + 1 := by omega
      rw [hs]
      show _ = fX11_string_l35c (fun _ => none) m w (nI (leX (m.2.1 72 0) (K - (i + 1)) (if m.2.1 72 0 b ≤ m.2.1 72 0 i then b else i) (i + 1))) (nI K)
      have u : ∀ A, fX11_string_l35c Kk m w (nI b) (nI i) = A ↔ (if m.2.1 72 0 b ≤ m.2.1 72 0 i then Kk (nI b, nI (i + 1)) else Kk (nI i, nI (i + 1))) = A := by
        intro A
        unfold fX11_string_l35c fX11_string_j60
        rw [hm, if_neg (nI_ge (by omega) (by omega)), if_pos (inB_nI (show i < 4 by omega) (by omega)), if_pos (inB_nI (show b < 4 by omega) (by omega)), nI_c (by omega), nI_c (by omega), nI_1]
      rw [u]
      by_cases c2 : m.2.1 72 0 b ≤ m.2.1 72 0 i
      · rw [if_pos c2, if_pos c2]; exact ih (i + 1) b (by omega) (by omega) h3 (by omega)
      · rw [if_neg c2, if_neg c2]; exact ih (i + 1) i (by omega) (by omega) (by omega) (by omega)
theorem c_fearT {g : STt} {E : EVt} {d : Nat} (hE : EnC g E) (hO : EOK E) (F L Y : Nat → Int32) (hY : inR (Y 12) 0 E.1) (hA : atX Y < E.1) : fX9_fearThere (cs g d F L Y) d = some (Y (thX E Y)) := by
  obtain ⟨t1, t2⟩ := c_thing (d := d) hE hO F L Y Y hY hA
  unfold fX9_fearThere
  rw [c_get12, bnd1_e, t1, bnd1_e, c_get F L Y (thX E Y) (by omega) rfl, bnd1_e]
theorem dn_1 (x : Int32) : dnX x = 1 ↔ ¬ x ≤ 0 := by
  unfold dnX
  by_cases c : x ≤ 0
  · rw [if_pos c]
    constructor
    · intro h
      by_cases c2 : x < (-14)
      · rw [if_pos c2] at h
        by_cases c3 : x < (-39)
        · rw [if_pos c3] at h; exact absurd h (by decide)
        · rw [if_neg c3] at h; exact absurd h (by decide)
      · rw [if_neg c2] at h; exact absurd h (by decide)
    · intro h; exact absurd c h
  · rw [if_neg c]; exact ⟨fun _ => c, fun _ => rfl⟩
theorem q_string {g m : STt} {P N : Nat} (h : RelE g m P N) (x : Int32) : ∃ g' m' r, fX10_string g x = some (g', r) ∧ fX11_string m x = some (m', r) ∧ RelE g' m' P N := by
  obtain ⟨E, rfl, hO, hE, hM⟩ := env_of h
  obtain ⟨b1, b2, b3, b4, b5⟩ := both_0 h
  obtain ⟨K, k1, k2, k3, k4⟩ : RSt g m 3 45 72 4 0 99 := h.2.2.2.2.2.1
  unfold fX10_string fX11_string
  rw [rng2, eX11_in, b_if]
  by_cases c : (0 : Int32).toInt ≤ x.toInt ∧ x.toInt ≤ (2 : Int32).toInt
  · rw [if_pos c, if_pos c]
    have e2 : (2 : Int32).toInt = 2 := by decide
    have e0 : (0 : Int32).toInt = 0 := by decide
    obtain ⟨w, hw, rfl⟩ := inB_of (x := x) (n := 3) (inB_iff.mpr (by omega)) (by omega)
    rw [d_over hE hO b2, n_over hM hO b3, is_at b1, b_if2, b_if2]
    by_cases cA : atX (m.2.1 57 0) < E.1
    · rw [if_pos cA, if_pos cA, k3]
      by_cases cK : K = 0
      · subst cK
        have e1 : fX5_placeOfLeast g 3 = some (-1) := by
          unfold fX5_placeOfLeast fX5_placeOfLeast_l4
          rw [fuel_s, iterO_succ]
          show fX5_placeOfLeast_l4c _ g 3 (-1) 0 = _
          unfold fX5_placeOfLeast_l4c
          rw [k2, if_pos (by decide)]
        rw [e1, bnd1_e, if_neg (by decide), if_pos (by decide)]
        exact ⟨_, _, _, rfl, rfl, h⟩
      · obtain ⟨b, hb⟩ : ∃ b, leX (m.2.1 72 0) (K - 1) 0 1 = b := ⟨_, rfl⟩
        have hbK : b < K := by rw [← hb]; exact le_lt _ _ _ _ (by omega) (by omega)
        have e1 : fX5_placeOfLeast g 3 = some (nI b) := by
          unfold fX5_placeOfLeast fX5_placeOfLeast_l4
          rw [fuel_s, iterO_succ]
          have hl := c_least k1 k2 4999 1 0 (by omega) (by omega) (by omega) (by omega)
          generalize iterO (fun K z => fX5_placeOfLeast_l4c K g 3 z.1 z.2) 4999 = Kk at hl ⊢
          show fX5_placeOfLeast_l4c Kk g 3 (-1) 0 = _
          unfold fX5_placeOfLeast_l4c fX5_placeOfLeast_j29 fX5_placeOfLeast_j31
          rw [k2, if_neg (show ¬ nI K ≤ 0 from nI_nle (by omega) (by omega)), if_pos (by decide), ← hb, ← le_c (Q := g.2.1 21 3) (K := K) (fun j hj => (k4 j hj).1) (K - 1) 0 1 (by omega) (by omega)]
          exact hl
        have e2 : fX11_string_l35 m (nI w) 0 1 = fX11_string_l35c (fun _ => none) m (nI w) (nI b) (nI K) := by
          have hl := m_least k1 k3 (nI w) fuelN 1 0 (by omega) (by omega) (by omega) (by show K - 1 < 5000; omega)
          rw [hb] at hl
          exact hl
        have iA := m_at hO (dok_12 b3) cA
        have hT := m_T hM cA
        have iT := m_iT hO cA
        have t1 := is_thlt hO b1 cA
        have hQ : g.2.1 21 3 b = m.2.1 72 0 b := (k4 b hbK).1
        have ft := c_fearT (d := 0) hE hO (g.2.1 7 0) (g.2.1 8 0) (g.2.1 22 0) (dok_12 b2) (by rw [is_at b1]; exact cA)
        rw [cs_id, is_th b1, b1 _ t1] at ft
        rw [e1, bnd1_e, if_pos (nI_pos' (by omega)), ft, bnd1_e, eX5_get (n := 4) rfl (by omega) k2 k1, if_pos (inB_nI hbK (by omega)), nI_c (by omega), bnd1_e, hQ, if_neg (c := nI K = 0) (fun q => cK ((nI_eq (b := 0) (by omega) (by omega)).mp q)), e2]
        unfold fX11_string_l35c fX11_string_j109 fX11_string_j139
        rw [k3, if_pos (nI_le (Nat.le_refl K) (by omega))]
        have hTh : (E.2.2.2.1 (atX (m.2.1 57 0))).toNatClampNeg = thX E (m.2.1 57 0) := Eq.trans rfl rfl
        simp only [i15_12, if_true, tn12, iA, hT, iT, hTh, inB_nI (show b < 4 by omega) (show 4 < 2 ^ 31 by omega), nI_c (show b < 2 ^ 31 by omega)]
        show ∃ g' m' r, _ ∧ (if nI w = 0 then some (m, nI b) else if 0 ≤ m.2.1 57 0 (thX E (m.2.1 57 0)) - m.2.1 72 0 b then _ else _) = some (m', r) ∧ _
        by_cases c0 : nI w = 0
        · rw [if_pos c0, if_pos c0]; exact ⟨_, _, _, rfl, rfl, h⟩
        · rw [if_neg c0, if_neg c0]
          have main : ∀ by_ : Int32, ∃ g' m' r, (if nI w = 1 then some (g, by_) else bnd (fX9_weigh g 0 1) fun g_16 r_17 => (if (r_17 + by_) ≤ 0 then some (g_16, 0) else some (g_16, 1))) = some (g', r) ∧ (if nI w = 1 then some (m, by_) else bnd (fX11_wouldBy (sS m 40 0 by_) 1) fun g_3 r_4 => (if r_4 = 1 then some (sS g_3 40 0 0, 1) else some (sS g_3 40 0 0, 0))) = some (m', r) ∧ RelE g' m' E.1 N := by
            intro by_
            by_cases c1 : nI w = 1
            · rw [if_pos c1, if_pos c1]; exact ⟨_, _, _, rfl, rfl, h⟩
            · rw [if_neg c1, if_neg c1]
              obtain ⟨F', L', a1, -⟩ := c_weigh (d := 0) hE hO (g.2.1 7 0) (g.2.1 8 0) (g.2.1 22 0) 1 (dok_12 b2) (by rw [is_at b1]; exact cA)
              rw [cs_id, is_dr b1 t1] at a1
              have hM1 : EnM (sS m 40 0 by_) E := hM
              obtain ⟨p, a2⟩ := m_would hM1 hO (m.2.1 69 0) b3 cA 1
              rw [show ms (sS m 40 0 by_) (m.2.1 69 0) (m.2.1 57 0) = sS m 40 0 by_ from ms_id (sS m 40 0 by_), if_neg (by decide), if_pos rfl, show (sS m 40 0 by_).1 40 0 = by_ from sS_s _ _ _ _, show (sS m 40 0 by_).1 41 0 = 0 from b5, Int32.sub_zero] at a2
              rw [a1, bnd_e, a2, bnd_e]
              have fm : FM m (sS (ms (sS m 40 0 by_) p (m.2.1 57 0)) 40 0 0) := by
                refine ⟨fun c i hc => ?_, fun c i h1 h2 h3 => ms_n (sS m 40 0 by_) p _ h1 h2, is_rf _, rfl⟩
                by_cases e : c = 40 ∧ i = 0
                · obtain ⟨rfl, rfl⟩ := e
                  rw [sS_s]; exact b4.symm
                · rw [sS_n _ _ e]
                  exact sS_n m by_ e
              by_cases cz : drX E (m.2.1 57 0) 1 + by_ ≤ 0
              · rw [if_pos cz, if_neg (fun q => (dn_1 _).mp q cz)]
                exact ⟨_, _, _, rfl, rfl, rel_F h (FC_cs0 g 0 _ _) fm⟩
              · rw [if_neg cz, if_pos ((dn_1 _).mpr cz)]
                exact ⟨_, _, _, rfl, rfl, rel_F h (FC_cs0 g 0 _ _) fm⟩
          generalize m.2.1 57 0 (thX E (m.2.1 57 0)) - m.2.1 72 0 b = df
          by_cases cd : 0 ≤ df
          · have ed : (if (0 : Int32) < df then df else 0) = df := by
              by_cases cd2 : 0 < df
              · rw [if_pos cd2]
              · rw [if_neg cd2]; (simp only [Int32.lt_iff_toInt_lt, Int32.le_iff_toInt_le, ← Int32.toInt_inj, Int32.reduceToInt] at *; omega)
            rw [if_pos cd, ed]
            exact main (df / 10)
          · have ed : (if (0 : Int32) < df then df else 0) / 10 = 0 := by
              rw [if_neg (by (simp only [Int32.lt_iff_toInt_lt, Int32.le_iff_toInt_le, ← Int32.toInt_inj, Int32.reduceToInt] at *; omega))]; decide
            rw [if_neg cd, ed]
            exact main 0
    · rw [if_neg cA, if_neg cA]; exact ⟨_, _, _, rfl, rfl, h⟩
  · rw [if_neg c, if_neg c]; exact ⟨_, _, _, rfl, rfl, h⟩
