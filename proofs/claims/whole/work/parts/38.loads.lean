/-! PURE: shiftLoad -/
theorem p12 : (1 : Int32) + -2 = -1 := by decide
theorem p13 : (-1 : Int32) + -2 = -3 := by decide
theorem neg1 (x : Int32) : x * -1 = -x := by grind
theorem neg2 (x : Int32) : -1 * x = -x := by grind
def ldX (X : Nat → Int32) (s : Int32) : Nat → Int32 := upd (upd X 10 (X 10 - s)) 11 (X 11 + s)
def htX (E : EVt) (X : Nat → Int32) (s : Int32) : Int32 := if (0 ≤ (X 10 - s).toInt ∧ (X 10 - s).toInt ≤ 99) ∧ (0 ≤ (X 11 + s).toInt ∧ (X 11 + s).toInt ≤ 99) then E.2.2.2.2.1 2 (fcX E (ldX X s)) else -1
theorem ld_at (X : Nat → Int32) (s : Int32) : atX (ldX X s) = atX X := at_c (by unfold ldX; rw [upd_n _ _ (by omega), upd_n _ _ (by omega)])
theorem ld_dok {P : Nat} {hb : Int} {X : Nat → Int32} (h : DOK P hb X) {s : Int32} (h1 : 0 ≤ (X 10 - s).toInt ∧ (X 10 - s).toInt ≤ 99) (h2 : 0 ≤ (X 11 + s).toInt ∧ (X 11 + s).toInt ≤ 99) : DOK P hb (ldX X s) :=
  DOK.upd (w := 11) (x := X 11 + s) (DOK.upd (w := 10) (x := X 10 - s) h (show inR (X 10 - s) 0 (mostN P hb 10) from h1)) (show inR (X 11 + s) 0 (mostN P hb 11) from h2)
theorem is_ld {A B : Nat → Int32} (h : IsX A B) (s : Int32) : IsX (ldX A s) (ldX B s) := by
  unfold ldX
  rw [h 10 (by omega), h 11 (by omega)]
  exact is_up (is_up h _ _) _ _
theorem is_ht {A B : Nat → Int32} (h : IsX A B) {E : EVt} (hO : EOK E) (hA : atX B < E.1) (s : Int32) : htX E A s = htX E B s := by
  unfold htX
  rw [h 10 (by omega), h 11 (by omega), is_fc (is_ld h s) (is_thlt hO (is_ld h s) (by rw [ld_at]; exact hA))]
theorem ht_neg {E : EVt} (hO : EOK E) (X : Nat → Int32) (s : Int32) : htX E X s < 0 ↔ ¬ ((0 ≤ (X 10 - s).toInt ∧ (X 10 - s).toInt ≤ 99) ∧ (0 ≤ (X 11 + s).toInt ∧ (X 11 + s).toInt ≤ 99)) := by
  unfold htX
  by_cases c : (0 ≤ (X 10 - s).toInt ∧ (X 10 - s).toInt ≤ 99) ∧ (0 ≤ (X 11 + s).toInt ∧ (X 11 + s).toInt ≤ 99)
  · rw [if_pos c]
    have := (hO.2.2.2.1 2 (fcX E (ldX X s))).1
    exact ⟨fun q => absurd q (by (simp only [Int32.lt_iff_toInt_lt, Int32.le_iff_toInt_le, ← Int32.toInt_inj, Int32.reduceToInt] at *; omega)), fun q => absurd c q⟩
  · rw [if_neg c]; exact ⟨fun _ => c, fun _ => by decide⟩
theorem c_hurt {g : STt} {E : EVt} (hE : EnC g E) (hO : EOK E) {X : Nat → Int32} (hX : IsX (g.2.1 22 0) X) (hY : DOK E.1 9999 X) (hA : atX X < E.1) (s : Int32) : ∃ g', fX8_hurtWith g s = some (g', htX E X s) ∧ FC g g' := by
  have iY : IsX (Y1 g) X := is_tr (cpY_is _ _) hX
  have e10 : Y1 g 10 = X 10 := iY 10 (by omega)
  have e11 : Y1 g 11 = X 11 := iY 11 (by omega)
  unfold fX8_hurtWith
  rw [e_begin1, bnd_e, if_pos (by decide), c_get10, bnd1_e, c_get11, bnd1_e, rng1, rng2, e10, e11]
  have e0 : (0 : Int32).toInt = 0 := by decide
  have e99 : (99 : Int32).toInt = 99 := by decide
  rw [e0, e99]
  unfold htX
  by_cases c1 : 0 ≤ (X 10 - s).toInt ∧ (X 10 - s).toInt ≤ 99
  · rw [if_pos c1]
    by_cases c2 : 0 ≤ (X 11 + s).toInt ∧ (X 11 + s).toInt ≤ 99
    · rw [if_pos c2, if_pos ⟨c1, c2⟩, c_put _ _ _ 10 10 (by omega) rfl, bnd1_e, c_put _ _ _ 11 11 (by omega) rfl, bnd1_e]
      have ii : IsX (upd (upd (Y1 g) 10 (X 10 - s)) 11 (X 11 + s)) (ldX X s) := is_up (is_up iY _ _) _ _
      obtain ⟨F', e1⟩ := c_together (d := 2) (EnC_G1 hE) hO (g.2.1 7 0) (g.2.1 8 0) (upd (upd (Y1 g) 10 (X 10 - s)) 11 (X 11 + s)) (dok_12 (dok_is (ld_dok hY c1 c2) ii)) (by rw [is_at ii, ld_at]; exact hA) 2 (by omega)
      rw [is_fc ii (is_thlt hO ii (by rw [ld_at]; exact hA))] at e1
      have e1 : fX9_togetherOf (cs (G1 g) 2 (g.2.1 7 0) (g.2.1 8 0) (upd (upd (Y1 g) 10 (X 10 - s)) 11 (X 11 + s))) 2 2 = _ := e1
      rw [e1, bnd_e]
      exact ⟨_, rfl, FC_G1 g 2 (by omega) _ _ _⟩
    · rw [if_neg c2, if_neg (fun q => c2 q.2)]
      exact ⟨_, rfl, FC_G1 g 2 (by omega) _ _ _⟩
  · rw [if_neg c1, if_neg (fun q => c1 q.1)]
    exact ⟨_, rfl, FC_G1 g 2 (by omega) _ _ _⟩
def shS (E : EVt) (X : Nat → Int32) (st : Int32 × Int32) (s : Int32) : Int32 × Int32 := if htX E X s < 0 then st else if st.2 ≤ htX E X s then st else (s, htX E X s)
def shF (E : EVt) (X : Nat → Int32) : Nat → Nat → Int32 × Int32 → Int32 × Int32
  | 0, _, st => st
  | r + 1, k, st => shF E X r (k + 1) (shS E X (shS E X st (nI k)) (-nI k))
theorem c_best1 {g : STt} {E : EVt} (hE : EnC g E) (hO : EOK E) {X : Nat → Int32} (hX : IsX (g.2.1 22 0) X) (hY : DOK E.1 9999 X) (hA : atX X < E.1) (K10 K19 : (STt × Int32 × Int32 × Int32) → Option (STt × Int32)) (l3 l4 : Int32) (st : Int32 × Int32) (hl : ¬ l4 < -1) : ∃ g', fX8_bestShift_l19c K10 K19 l3 g st.2 st.1 l4 = K19 (g', (shS E X st (l3 * l4)).2, (shS E X st (l3 * l4)).1, l4 + (-2)) ∧ FC g g' := by
  obtain ⟨g', e1, f1⟩ := c_hurt hE hO hX hY hA (l3 * l4)
  refine ⟨g', ?_, f1⟩
  unfold fX8_bestShift_l19c fX8_bestShift_j54 shS
  rw [if_neg hl, e1, bnd_e]
  by_cases c1 : htX E X (l3 * l4) < 0
  · rw [if_pos c1, if_pos c1]
  · rw [if_neg c1, if_neg c1]
    by_cases c2 : st.2 ≤ htX E X (l3 * l4)
    · rw [if_pos c2, if_pos c2]
    · rw [if_neg c2, if_neg c2]
theorem FC_22 {g g' : STt} (h : FC g g') : g'.2.1 22 0 = g.2.1 22 0 := h.2.1 22 0 (by omega) (by omega) (by omega) (by omega) (by omega)
theorem fuel_3 : ∃ n, fuelN = n + 1 + 1 + 1 := ⟨4997, rfl⟩
theorem shF_0 (E : EVt) (X : Nat → Int32) (k : Nat) (st : Int32 × Int32) : shF E X 0 k st = st := rfl
theorem shF_s (E : EVt) (X : Nat → Int32) (r k : Nat) (st : Int32 × Int32) : shF E X (r + 1) k st = shF E X r (k + 1) (shS E X (shS E X st (nI k)) (-nI k)) := rfl
theorem c_best3 (K10 K19 : (STt × Int32 × Int32 × Int32) → Option (STt × Int32)) (l3 : Int32) (g : STt) (l1 l2 : Int32) : fX8_bestShift_l19c K10 K19 l3 g l1 l2 (-3) = K10 (g, l1, l2, l3 + 1) := by
  unfold fX8_bestShift_l19c
  rw [if_pos (by decide)]
theorem m_best3 (K38 K48 : (STt × Int32 × Int32 × Int32) → Option (STt × Int32)) (l3 l4 l5 : Int32) (g : STt) (l1 l2 : Int32) : fX11_shiftLoad_l48c K38 K48 l3 l4 l5 g l1 l2 (-3) = K38 (g, l1, l2, l5 + 1) := by
  unfold fX11_shiftLoad_l48c
  rw [if_pos (by decide)]
theorem c_best {g : STt} {E : EVt} (hE : EnC g E) (hO : EOK E) {X : Nat → Int32} (hX : IsX (g.2.1 22 0) X) (hY : DOK E.1 9999 X) (hA : atX X < E.1) : ∀ (fu k : Nat) (g' : STt) (st : Int32 × Int32), FC g g' → k ≤ 100 → 100 - k < fu → ∃ g'', iterO (fun K z => fX8_bestShift_l10c K z.1 z.2.1 z.2.2.1 z.2.2.2) fu (g', st.2, st.1, nI k) = some (g'', (shF E X (100 - k) k st).1) ∧ FC g g'' := by
  intro fu
  induction fu with
  | zero => intro k g' st h1 h2 h3; omega
  | succ fu ih =>
    intro k g' st h1 h2 h3
    rw [iterO_succ]
    generalize iterO (fun K z => fX8_bestShift_l10c K z.1 z.2.1 z.2.2.1 z.2.2.2) fu = Kk at ih ⊢
    show ∃ g'', fX8_bestShift_l10c Kk g' st.2 st.1 (nI k) = _ ∧ _
    unfold fX8_bestShift_l10c
    by_cases c : k = 100
    · rw [c, if_pos (show (99 : Int32) < nI 100 by decide), Nat.sub_self, shF_0]; exact ⟨g', rfl, h1⟩
    · have hs : 100 - k = (100 - (k + 1)) + 1 := by omega
      obtain ⟨nn, hnn⟩ := fuel_3
      obtain ⟨g1, e1, f1⟩ := c_best1 (EnC_F hE h1) hO (by rw [FC_22 h1]; exact hX) hY hA Kk (iterO (fun K z => fX8_bestShift_l19c Kk K (nI k) z.1 z.2.1 z.2.2.1 z.2.2.2) (nn + 1 + 1)) (nI k) 1 st (by decide)
      have h1' := h1.tr f1
      obtain ⟨g2, e2, f2⟩ := c_best1 (EnC_F hE h1') hO (by rw [FC_22 h1']; exact hX) hY hA Kk (iterO (fun K z => fX8_bestShift_l19c Kk K (nI k) z.1 z.2.1 z.2.2.1 z.2.2.2) (nn + 1)) (nI k) (-1) (shS E X st (nI k * 1)) (by decide)
      have hF : shF E X (100 - (k + 1) + 1) k st = shF E X (100 - (k + 1)) (k + 1) (shS E X (shS E X st (nI k * 1)) (nI k * -1)) := by rw [shF_s, Int32.mul_one, neg1]
      obtain ⟨s1, hs1⟩ : ∃ s, shS E X st (nI k * 1) = s := ⟨_, rfl⟩
      rw [hs1] at e1 e2 hF
      obtain ⟨s2, hs2⟩ : ∃ s, shS E X s1 (nI k * -1) = s := ⟨_, rfl⟩
      rw [hs2] at e2 hF
      obtain ⟨g3, e3, f3⟩ := ih (k + 1) g2 s2 (h1'.tr f2) (by omega) (by omega)
      rw [p12] at e1
      rw [p13] at e2
      obtain ⟨r, hr⟩ : ∃ r, 100 - (k + 1) = r := ⟨_, rfl⟩
      rw [hr] at e3 hF
      rw [if_neg (show ¬ (99 : Int32) < nI k from nI_nlt (a := 99) (by omega) (by omega)), hs, hr, hF]
      unfold fX8_bestShift_l19
      rw [hnn, iterO_succ]
      refine ⟨g3, e1.trans ?_, f3⟩
      rw [iterO_succ]
      refine e2.trans ?_
      rw [iterO_succ]
      refine (c_best3 Kk _ (nI k) g2 _ _).trans ?_
      rw [nI_1, e3]
/-- the model's loads -/
def Agr (X Y : Nat → Int32) : Prop := ∀ j, j ≠ 10 → j ≠ 11 → Y j = X j
theorem agr_up {X Y : Nat → Int32} (h : Agr X Y) (a b : Int32) : upd (upd Y 10 a) 11 b = upd (upd X 10 a) 11 b := by
  funext j
  by_cases e1 : j = 11
  · subst e1; rw [upd_s, upd_s]
  · rw [upd_n _ _ e1, upd_n _ _ e1]
    by_cases e2 : j = 10
    · subst e2; rw [upd_s, upd_s]
    · rw [upd_n _ _ e2, upd_n _ _ e2, h j e2 e1]
theorem agr_u2 (X : Nat → Int32) (a b : Int32) : Agr X (upd (upd X 10 a) 11 b) := fun j h1 h2 => by rw [upd_n _ _ h2, upd_n _ _ h1]
theorem m_best1 {m : STt} {E : EVt} (hM : EnM m E) (hO : EOK E) {X : Nat → Int32} (hY : DOK E.1 9999 X) (hA : atX X < E.1) (K38 K48 : (STt × Int32 × Int32 × Int32) → Option (STt × Int32)) (l5 l6 : Int32) (st : Int32 × Int32) (hl : ¬ l6 < -1) (pl Y : Nat → Int32) (hG : Agr X Y) : ∃ p Y', fX11_shiftLoad_l48c K38 K48 (X 10) (X 11) l5 (ms m pl Y) st.1 st.2 l6 = K48 (ms m p Y', (shS E X st (l6 * l5)).1, (shS E X st (l6 * l5)).2, l6 + (-2)) ∧ Agr X Y' := by
  have e0 : (0 : Int32).toInt = 0 := by decide
  have e99 : (99 : Int32).toInt = 99 := by decide
  have hn := ht_neg hO X (l6 * l5)
  unfold fX11_shiftLoad_l48c fX11_shiftLoad_j144 shS
  rw [if_neg hl, eX11_in, b_if, eX11_in, b_if, e0, e99]
  by_cases c1 : 0 ≤ (X 10 - l6 * l5).toInt ∧ (X 10 - l6 * l5).toInt ≤ 99
  · rw [if_pos c1]
    by_cases c2 : 0 ≤ (X 11 + l6 * l5).toInt ∧ (X 11 + l6 * l5).toInt ≤ 99
    · rw [if_pos c2, if_pos i15_10, if_pos i15_11, tn10, tn11, ms_u57, ms_u57, agr_up hG, if_neg (fun q => hn.mp q ⟨c1, c2⟩)]
      obtain ⟨p, hp⟩ := m_sum hM hO pl (ld_dok hY c1 c2) (by rw [ld_at]; exact hA) 2 (by omega)
      have hp : fX11_sumOf (ms m pl (upd (upd X 10 (X 10 - l6 * l5)) 11 (X 11 + l6 * l5))) 2 = some (ms m p (upd (upd X 10 (X 10 - l6 * l5)) 11 (X 11 + l6 * l5)), htX E X (l6 * l5)) := by
        unfold htX
        rw [if_pos ⟨c1, c2⟩]
        exact hp
      refine ⟨p, upd (upd X 10 (X 10 - l6 * l5)) 11 (X 11 + l6 * l5), ?_, agr_u2 X _ _⟩
      rw [hp, bnd_e]
      by_cases c3 : htX E X (l6 * l5) < st.2
      · rw [if_pos c3, if_neg (by (simp only [Int32.lt_iff_toInt_lt, Int32.le_iff_toInt_le, ← Int32.toInt_inj, Int32.reduceToInt] at *; omega))]
      · rw [if_neg c3, if_pos (by (simp only [Int32.lt_iff_toInt_lt, Int32.le_iff_toInt_le, ← Int32.toInt_inj, Int32.reduceToInt] at *; omega))]
    · rw [if_neg c2, if_pos (hn.mpr (fun q => c2 q.2))]
      exact ⟨pl, Y, rfl, hG⟩
  · rw [if_neg c1, if_pos (hn.mpr (fun q => c1 q.1))]
    exact ⟨pl, Y, rfl, hG⟩
theorem m_best {m : STt} {E : EVt} (hM : EnM m E) (hO : EOK E) {X : Nat → Int32} (hY : DOK E.1 9999 X) (hA : atX X < E.1) : ∀ (fu k : Nat) (pl Y : Nat → Int32) (st : Int32 × Int32), Agr X Y → k ≤ 100 → 100 - k < fu → ∃ p, iterO (fun K z => fX11_shiftLoad_l38c K (X 10) (X 11) z.1 z.2.1 z.2.2.1 z.2.2.2) fu (ms m pl Y, st.1, st.2, nI k) = some (ms m p X, (shF E X (100 - k) k st).1) := by
  intro fu
  induction fu with
  | zero => intro k pl Y st h1 h2 h3; omega
  | succ fu ih =>
    intro k pl Y st h1 h2 h3
    rw [iterO_succ]
    generalize iterO (fun K z => fX11_shiftLoad_l38c K (X 10) (X 11) z.1 z.2.1 z.2.2.1 z.2.2.2) fu = Kk at ih ⊢
    show ∃ p, fX11_shiftLoad_l38c Kk (X 10) (X 11) (ms m pl Y) st.1 st.2 (nI k) = _
    unfold fX11_shiftLoad_l38c
    by_cases c : k = 100
    · rw [c, Nat.sub_self, shF_0, if_pos (show (99 : Int32) < nI 100 by decide), if_pos i15_10, if_pos i15_11, tn10, tn11, ms_u57, ms_u57, agr_up h1]
      refine ⟨pl, ?_⟩
      have : upd (upd X 10 (X 10)) 11 (X 11) = X := by
        funext j
        by_cases e1 : j = 11
        · subst e1; rw [upd_s]
        · rw [upd_n _ _ e1]
          by_cases e2 : j = 10
          · subst e2; rw [upd_s]
          · rw [upd_n _ _ e2]
      rw [this]
    · have hs : 100 - k = (100 - (k + 1)) + 1 := by omega
      obtain ⟨nn, hnn⟩ := fuel_3
      obtain ⟨p1, Ya, e1, f1⟩ := m_best1 hM hO hY hA Kk (iterO (fun K z => fX11_shiftLoad_l48c Kk K (X 10) (X 11) (nI k) z.1 z.2.1 z.2.2.1 z.2.2.2) (nn + 1 + 1)) (nI k) 1 st (by decide) pl Y h1
      obtain ⟨p2, Yb, e2, f2⟩ := m_best1 hM hO hY hA Kk (iterO (fun K z => fX11_shiftLoad_l48c Kk K (X 10) (X 11) (nI k) z.1 z.2.1 z.2.2.1 z.2.2.2) (nn + 1)) (nI k) (-1) (shS E X st (1 * nI k)) (by decide) p1 Ya f1
      have hF : shF E X (100 - (k + 1) + 1) k st = shF E X (100 - (k + 1)) (k + 1) (shS E X (shS E X st (1 * nI k)) (-1 * nI k)) := by rw [shF_s, Int32.one_mul, neg2]
      obtain ⟨s1, hs1⟩ : ∃ s, shS E X st (1 * nI k) = s := ⟨_, rfl⟩
      rw [hs1] at e1 e2 hF
      obtain ⟨s2, hs2⟩ : ∃ s, shS E X s1 (-1 * nI k) = s := ⟨_, rfl⟩
      rw [hs2] at e2 hF
      obtain ⟨p3, e3⟩ := ih (k + 1) p2 Yb s2 f2 (by omega) (by omega)
      rw [p12] at e1
      rw [p13] at e2
      obtain ⟨r, hr⟩ : ∃ r, 100 - (k + 1) = r := ⟨_, rfl⟩
      rw [hr] at e3 hF
      rw [if_neg (show ¬ (99 : Int32) < nI k from nI_nlt (a := 99) (by omega) (by omega)), hs, hr, hF]
      unfold fX11_shiftLoad_l48
      rw [hnn, iterO_succ]
      refine ⟨p3, e1.trans ?_⟩
      rw [iterO_succ]
      refine e2.trans ?_
      rw [iterO_succ]
      refine (m_best3 Kk _ (X 10) (X 11) (nI k) (ms m p2 Yb) _ _).trans ?_
      rw [nI_1, e3]
theorem q_shiftLoad {g m : STt} {P N : Nat} (h : RelE g m P N) : ∃ g' m' r, fX10_shiftLoad g = some (g', r) ∧ fX11_shiftLoad m = some (m', r) ∧ RelE g' m' P N := by
  obtain ⟨E, rfl, hO, hE, hM⟩ := env_of h
  obtain ⟨b1, b2, b3, b4, b5⟩ := both_0 h
  unfold fX10_shiftLoad fX11_shiftLoad fX8_bestShift
  rw [d_over hE hO b2, n_over hM hO b3, is_at b1, b_if2, b_if2]
  by_cases cA : atX (m.2.1 57 0) < E.1
  · rw [if_pos cA, if_pos cA]
    obtain ⟨g1, e1, f1⟩ := c_hurt hE hO b1 b3 cA 0
    obtain ⟨p, e2⟩ := m_sum hM hO (m.2.1 69 0) b3 cA 2 (by omega)
    have e2 : fX11_sumOf (ms m (m.2.1 69 0) (m.2.1 57 0)) 2 = some (ms m p (m.2.1 57 0), E.2.2.2.2.1 2 (fcX E (m.2.1 57 0))) := e2
    rw [ms_id] at e2
    have h0 : htX E (m.2.1 57 0) 0 = E.2.2.2.2.1 2 (fcX E (m.2.1 57 0)) := by
      have a1 : inR (m.2.1 57 0 10) 0 99 := b3 10 (by omega)
      have a2 : inR (m.2.1 57 0 11) 0 99 := b3 11 (by omega)
      unfold htX ldX
      rw [Int32.sub_zero, Int32.add_zero, if_pos ⟨a1, a2⟩]
      have : upd (upd (m.2.1 57 0) 10 (m.2.1 57 0 10)) 11 (m.2.1 57 0 11) = m.2.1 57 0 := by
        funext j
        by_cases e1 : j = 11
        · subst e1; rw [upd_s]
        · rw [upd_n _ _ e1]
          by_cases e2 : j = 10
          · subst e2; rw [upd_s]
          · rw [upd_n _ _ e2]
      rw [this]
    obtain ⟨g2, e3, f2⟩ := c_best hE hO b1 b3 cA fuelN 1 g1 (0, htX E (m.2.1 57 0) 0) f1 (by omega) (by show 100 - 1 < 5000; omega)
    obtain ⟨p2, e4⟩ := m_best hM hO b3 cA fuelN 1 p (m.2.1 57 0) (0, htX E (m.2.1 57 0) 0) (fun _ _ _ => rfl) (by omega) (by show 100 - 1 < 5000; omega)
    rw [e1, bnd_e, bnd_id, e2, bnd_e, if_pos i15_10, if_pos i15_11, tn10, tn11, ms_57]
    unfold fX8_bestShift_l10 fX11_shiftLoad_l38
    rw [← h0]
    exact ⟨_, _, _, e3, e4, rel_F h f2 (FM_ms m _ (is_rf _))⟩
  · rw [if_neg cA, if_neg cA]; exact ⟨_, _, _, rfl, rfl, h⟩
