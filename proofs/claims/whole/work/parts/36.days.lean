/-! PURE: off, judge, days -/
def ofX (E : EVt) (R Q : Nat → Int32) : Nat → (Nat → Int32) → Nat → Int32
  | 0, _, _ => -5
  | r + 1, X, i => if (stX E X (R i) 0).2 = Q i then ofX E R Q r (stX E X (R i) 0).1 (i + 1) else nI i
theorem is_of {E : EVt} (hO : EOK E) {R Q R' Q' : Nat → Int32} : ∀ (r : Nat) (A B : Nat → Int32) (i : Nat), IsX A B → (∀ j, i ≤ j → j < i + r → R j = R' j ∧ Q j = Q' j) → ofX E R Q r A i = ofX E R' Q' r B i
  | 0, _, _, _, _, _ => rfl
  | r + 1, A, B, i, h, hr => by
    obtain ⟨r1, r2⟩ := hr i (by omega) (by omega)
    show (if (stX E A (R i) 0).2 = Q i then ofX E R Q r (stX E A (R i) 0).1 (i + 1) else nI i) = (if (stX E B (R' i) 0).2 = Q' i then ofX E R' Q' r (stX E B (R' i) 0).1 (i + 1) else nI i)
    rw [r1, r2]
    obtain ⟨h1, h2⟩ := is_st h hO (R' i) 0
    rw [h2, is_of hO r _ _ (i + 1) h1 (fun j a b => hr j (by omega) (by omega))]
def FmC (g : STt) (K : Nat) : Prop := K ≤ 12 ∧ g.1 20 2 = nI K
theorem c_off {g : STt} {E : EVt} {d : Nat} (hE : EnC g E) (hO : EOK E) {K Kf : Nat} (hK : RwC g K) (hF : FmC g Kf) : ∀ (fu i : Nat) (F L Y : Nat → Int32), i ≤ min K Kf → min K Kf - i < fu → DKn E.1 (min K Kf - i) Y → ∃ F' L' Y', iterO (fun Kk z => fX8_firstOtherwise_l7c Kk d z.1 z.2) fu (cs g d F L Y, nI i) = some (cs g d F' L' Y', ofX E (g.2.1 21 1) (g.2.1 21 2) (min K Kf - i) Y i) := by
  have h12 := hK.1
  have h12' := hF.1
  have sz : ∀ F L Y, fX5_size (cs g d F L Y) 2 = some (nI Kf) := fun F L Y => by unfold fX5_size; rw [cs_1, hF.2]
  intro fu
  induction fu with
  | zero => intro i F L Y h1 h2; omega
  | succ fu ih =>
    intro i F L Y h1 h2 hY
    rw [iterO_succ]
    generalize iterO (fun Kk z => fX8_firstOtherwise_l7c Kk d z.1 z.2) fu = Kk at ih ⊢
    show ∃ F' L' Y', fX8_firstOtherwise_l7c Kk d (cs g d F L Y) (nI i) = _
    unfold fX8_firstOtherwise_l7c
    rw [c_size hK, bnd1_e, sz, bnd1_e]
    by_cases c : i = min K Kf
    · rw [show min K Kf - i = 0 by omega]
      by_cases c2 : K ≤ i
      · rw [if_pos (nI_le c2 (by omega))]; exact ⟨F, L, Y, rfl⟩
      · rw [if_neg (nI_ge (by omega) (by omega)), if_pos (nI_le (by omega) (by omega))]; exact ⟨F, L, Y, rfl⟩
    · have hs : min K Kf - i = (min K Kf - (i + 1)) + 1 := by omega
      rw [hs] at hY
      obtain ⟨F1, L1, e1⟩ := c_step (d := d) hE hO F L Y (g.2.1 21 1 i) 0 (dkn_12 hY)
      obtain ⟨F2, L2, Y2, e2⟩ := ih (i + 1) F1 L1 _ (by omega) (by omega) (dkn_st hO hY (g.2.1 21 1 i) 0)
      have eq : fX5_get (cs g d F1 L1 (stX E Y (g.2.1 21 1 i) 0).1) 2 (nI i) = some (g.2.1 21 2 i) := by
        rw [eX5_get (n := 12) rfl (by omega) (show (cs g d F1 L1 (stX E Y (g.2.1 21 1 i) 0).1).1 20 2 = nI Kf by rw [cs_1, hF.2]) hF.1, if_pos (inB_nI (by omega) (by omega)), nI_c (by omega), cs_n _ _ _ _ _ (by omega) (by omega) (by omega)]
      rw [if_neg (nI_ge (by omega) (by omega)), if_neg (nI_ge (by omega) (by omega)), c_act hK F L Y (by omega), bnd1_e, e1, bnd_e, eq, bnd1_e, hs]
      show ∃ F' L' Y', _ = some (cs g d F' L' Y', if (stX E Y (g.2.1 21 1 i) 0).2 = g.2.1 21 2 i then ofX E (g.2.1 21 1) (g.2.1 21 2) (min K Kf - (i + 1)) (stX E Y (g.2.1 21 1 i) 0).1 (i + 1) else nI i)
      by_cases c2 : (stX E Y (g.2.1 21 1 i) 0).2 = g.2.1 21 2 i
      · rw [if_pos c2, if_pos c2, nI_1, e2]; exact ⟨_, _, _, rfl⟩
      · rw [if_neg c2, if_neg c2]; exact ⟨_, _, _, rfl⟩
theorem m_off {m : STt} {E : EVt} (hM : EnM m E) (hO : EOK E) (h40 : m.1 40 0 = 0) (h41 : m.1 41 0 = 0) {K Kf : Nat} (hK : RwM m K) (hF : Kf ≤ 12 ∧ m.1 46 0 = nI Kf) : ∀ (fu i : Nat) (pl Y : Nat → Int32), i ≤ min K Kf → min K Kf - i + 1 < fu → DKn E.1 (min K Kf - i) Y → ∃ p Y', iterO (fun K z => fX11_off_l9c K z.1 z.2.1 z.2.2) fu (ms m pl Y, -5, nI i) = some (ms m p Y', ofX E (m.2.1 70 0) (m.2.1 73 0) (min K Kf - i) Y i) ∧ IsX Y' (m.2.1 71 0) := by
  have h12 := hK.1
  have h12' := hF.1
  have fin : ∀ (fu : Nat) (pl Y : Nat → Int32) (a b : Nat), 0 < fu → a < 100 → ∃ p Y', iterO (fun K z => fX11_off_l9c K z.1 z.2.1 z.2.2) fu (ms m pl Y, nI a, nI b) = some (ms m p Y', nI a) ∧ IsX Y' (m.2.1 71 0) := by
    intro fu pl Y a b hf ha
    obtain ⟨fu, rfl⟩ : ∃ k, fu = k + 1 := ⟨fu - 1, by omega⟩
    obtain ⟨Y', e1, e2⟩ := e_lay m pl Y
    refine ⟨pl, Y', ?_, e2⟩
    rw [iterO_succ]
    show fX11_off_l9c _ (ms m pl Y) (nI a) (nI b) = _
    unfold fX11_off_l9c fX11_off_j56
    rw [e1, bnd1_e, if_pos (c := 0 ≤ nI a) (nI_pos' (by omega)), ite_self, ite_self]
  intro fu
  induction fu with
  | zero => intro i pl Y h1 h2; omega
  | succ fu ih =>
    intro i pl Y h1 h2 hY
    have fin := fin fu
    rw [iterO_succ]
    generalize iterO (fun K z => fX11_off_l9c K z.1 z.2.1 z.2.2) fu = Kk at ih fin ⊢
    show ∃ p Y', fX11_off_l9c Kk (ms m pl Y) (-5) (nI i) = _ ∧ _
    unfold fX11_off_l9c fX11_off_j56 fX11_off_j50
    rw [ms_1, hK.2, hF.2]
    by_cases c : i = min K Kf
    · obtain ⟨Y', e1, e2⟩ := e_lay m pl Y
      rw [e1, bnd1_e, show min K Kf - i = 0 by omega]
      by_cases c2 : K ≤ i
      · rw [if_pos (nI_le c2 (by omega))]; exact ⟨pl, Y', rfl, e2⟩
      · rw [if_neg (nI_ge (by omega) (by omega)), if_pos (nI_le (by omega) (by omega))]; exact ⟨pl, Y', rfl, e2⟩
    · have hs : min K Kf - i = (min K Kf - (i + 1)) + 1 := by omega
      rw [hs] at hY
      obtain ⟨p1, e1⟩ := m_stp hM hO pl hY (m.2.1 70 0 i) h40 h41
      rw [if_neg (nI_ge (by omega) (by omega)), if_neg (nI_ge (by omega) (by omega)), if_neg (by decide), if_pos (inB_nI (by omega) (by omega)), nI_c (by omega), m_act (K := K), e1, bnd_e, if_pos (inB_nI (by omega) (by omega)), ms_n _ _ _ (by omega) (by omega), hs]
      show ∃ p Y', _ = some (ms m p Y', if (stX E Y (m.2.1 70 0 i) 0).2 = m.2.1 73 0 i then ofX E (m.2.1 70 0) (m.2.1 73 0) (min K Kf - (i + 1)) (stX E Y (m.2.1 70 0 i) 0).1 (i + 1) else nI i) ∧ _
      by_cases c2 : (stX E Y (m.2.1 70 0 i) 0).2 = m.2.1 73 0 i
      · rw [if_pos c2, if_pos c2, nI_1]
        exact ih (i + 1) p1 _ (by omega) (by omega) (dkn_st hO hY _ 0)
      · rw [if_neg c2, if_neg c2, nI_1]
        exact fin p1 _ i (i + 1) (by omega) (by omega)
theorem films_of {g m : STt} {P N : Nat} (h : RelE g m P N) : ∃ K, FmC g K ∧ (K ≤ 12 ∧ m.1 46 0 = nI K) ∧ (∀ k, k < K → g.2.1 21 2 k = m.2.1 73 0 k) := by
  obtain ⟨hPl, hDo, h0, h1, ⟨K, k1, k2, k3, k4⟩, -⟩ := h
  exact ⟨K, ⟨k1, k2⟩, ⟨k1, k3⟩, fun k hk => (k4 k hk).1⟩
theorem q_off {g m : STt} {P N : Nat} (h : RelE g m P N) : ∃ g' m' r, fX10_off g = some (g', r) ∧ fX11_off m = some (m', r) ∧ RelE g' m' P N := by
  obtain ⟨E, W, rfl, hO, hE, hM, eW, iW, i1, k1, k2, b4, b5, o1, o2, e12, hE0, hM0⟩ := try_of h
  obtain ⟨K, hK, hK', hR⟩ := rows_of h
  obtain ⟨Kf, hF, hF', hQ⟩ := films_of h
  have a1 := hK.1
  obtain ⟨F', L', Y', e1⟩ := c_off (d := 2) hE hO (K := K) (Kf := Kf) ⟨hK.1, hK.2⟩ ⟨hF.1, hF.2⟩ fuelN 0 (g.2.1 7 0) (g.2.1 8 0) (Y1 g) (by omega) (by show _ < 5000; omega) (dkn_le k1 (by omega))
  obtain ⟨p, Z, e2, e3⟩ := m_off hM hO b4 b5 (K := K) (Kf := Kf) ⟨hK'.1, hK'.2⟩ ⟨hF'.1, hF'.2⟩ fuelN 0 (m.2.1 69 0) (m.2.1 57 0) (by omega) (by show _ < 5000; omega) (dkn_le k2 (by omega))
  rw [ms_71 W] at e2
  have ee : ofX E ((G1 g).2.1 21 1) ((G1 g).2.1 21 2) (min K Kf - 0) (Y1 g) 0 = ofX E ((sA m 71 0 W).2.1 70 0) ((sA m 71 0 W).2.1 73 0) (min K Kf - 0) (m.2.1 57 0) 0 :=
    is_of hO _ _ _ 0 i1 (fun j a b => ⟨(hR j (by omega)).1, hQ j (by omega)⟩)
  rw [ee] at e1
  refine ⟨_, _, ofX E ((sA m 71 0 W).2.1 70 0) ((sA m 71 0 W).2.1 73 0) (min K Kf - 0) (m.2.1 57 0) 0, ?_, ?_, rel_F h (FC_G1 g 2 (by omega) F' L' Y') (FM_kept m W p iW e3)⟩
  · unfold fX10_off fX8_firstOtherwise fX8_firstOtherwise_l7
    rw [bnd_id, e_begin1, bnd_e, if_pos (by decide)]
    exact e1
  · unfold fX11_off fX11_off_l9
    rw [eW, bnd1_e]
    exact e2
/-! days -/
def dyX (E : EVt) (R : Nat → Int32) (K : Nat) : Nat → (Nat → Int32) → (Nat → Int32)
  | 0, X => X
  | n + 1, X => dyX E R K n (rnX E R K (upd (upd (upd X 12 0) 9 0) 13 0) 0)
theorem is_dy {E : EVt} (hO : EOK E) {R R' : Nat → Int32} {K : Nat} (hR : ∀ j, j < K → R j = R' j) : ∀ (n : Nat) (A B : Nat → Int32), IsX A B → IsX (dyX E R K n A) (dyX E R' K n B)
  | 0, _, _, h => h
  | n + 1, A, B, h => is_dy hO hR n _ _ (is_rn hO K _ _ 0 (is_up (is_up (is_up h _ _) _ _) _ _) (fun j _ hj => hR j (by omega)))
theorem dok_dy {P : Nat} {hb : Int} {X : Nat → Int32} (h : DOK P hb X) : DOK P hb (upd (upd (upd X 12 0) 9 0) 13 0) :=
  DOK.upd (DOK.upd (DOK.upd h ⟨by decide, (by rw [show (0 : Int32).toInt = 0 from by decide]; show (0 : Int) ≤ (P : Int); omega)⟩) (b9 _ _)) (b13 _ _)
theorem c_days {g : STt} {E : EVt} {d : Nat} (hE : EnC g E) (hO : EOK E) {K : Nat} (hK : RwC g K) {n : Nat} (hn : n ≤ 99) : ∀ (fu i : Nat) (F L Y : Nat → Int32), i ≤ n → n - i < fu → DKn E.1 (12 * (n - i)) Y → ∃ F' L', iterO (fun Kk z => fX8_afterDays_l7c Kk (nI n) d z.1 z.2) fu (cs g d F L Y, nI i) = some (cs g d F' L' (dyX E (g.2.1 21 1) K (n - i) Y), d) := by
  have h12 := hK.1
  intro fu
  induction fu with
  | zero => intro i F L Y h1 h2; omega
  | succ fu ih =>
    intro i F L Y h1 h2 hY
    rw [iterO_succ]
    generalize iterO (fun Kk z => fX8_afterDays_l7c Kk (nI n) d z.1 z.2) fu = Kk at ih ⊢
    show ∃ F' L', fX8_afterDays_l7c Kk (nI n) d (cs g d F L Y) (nI i) = _
    unfold fX8_afterDays_l7c
    by_cases c : i = n
    · subst c; rw [if_pos (nI_le (Nat.le_refl i) (by omega)), show i - i = 0 by omega]; exact ⟨F, L, rfl⟩
    · have hs : n - i = (n - (i + 1)) + 1 := by omega
      have hD : DKn E.1 (12 * (n - (i + 1)) + 12) (upd (upd (upd Y 12 0) 9 0) 13 0) := dok_dy (dkn_le hY (by omega))
      obtain ⟨F1, L1, e1⟩ := c_row (d := d) hE hO hK (n := 12) (by omega) fuelN 0 F L (upd (upd (upd Y 12 0) 9 0) 13 0) (by omega) (by show _ < 5000; omega) (dkn_le hD (by omega))
      rw [show min 12 K - 0 = K by omega] at e1
      obtain ⟨F2, L2, e2⟩ := ih (i + 1) F1 L1 (rnX E (g.2.1 21 1) K (upd (upd (upd Y 12 0) 9 0) 13 0) 0) (by omega) (by omega) (dkn_rn hO _ K _ 0 (dkn_le hD (by omega)))
      rw [if_neg (nI_ge (by omega) (by omega)), if_neg (show ¬ (99 : Int32) ≤ nI i from nI_ge (b := 99) (by omega) (by omega)), c_put F L Y 12 12 (by omega) rfl, bnd1_e, c_put F L _ 9 9 (by omega) rfl, bnd1_e, c_put F L _ 13 13 (by omega) rfl, bnd1_e]
      refine ⟨F2, L2, ?_⟩
      have e3 : fX8_doRow (cs g d F L (upd (upd (upd Y 12 0) 9 0) 13 0)) d 12 = some (cs g d F1 L1 (rnX E (g.2.1 21 1) K (upd (upd (upd Y 12 0) 9 0) 13 0) 0)) := e1
      rw [e3, bnd1_e, nI_1, e2, hs]
      rfl
theorem m_dayL {m : STt} {E : EVt} (hM : EnM m E) (hO : EOK E) (h40 : m.1 40 0 = 0) (h41 : m.1 41 0 = 0) {K : Nat} (hK : RwM m K) (K30 : (STt × Int32) → Option (STt × Int32)) (a1 a2 a3 : Int32) : ∀ (fu i : Nat) (pl Y : Nat → Int32), i ≤ K → K - i < fu → DKn E.1 (K - i) Y → ∃ p, iterO (fun Kk z => fX11_days_l62c K30 Kk a1 a2 a3 z.1 z.2) fu (ms m pl Y, nI i) = K30 (ms m p (rnX E (m.2.1 70 0) (K - i) Y i), a3 + 1) := by
  have h12 := hK.1
  intro fu
  induction fu with
  | zero => intro i pl Y h1 h2; omega
  | succ fu ih =>
    intro i pl Y h1 h2 hY
    rw [iterO_succ]
    generalize iterO (fun Kk z => fX11_days_l62c K30 Kk a1 a2 a3 z.1 z.2) fu = Kk at ih ⊢
    show ∃ p, fX11_days_l62c K30 Kk a1 a2 a3 (ms m pl Y) (nI i) = _
    unfold fX11_days_l62c
    rw [ms_1, hK.2]
    by_cases c : i = K
    · subst c; rw [if_pos (nI_le (Nat.le_refl i) (by omega)), show i - i = 0 by omega]; exact ⟨pl, rfl⟩
    · have hs : K - i = (K - (i + 1)) + 1 := by omega
      rw [hs] at hY
      obtain ⟨p1, e1⟩ := m_stp hM hO pl hY (m.2.1 70 0 i) h40 h41
      obtain ⟨p2, e2⟩ := ih (i + 1) p1 _ (by omega) (by omega) (dkn_st hO hY (m.2.1 70 0 i) 0)
      rw [if_neg (nI_ge (by omega) (by omega)), if_pos (inB_nI (by omega) (by omega)), nI_c (by omega), m_act (K := K), e1, bnd_e, nI_1, e2, hs]
      exact ⟨p2, rfl⟩
def dvX (X : Nat → Int32) (w : Nat) : Int32 := if w = 0 then lrn X else if w = 1 then X 6 else X 12
theorem m_days {m : STt} {E : EVt} (hM : EnM m E) (hO : EOK E) (h40 : m.1 40 0 = 0) (h41 : m.1 41 0 = 0) {K : Nat} (hK : RwM m K) {n : Nat} (hn : n ≤ 99) {w : Nat} (hw : w < 3) : ∀ (fu i : Nat) (pl Y : Nat → Int32), i ≤ n → n - i < fu → DKn E.1 (12 * (n - i)) Y → ∃ p Y', iterO (fun Kk z => fX11_days_l30c Kk (nI n) (nI w) z.1 z.2) fu (ms m pl Y, nI i) = some (ms m p Y', dvX (dyX E (m.2.1 70 0) K (n - i) Y) w) ∧ IsX Y' (m.2.1 71 0) := by
  have h12 := hK.1
  intro fu
  induction fu with
  | zero => intro i pl Y h1 h2; omega
  | succ fu ih =>
    intro i pl Y h1 h2 hY
    rw [iterO_succ]
    generalize iterO (fun Kk z => fX11_days_l30c Kk (nI n) (nI w) z.1 z.2) fu = Kk at ih ⊢
    show ∃ p Y', fX11_days_l30c Kk (nI n) (nI w) (ms m pl Y) (nI i) = _ ∧ _
    unfold fX11_days_l30c fX11_days_j128
    by_cases c : i = n
    · subst c
      obtain ⟨Y', e1, e2⟩ := e_lay m pl Y
      rw [if_pos (nI_le (Nat.le_refl i) (by omega)), show i - i = 0 by omega, eX11_learnt, bnd1_e, e1, bnd1_e, bnd1_e, if_pos i15_6, if_pos i15_12, ms_57, tn6, tn12, bnd1_e]
      refine ⟨pl, Y', ?_, e2⟩
      unfold dvX
      have e : w = 0 ∨ w = 1 ∨ w = 2 := by omega
      rcases e with rfl | rfl | rfl <;> rfl
    · have hs : n - i = (n - (i + 1)) + 1 := by omega
      have hD : DKn E.1 (12 * (n - (i + 1)) + 12) (upd (upd (upd Y 12 0) 9 0) 13 0) := dok_dy (dkn_le hY (by omega))
      obtain ⟨p1, e1⟩ := m_dayL hM hO h40 h41 hK Kk (nI n) (nI w) (nI i) fuelN 0 pl (upd (upd (upd Y 12 0) 9 0) 13 0) (by omega) (by show _ < 5000; omega) (dkn_le hD (by omega))
      rw [show K - 0 = K by omega] at e1
      obtain ⟨p2, Y', e2, e3⟩ := ih (i + 1) p1 (rnX E (m.2.1 70 0) K (upd (upd (upd Y 12 0) 9 0) 13 0) 0) (by omega) (by omega) (dkn_rn hO _ K _ 0 (dkn_le hD (by omega)))
      rw [if_neg (nI_ge (by omega) (by omega)), if_pos i15_12, if_pos i15_9, if_pos i15_13, ms_u57, ms_u57, ms_u57, tn12, tn9, tn13]
      refine ⟨p2, Y', ?_, e3⟩
      unfold fX11_days_l62
      refine e1.trans ?_
      rw [nI_1, e2, hs]
      rfl
theorem q_days {g m : STt} {P N : Nat} (h : RelE g m P N) (x y : Int32) : ∃ g' m' r, fX10_days g x y = some (g', r) ∧ fX11_days m x y = some (m', r) ∧ RelE g' m' P N := by
  obtain ⟨E, W, rfl, hO, hE, hM, eW, iW, i1, k1, k2, b4, b5, o1, o2, e12, hE0, hM0⟩ := try_of h
  obtain ⟨K, hK, hK', hR⟩ := rows_of h
  unfold fX10_days fX11_days
  rw [rng2, eX11_in, b_if]
  by_cases c : (0 : Int32).toInt ≤ y.toInt ∧ y.toInt ≤ (2 : Int32).toInt
  · rw [if_pos c, if_pos c, rng2, eX11_in, b_if]
    have e2' : (2 : Int32).toInt = 2 := by decide
    have e99 : (99 : Int32).toInt = 99 := by decide
    have e0 : (0 : Int32).toInt = 0 := by decide
    obtain ⟨w, hw, rfl⟩ := inB_of (x := y) (n := 3) (inB_iff.mpr (by omega)) (by omega)
    by_cases c2 : (0 : Int32).toInt ≤ x.toInt ∧ x.toInt ≤ (99 : Int32).toInt
    · rw [if_pos c2, if_pos c2]
      obtain ⟨n, hn, rfl⟩ := inB_of (x := x) (n := 100) (inB_iff.mpr (by omega)) (by omega)
      obtain ⟨F', L', e1⟩ := c_days (d := 2) hE hO (K := K) ⟨hK.1, hK.2⟩ (n := n) (by omega) fuelN 0 (g.2.1 7 0) (g.2.1 8 0) (Y1 g) (by omega) (by show _ < 5000; omega) (dkn_le k1 (by omega))
      obtain ⟨p, Z, e2, e3⟩ := m_days hM hO b4 b5 (K := K) ⟨hK'.1, hK'.2⟩ (n := n) (by omega) hw fuelN 0 (m.2.1 69 0) (m.2.1 57 0) (by omega) (by show _ < 5000; omega) (dkn_le k2 (by omega))
      rw [ms_71 W] at e2
      have ii : IsX (dyX E ((G1 g).2.1 21 1) K (n - 0) (Y1 g)) (dyX E ((sA m 71 0 W).2.1 70 0) K (n - 0) (m.2.1 57 0)) := is_dy hO (fun j hj => (hR j hj).1) _ _ _ i1
      have hc : fX8_afterDays g (nI n) = some (cs (G1 g) 2 F' L' (dyX E ((G1 g).2.1 21 1) K (n - 0) (Y1 g)), 2) := by
        unfold fX8_afterDays fX8_afterDays_l7
        rw [e_begin1, bnd_e, if_pos (by decide)]
        exact e1
      rw [hc, bnd_e, if_pos (by decide), eX1_learnt, bnd1_e, c_get6, bnd1_e, c_get12, bnd1_e, cs_22]
      refine ⟨cs (G1 g) 2 F' L' (dyX E ((G1 g).2.1 21 1) K (n - 0) (Y1 g)), _, dvX (dyX E ((sA m 71 0 W).2.1 70 0) K (n - 0) (m.2.1 57 0)) w, ?_, ?_, rel_F h (FC_G1 g 2 (by omega) F' L' _) (FM_kept m W p iW e3)⟩
      · unfold dvX
        have e : w = 0 ∨ w = 1 ∨ w = 2 := by omega
        rcases e with rfl | rfl | rfl
        · rw [if_pos (by decide), if_pos rfl, lrn_c ii]
        · rw [if_neg (by decide), if_pos (by decide), if_neg (by omega), if_pos rfl, ii 6 (by omega)]
        · rw [if_neg (by decide), if_neg (by decide), if_neg (by omega), if_neg (by omega), ii 12 (by omega)]
      · unfold fX11_days_l30
        rw [eW, bnd1_e]
        exact e2
    · rw [if_neg c2, if_neg c2]; exact ⟨_, _, _, rfl, rfl, h⟩
  · rw [if_neg c, if_neg c]; exact ⟨_, _, _, rfl, rfl, h⟩
/-! judge -/
def jgX (E : EVt) (R : Nat → Int32) (T : Nat → Int64) (n a : Nat) : Nat → (Nat → Int32) → Nat → Int32
  | 0, _, _ => -5
  | r + 1, X, i => if a + i < n then (if T (a + i) = ((stX E X (R i) 0).1 12).toInt64 then jgX E R T n a r (stX E X (R i) 0).1 (i + 1) else nI i) else nI (100 + i)
theorem is_jg {E : EVt} (hO : EOK E) {R R' : Nat → Int32} {T T' : Nat → Int64} {n a : Nat} (hT : ∀ j, j < n → T j = T' j) : ∀ (r : Nat) (A B : Nat → Int32) (i : Nat), IsX A B → (∀ j, i ≤ j → j < i + r → R j = R' j) → jgX E R T n a r A i = jgX E R' T' n a r B i
  | 0, _, _, _, _, _ => rfl
  | r + 1, A, B, i, h, hr => by
    have r1 := hr i (by omega) (by omega)
    obtain ⟨h1, h2⟩ := is_st h hO (R' i) 0
    show (if a + i < n then (if T (a + i) = ((stX E A (R i) 0).1 12).toInt64 then jgX E R T n a r (stX E A (R i) 0).1 (i + 1) else nI i) else nI (100 + i)) = (if a + i < n then (if T' (a + i) = ((stX E B (R' i) 0).1 12).toInt64 then jgX E R' T' n a r (stX E B (R' i) 0).1 (i + 1) else nI i) else nI (100 + i))
    by_cases c : a + i < n
    · rw [if_pos c, if_pos c, r1, h1 12 (by omega), hT _ c, is_jg hO hT r _ _ (i + 1) h1 (fun j a b => hr j (by omega) (by omega))]
    · rw [if_neg c, if_neg c]
theorem c_judge {g : STt} {E : EVt} {d : Nat} (hE : EnC g E) (hO : EOK E) {K : Nat} (hK : RwC g K) {t n a : Nat} (hn : n ≤ 60) (ht : g.1 30 t = nI n) (ha : a ≤ 60) : ∀ (fu i : Nat) (F L Y : Nat → Int32), i ≤ K → K - i < fu → DKn E.1 (K - i) Y → ∃ F' L' Y', iterO (fun Kk z => fX8_firstMistold_l8c Kk t (nI a) d z.1 z.2) fu (cs g d F L Y, nI i) = some (cs g d F' L' Y', jgX E (g.2.1 21 1) (g.2.2.1 31 t) n a (K - i) Y i) := by
  have h12 := hK.1
  intro fu
  induction fu with
  | zero => intro i F L Y h1 h2; omega
  | succ fu ih =>
    intro i F L Y h1 h2 hY
    rw [iterO_succ]
    generalize iterO (fun Kk z => fX8_firstMistold_l8c Kk t (nI a) d z.1 z.2) fu = Kk at ih ⊢
    show ∃ F' L' Y', fX8_firstMistold_l8c Kk t (nI a) d (cs g d F L Y) (nI i) = _
    unfold fX8_firstMistold_l8c fX8_firstMistold_j44
    rw [c_size hK, bnd1_e]
    by_cases c : i = K
    · subst c; rw [if_pos (nI_le (Nat.le_refl i) (by omega)), show i - i = 0 by omega]; exact ⟨F, L, Y, rfl⟩
    · have hs : K - i = (K - (i + 1)) + 1 := by omega
      rw [hs] at hY
      obtain ⟨F1, L1, e1⟩ := c_step (d := d) hE hO F L Y (g.2.1 21 1 i) 0 (dkn_12 hY)
      obtain ⟨F2, L2, Y2, e2⟩ := ih (i + 1) F1 L1 _ (by omega) (by omega) (dkn_st hO hY (g.2.1 21 1 i) 0)
      rw [if_neg (nI_ge (by omega) (by omega)), if_neg (nI_pos (by omega)), if_neg (show ¬ (60 : Int32) < nI a from nI_nlt (a := 60) ha (by omega)), nI_add, eX6_has (g := cs g d F L Y) (n := n) ht hn, b_if, hs]
      show ∃ F' L' Y', _ = some (cs g d F' L' Y', if a + i < n then (if (g.2.2.1 31 t) (a + i) = ((stX E Y (g.2.1 21 1 i) 0).1 12).toInt64 then jgX E (g.2.1 21 1) (g.2.2.1 31 t) n a (K - (i + 1)) (stX E Y (g.2.1 21 1 i) 0).1 (i + 1) else nI i) else nI (100 + i))
      by_cases c2 : a + i < n
      · unfold fX6_get
        rw [if_pos (inB_nI c2 (by omega)), if_pos c2, c_act hK F L Y (by omega), bnd1_e, e1, bnd_e, eX6_has (g := cs g d F1 L1 (stX E Y (g.2.1 21 1 i) 0).1) (n := n) ht hn, b_if, if_pos (inB_nI c2 (by omega)), if_pos (inB_nI (show a + i < 60 by omega) (by omega)), bnd1_e, c_get12, bnd1_e, nI_c (by omega)]
        show ∃ F' L' Y', (if lg_cmp (g.2.2.1 31 t (a + i)) ((stX E Y (g.2.1 21 1 i) 0).1 12).toInt64 = 0 then _ else _) = some (cs g d F' L' Y', _)
        by_cases c3 : g.2.2.1 31 t (a + i) = ((stX E Y (g.2.1 21 1 i) 0).1 12).toInt64
        · rw [if_pos ((lg_cmp_eq _ _).mpr c3), if_pos c3, nI_1, e2]; exact ⟨_, _, _, rfl⟩
        · rw [if_neg (fun q => c3 ((lg_cmp_eq _ _).mp q)), if_neg c3]; exact ⟨_, _, _, rfl⟩
      · rw [if_neg (by rw [inB_iff, nI_toInt (by omega)]; omega), if_neg c2, show (100 : Int32) = nI 100 from rfl, nI_add]; exact ⟨_, _, _, rfl⟩
theorem l_lt (a c b : Int32) : lg_cmp (a.toInt64 + c.toInt64) b.toInt64 < 0 ↔ a.toInt + c.toInt < b.toInt := by
  rw [lg_cmp_lt, Int64.lt_iff_toInt_lt, l_add, Int32.toInt_toInt64]
theorem m_judgeF {m : STt} {t : Nat} {a' : Int32} : ∀ (fu : Nat) (pl Y : Nat → Int32) (a b : Nat), 0 < fu → a < 1000 → ∃ p Y', iterO (fun K z => fX11_judge_l57c K (nI t) a' z.1 z.2.1 z.2.2) fu (ms m pl Y, nI a, nI b) = some (ms m p Y', nI a) ∧ IsX Y' (m.2.1 71 0) := by
  intro fu pl Y a b hf ha
  obtain ⟨fu, rfl⟩ : ∃ k, fu = k + 1 := ⟨fu - 1, by omega⟩
  obtain ⟨Y', e1, e2⟩ := e_lay m pl Y
  refine ⟨pl, Y', ?_, e2⟩
  rw [iterO_succ]
  show fX11_judge_l57c _ (nI t) a' (ms m pl Y) (nI a) (nI b) = _
  unfold fX11_judge_l57c fX11_judge_j143
  rw [e1, bnd1_e, if_pos (c := 0 ≤ nI a) (nI_pos' (by omega)), ite_self]
theorem m_judge {m : STt} {E : EVt} (hM : EnM m E) (hO : EOK E) (h40 : m.1 40 0 = 0) (h41 : m.1 41 0 = 0) {K : Nat} (hK : RwM m K) {t n a : Nat} (ht6 : t < 6) (hn : n ≤ 60) (ht : m.2.1 75 0 t = nI n) (ha : a ≤ 60) : ∀ (fu i : Nat) (pl Y : Nat → Int32), i ≤ K → K - i + 1 < fu → DKn E.1 (K - i) Y → ∃ p Y', iterO (fun K z => fX11_judge_l57c K (nI t) (nI a) z.1 z.2.1 z.2.2) fu (ms m pl Y, -5, nI i) = some (ms m p Y', jgX E (m.2.1 70 0) (fun k => m.2.2.1 76 0 (60 * t + k)) n a (K - i) Y i) ∧ IsX Y' (m.2.1 71 0) := by
  have h12 := hK.1
  intro fu
  induction fu with
  | zero => intro i pl Y h1 h2; omega
  | succ fu ih =>
    intro i pl Y h1 h2 hY
    have fin := m_judgeF (m := m) (t := t) (a' := nI a) fu
    rw [iterO_succ]
    generalize iterO (fun K z => fX11_judge_l57c K (nI t) (nI a) z.1 z.2.1 z.2.2) fu = Kk at ih fin ⊢
    show ∃ p Y', fX11_judge_l57c Kk (nI t) (nI a) (ms m pl Y) (-5) (nI i) = _ ∧ _
    unfold fX11_judge_l57c fX11_judge_j143 fX11_judge_j137
    rw [ms_1, hK.2]
    by_cases c : i = K
    · obtain ⟨Y', e1, e2⟩ := e_lay m pl Y
      subst c
      rw [e1, bnd1_e, show i - i = 0 by omega, if_pos (nI_le (Nat.le_refl i) (by omega))]; exact ⟨pl, Y', rfl, e2⟩
    · have hs : K - i = (K - (i + 1)) + 1 := by omega
      rw [hs] at hY
      obtain ⟨p1, e1⟩ := m_stp hM hO pl hY (m.2.1 70 0 i) h40 h41
      rw [if_neg (nI_ge (by omega) (by omega)), if_neg (by decide), if_pos (inB_nI ht6 (by omega)), nI_c (show t < 2 ^ 31 by omega), ms_n _ _ _ (by omega) (by omega), ht, hs]
      show ∃ p Y', _ = some (ms m p Y', if a + i < n then (if m.2.2.1 76 0 (60 * t + (a + i)) = ((stX E Y (m.2.1 70 0 i) 0).1 12).toInt64 then jgX E (m.2.1 70 0) (fun k => m.2.2.1 76 0 (60 * t + k)) n a (K - (i + 1)) (stX E Y (m.2.1 70 0 i) 0).1 (i + 1) else nI i) else nI (100 + i)) ∧ _
      have f1 : (nI a).toInt = a := nI_toInt (by omega)
      have f2 : (nI i).toInt = i := nI_toInt (by omega)
      have f3 : (nI n).toInt = n := nI_toInt (by omega)
      by_cases c2 : a + i < n
      · rw [if_pos ((l_lt _ _ _).mpr (by omega)), if_pos c2, if_pos (inB_nI (by omega) (by omega)), nI_c (by omega), m_act (K := K), e1, bnd_e, ix60b, if_pos (inB_nI (show 60 * t + a + i < 360 by omega) (by omega)), if_pos i15_12, tn12, ms_57, nI_c (by omega), show 60 * t + (a + i) = 60 * t + a + i by omega]
        show ∃ p Y', (if lg_cmp (m.2.2.1 76 0 (60 * t + a + i)) ((stX E Y (m.2.1 70 0 i) 0).1 12).toInt64 = 0 then _ else _) = some (ms m p Y', _) ∧ _
        by_cases c3 : m.2.2.1 76 0 (60 * t + a + i) = ((stX E Y (m.2.1 70 0 i) 0).1 12).toInt64
        · rw [if_pos ((lg_cmp_eq _ _).mpr c3), if_pos c3, nI_1]
          exact ih (i + 1) p1 _ (by omega) (by omega) (dkn_st hO hY _ 0)
        · rw [if_neg (fun q => c3 ((lg_cmp_eq _ _).mp q)), if_neg c3, nI_1]
          exact fin p1 _ i (i + 1) (by omega) (by omega)
      · rw [if_neg (fun q => c2 (by have := (l_lt _ _ _).mp q; omega)), if_neg c2, show (100 : Int32) = nI 100 from rfl, nI_add, nI_1]
        exact fin pl Y (100 + i) (i + 1) (by omega) (by omega)
theorem fuel_s : fuelN = 4999 + 1 := rfl
theorem q_judge {g m : STt} {P N : Nat} (h : RelE g m P N) (x y : Int32) : ∃ g' m' r, fX10_judge g x y = some (g', r) ∧ fX11_judge m x y = some (m', r) ∧ RelE g' m' P N := by
  obtain ⟨E, W, rfl, hO, hE, hM, eW, iW, i1, k1, k2, b4, b5, o1, o2, e12, hE0, hM0⟩ := try_of h
  obtain ⟨K, hK, hK', hR⟩ := rows_of h
  have h12 := hK.1
  have hTp : RTp g m := h.2.2.2.2.2.2.1
  unfold fX10_judge fX11_judge fX10_judge_j29
  rw [eX10_tapeOf, eX11_isTape, b_if, bnd1_e]
  by_cases c : inB x 6 = true
  · simp only [if_pos c]
    obtain ⟨t, ht, rfl⟩ := inB_of c (by omega)
    rw [nI_c (by omega)]
    show ∃ g' m' r, (if t < 6 then _ else none) = some (g', r) ∧ _
    rw [if_pos ht]
    obtain ⟨t1, t2, t3, t4⟩ := hTp t ht
    unfold fX6_sort
    rw [← t1, eX6_holds, b_if2, bnd1_e, hK'.2]
    have cls : ∀ n, n ≤ 60 → g.1 30 t = nI n → ∃ F' L' Y', (bnd (fX8_firstMistold g t y) fun g_2 r_3 => some (g_2, r_3)) = some (cs (G1 g) 2 F' L' Y', if K = 0 then -5 else if 0 ≤ y.toInt ∧ y.toInt ≤ 60 then jgX E ((G1 g).2.1 21 1) ((G1 g).2.2.1 31 t) n y.toNatClampNeg K (Y1 g) 0 else 100) := by
      intro n hn hn2
      unfold fX8_firstMistold fX8_firstMistold_l8
      rw [bnd_id, e_begin1, bnd_e, if_pos (by decide)]
      by_cases cK : K = 0
      · subst cK
        refine ⟨g.2.1 7 0, g.2.1 8 0, Y1 g, ?_⟩
        rw [fuel_s, iterO_succ]
        show fX8_firstMistold_l8c _ t y 2 (cs (G1 g) 2 (g.2.1 7 0) (g.2.1 8 0) (Y1 g)) (nI 0) = _
        unfold fX8_firstMistold_l8c
        rw [c_size (g := G1 g) (K := 0) ⟨by omega, hK.2⟩, bnd1_e, if_pos (by decide), if_pos rfl]
      · rw [if_neg cK]
        by_cases cy : 0 ≤ y.toInt ∧ y.toInt ≤ 60
        · rw [if_pos cy]
          obtain ⟨a, ha, rfl⟩ := inB_of (x := y) (n := 61) (inB_iff.mpr (by have := cy.1; have := cy.2; omega)) (by omega)
          rw [nI_c (by omega)]
          exact c_judge (d := 2) hE hO (K := K) ⟨hK.1, hK.2⟩ hn hn2 (show a ≤ 60 by omega) fuelN 0 (g.2.1 7 0) (g.2.1 8 0) (Y1 g) (by omega) (by show K - 0 < 5000; omega) (dkn_le k1 (by omega))
        · rw [if_neg cy]
          refine ⟨g.2.1 7 0, g.2.1 8 0, Y1 g, ?_⟩
          rw [fuel_s, iterO_succ]
          show fX8_firstMistold_l8c _ t y 2 (cs (G1 g) 2 (g.2.1 7 0) (g.2.1 8 0) (Y1 g)) (nI 0) = _
          unfold fX8_firstMistold_l8c fX8_firstMistold_j44
          rw [c_size (g := G1 g) (K := K) ⟨hK.1, hK.2⟩, bnd1_e, if_neg (nI_ge (by omega) (by omega))]
          by_cases cy0 : y < 0
          · rw [if_pos cy0]; rfl
          · rw [if_neg cy0, if_pos (by (simp only [Int32.lt_iff_toInt_lt, Int32.le_iff_toInt_le, ← Int32.toInt_inj, Int32.reduceToInt] at *; omega))]; rfl
    by_cases c1 : g.1 29 t = -1
    · obtain ⟨F', L', Y', e1⟩ := cls 0 (by omega) (t3 c1)
      rw [if_pos c1, e1, c1, if_pos (c := (-1 : Int32) ≤ 0) (by decide)]
      by_cases cK : K = 0
      · subst cK
        rw [if_pos rfl, if_pos (c := nI 0 = 0) (by decide)]
        exact ⟨_, _, _, rfl, rfl, rel_F h (FC_G1 g 2 (by omega) _ _ _) (FM.rfl' m)⟩
      · rw [if_neg cK, if_neg (c := nI K = 0) (fun q => cK ((nI_eq (b := 0) (by omega) (by omega)).mp q)), if_pos (c := (-1 : Int32) < 0) (by decide)]
        refine ⟨_, m, 100, ?_, rfl, rel_F h (FC_G1 g 2 (by omega) F' L' Y') (FM.rfl' m)⟩
        refine congrArg (fun q : Int32 => some (cs (G1 g) 2 F' L' Y', q)) ?_
        by_cases cy : 0 ≤ y.toInt ∧ y.toInt ≤ 60
        · rw [if_pos cy]
          obtain ⟨k, rfl⟩ : ∃ k, K = k + 1 := ⟨K - 1, by omega⟩
          show (if _ + 0 < 0 then _ else nI (100 + 0)) = _
          rw [if_neg (by omega)]
          rfl
        · rw [if_neg cy]
    · have c2 : 0 ≤ (g.1 29 t).toInt := by
        have : ¬ (g.1 29 t).toInt = -1 := fun hh => c1 (Int32.toInt_inj.mp (hh.trans (by decide)))
        have := t2.1
        omega
      obtain ⟨n, n1, n2, n3, n4⟩ := t4 c1
      rw [if_neg c1]
      by_cases c3 : g.1 29 t = 0
      · obtain ⟨F', L', Y', e1⟩ := cls n n1 n2
        rw [if_pos c3, e1, c3, if_pos (c := (0 : Int32) ≤ 0) (by decide), if_neg (c := (0 : Int32) < 0) (by decide)]
        by_cases cK : K = 0
        · subst cK
          rw [if_pos rfl, if_pos (c := nI 0 = 0) (by decide)]
          exact ⟨_, _, _, rfl, rfl, rel_F h (FC_G1 g 2 (by omega) _ _ _) (FM.rfl' m)⟩
        · rw [if_neg cK, if_neg (c := nI K = 0) (fun q => cK ((nI_eq (b := 0) (by omega) (by omega)).mp q)), eW, bnd1_e]
          by_cases cy : 0 ≤ y.toInt ∧ y.toInt ≤ 60
          · rw [if_pos cy]
            obtain ⟨a, ha, rfl⟩ := inB_of (x := y) (n := 61) (inB_iff.mpr (by have := cy.1; have := cy.2; omega)) (by omega)
            rw [nI_c (by omega), if_pos (nI_pos' (by omega))]
            obtain ⟨p, Z, e2, e3⟩ := m_judge hM hO b4 b5 (K := K) ⟨hK'.1, hK'.2⟩ ht n1 n3 (show a ≤ 60 by omega) fuelN 0 (m.2.1 69 0) (m.2.1 57 0) (by omega) (by show K - 0 + 1 < 5000; omega) (dkn_le k2 (by omega))
            rw [ms_71 W] at e2
            refine ⟨_, _, jgX E ((sA m 71 0 W).2.1 70 0) (fun k => (sA m 71 0 W).2.2.1 76 0 (60 * t + k)) n a (K - 0) (m.2.1 57 0) 0, ?_, e2, rel_F h (FC_G1 g 2 (by omega) F' L' Y') (FM_kept m W p iW e3)⟩
            refine congrArg (fun q : Int32 => some (cs (G1 g) 2 F' L' Y', q)) ?_
            exact is_jg hO (fun j hj => n4 j hj) K _ _ 0 i1 (fun j _ hj => (hR j (by omega)).1)
          · rw [if_neg cy]
            by_cases cy0 : 0 ≤ y
            · rw [if_pos cy0]
              obtain ⟨p, Z, e2, e3⟩ := m_judgeF (m := sA m 71 0 W) (t := t) (a' := y) 4999 (m.2.1 69 0) (m.2.1 57 0) 100 1 (by omega) (by omega)
              refine ⟨_, ms (sA m 71 0 W) p Z, 100, rfl, ?_, rel_F h (FC_G1 g 2 (by omega) F' L' Y') (FM_kept m W p iW e3)⟩
              rw [ms_71 W] at e2
              unfold fX11_judge_l57
              rw [fuel_s, iterO_succ]
              generalize iterO (fun K z => fX11_judge_l57c K (nI t) y z.1 z.2.1 z.2.2) 4999 = KK at e2 ⊢
              show fX11_judge_l57c KK (nI t) y (sA m 71 0 W) (-5) 0 = _
              unfold fX11_judge_l57c fX11_judge_j137
              have f3 : (nI n).toInt = n := nI_toInt (by omega)
              have f0 : (0 : Int32).toInt = 0 := by decide
              have cyy : 60 < y.toInt := by (simp only [Int32.lt_iff_toInt_lt, Int32.le_iff_toInt_le, ← Int32.toInt_inj, Int32.reduceToInt] at *; omega)
              rw [show (sA m 71 0 W).1 42 0 = nI K from hK'.2, if_neg (show ¬ nI K ≤ 0 from nI_nle (by omega) (by omega)), if_neg (by decide), if_pos (inB_nI ht (by omega)), nI_c (by omega), show (sA m 71 0 W).2.1 75 0 t = nI n from n3, if_neg (fun q => by have := (l_lt _ _ _).mp q; omega)]
              exact e2
            · rw [if_neg cy0]
              exact ⟨_, _, _, rfl, rfl, rel_F h (FC_G1 g 2 (by omega) F' L' Y') (FM.rfl' m)⟩
      · rw [if_neg c3, if_neg (show ¬ g.1 29 t ≤ 0 by (simp only [Int32.lt_iff_toInt_lt, Int32.le_iff_toInt_le, ← Int32.toInt_inj, Int32.reduceToInt] at *; omega))]
        exact ⟨_, _, _, rfl, rfl, h⟩
  · simp only [if_neg c]
    exact ⟨_, _, _, rfl, rfl, h⟩
