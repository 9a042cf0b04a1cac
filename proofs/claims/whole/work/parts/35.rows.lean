/-! PURE: rows of acts: hand, waits, round, days, off, judge -/
def rnX (E : EVt) (R : Nat → Int32) : Nat → (Nat → Int32) → Nat → (Nat → Int32)
  | 0, X, _ => X
  | n + 1, X, i => rnX E R n (stX E X (R i) 0).1 (i + 1)
theorem is_rn {E : EVt} (hO : EOK E) {R R' : Nat → Int32} : ∀ (n : Nat) (A B : Nat → Int32) (i : Nat), IsX A B → (∀ j, i ≤ j → j < i + n → R j = R' j) → IsX (rnX E R n A i) (rnX E R' n B i)
  | 0, _, _, _, h, _ => h
  | n + 1, A, B, i, h, hr => by
    show IsX (rnX E R n (stX E A (R i) 0).1 (i + 1)) (rnX E R' n (stX E B (R' i) 0).1 (i + 1))
    rw [hr i (by omega) (by omega)]
    exact is_rn hO n _ _ _ (is_st h hO _ _).1 (fun j h1 h2 => hr j (by omega) (by omega))
theorem dkn_rn {E : EVt} (hO : EOK E) (R : Nat → Int32) {B : Nat} : ∀ (n : Nat) (A : Nat → Int32) (i : Nat), DKn E.1 (n + B) A → DKn E.1 B (rnX E R n A i)
  | 0, _, _, h => by rw [Nat.zero_add] at h; exact h
  | n + 1, A, i, h => dkn_rn hO R n _ _ (dkn_st hO (by rw [show n + 1 + B = n + B + 1 by omega] at h; exact h) _ _)
theorem m_stp {m : STt} {E : EVt} (hM : EnM m E) (hO : EOK E) (pl : Nat → Int32) {Y : Nat → Int32} {n : Nat} (hY : DKn E.1 (n + 1) Y) (act : Int32) (h40 : m.1 40 0 = 0) {w : Int32} (h41 : m.1 41 0 = w) : ∃ p, fX11_does (ms m pl Y) act = some (ms m p (stX E Y act w).1, (stX E Y act w).2) := by
  subst h41
  exact m_does hM hO pl hY (by omega) act h40
/-- the row on the class's side: K acts, R -/
def RwC (g : STt) (K : Nat) : Prop := K ≤ 12 ∧ g.1 20 1 = nI K
def RwM (m : STt) (K : Nat) : Prop := K ≤ 12 ∧ m.1 42 0 = nI K
theorem c_size {g : STt} {d K : Nat} (h : RwC g K) (F L Y : Nat → Int32) : fX5_size (cs g d F L Y) 1 = some (nI K) := by
  unfold fX5_size; rw [cs_1, h.2]
theorem c_act {g : STt} {d K : Nat} (h : RwC g K) (F L Y : Nat → Int32) {i : Nat} (hi : i < K) : fX5_get (cs g d F L Y) 1 (nI i) = some (g.2.1 21 1 i) := by
  have h12 := h.1
  rw [eX5_get (n := 12) rfl (by omega) (show (cs g d F L Y).1 20 1 = nI K by rw [cs_1, h.2]) h.1, if_pos (inB_nI hi (by omega)), nI_c (by omega), cs_n _ _ _ _ _ (by omega) (by omega) (by omega)]
theorem c_row {g : STt} {E : EVt} {d : Nat} (hE : EnC g E) (hO : EOK E) {K : Nat} (hK : RwC g K) {n : Nat} (hn : n ≤ 100) : ∀ (fu i : Nat) (F L Y : Nat → Int32), i ≤ min n K → min n K - i < fu → DKn E.1 (min n K - i) Y → ∃ F' L', iterO (fun Kk z => fX8_doRow_l2c Kk d (nI n) z.1 z.2) fu (cs g d F L Y, nI i) = some (cs g d F' L' (rnX E (g.2.1 21 1) (min n K - i) Y i)) := by
  have h12 := hK.1
  intro fu
  induction fu with
  | zero => intro i F L Y h1 h2; omega
  | succ fu ih =>
    intro i F L Y h1 h2 hY
    rw [iterO_succ]
    generalize iterO (fun Kk z => fX8_doRow_l2c Kk d (nI n) z.1 z.2) fu = Kk at ih ⊢
    show ∃ F' L', fX8_doRow_l2c Kk d (nI n) (cs g d F L Y) (nI i) = _
    unfold fX8_doRow_l2c
    by_cases c : i = min n K
    · rw [show min n K - i = 0 by omega]
      by_cases c2 : n ≤ i
      · rw [if_pos (nI_le c2 (by omega))]; exact ⟨F, L, rfl⟩
      · rw [if_neg (nI_ge (by omega) (by omega)), c_size hK, bnd1_e, if_pos (nI_le (by omega) (by omega))]; exact ⟨F, L, rfl⟩
    · have hs : min n K - i = (min n K - (i + 1)) + 1 := by omega
      rw [hs] at hY
      obtain ⟨F1, L1, e1⟩ := c_step (d := d) hE hO F L Y (g.2.1 21 1 i) 0 (dkn_12 hY)
      obtain ⟨F2, L2, e2⟩ := ih (i + 1) F1 L1 _ (by omega) (by omega) (dkn_st hO hY (g.2.1 21 1 i) 0)
      rw [if_neg (nI_ge (by omega) (by omega)), c_size hK, bnd1_e, if_neg (nI_ge (by omega) (by omega)), c_act hK F L Y (by omega), bnd1_e, e1, bnd_e, nI_1, e2, hs]
      exact ⟨F2, L2, rfl⟩
theorem c_tell {g : STt} {d w : Nat} (hw : w < 16) (F L Y : Nat → Int32) : fX1_tell (cs g d F L Y) d (nI w) = some (if w = 15 then lrn Y else Y w) := by
  rw [eX1_tell _ _ _ hw, cs_22]
theorem m_tell {m : STt} {w : Nat} (hw : w < 16) (p Y : Nat → Int32) : fX11_nowOf (ms m p Y) (nI w) = some (if w = 15 then lrn Y else Y w) := by
  rw [eX11_nowOf _ _ hw, ms_57]
theorem tell_is {A B : Nat → Int32} (h : IsX A B) {w : Nat} (hw : w < 16) : (if w = 15 then lrn A else A w) = (if w = 15 then lrn B else B w) := by
  by_cases c : w = 15
  · rw [if_pos c, if_pos c, lrn_c h]
  · rw [if_neg c, if_neg c, h w (by omega)]
theorem m_act {m : STt} {K : Nat} (p Y : Nat → Int32) : (ms m p Y).2.1 70 0 = m.2.1 70 0 := ms_n _ _ _ (by omega) (by omega)
theorem m_hand {m : STt} {E : EVt} (hM : EnM m E) (hO : EOK E) (h40 : m.1 40 0 = 0) (h41 : m.1 41 0 = 0) {n : Nat} (hn : n ≤ 12) {w : Nat} (hw : w < 16) : ∀ (fu i : Nat) (pl Y : Nat → Int32), i ≤ n → n - i < fu → DKn E.1 (n - i) Y → ∃ p Y', iterO (fun K z => fX11_hand_l33c K (nI n) (nI w) z.1 z.2) fu (ms m pl Y, nI i) = some (ms m p Y', if w = 15 then lrn (rnX E (m.2.1 70 0) (n - i) Y i) else rnX E (m.2.1 70 0) (n - i) Y i w) ∧ IsX Y' (m.2.1 71 0) := by
  intro fu
  induction fu with
  | zero => intro i pl Y h1 h2; omega
  | succ fu ih =>
    intro i pl Y h1 h2 hY
    rw [iterO_succ]
    generalize iterO (fun K z => fX11_hand_l33c K (nI n) (nI w) z.1 z.2) fu = Kk at ih ⊢
    show ∃ p Y', fX11_hand_l33c Kk (nI n) (nI w) (ms m pl Y) (nI i) = _ ∧ _
    unfold fX11_hand_l33c
    by_cases c : i = n
    · subst c
      obtain ⟨Y', e1, e2⟩ := e_lay m pl Y
      rw [if_pos (nI_le (Nat.le_refl i) (by omega)), m_tell hw, bnd1_e, e1, bnd1_e, show i - i = 0 by omega]
      exact ⟨pl, Y', rfl, e2⟩
    · have hs : n - i = (n - (i + 1)) + 1 := by omega
      rw [hs] at hY
      obtain ⟨p1, e1⟩ := m_stp hM hO pl hY (m.2.1 70 0 i) h40 h41
      obtain ⟨p2, Y', e2, e3⟩ := ih (i + 1) p1 _ (by omega) (by omega) (dkn_st hO hY (m.2.1 70 0 i) 0)
      rw [if_neg (nI_ge (by omega) (by omega)), if_pos (inB_nI (by omega) (by omega)), nI_c (by omega), ms_n _ _ _ (by omega) (by omega), e1, bnd_e, nI_1, e2, hs]
      exact ⟨p2, Y', rfl, e3⟩
theorem rows_of {g m : STt} {P N : Nat} (h : RelE g m P N) : ∃ K, RwC g K ∧ RwM m K ∧ (∀ k, k < K → g.2.1 21 1 k = m.2.1 70 0 k ∧ inR (g.2.1 21 1 k) 0 7) := by
  obtain ⟨hPl, hDo, h0, ⟨K, k1, k2, k3, k4⟩, -⟩ := h
  exact ⟨K, ⟨k1, k2⟩, ⟨k1, k3⟩, k4⟩
/-- what a call's start on both sides gives -/
theorem q_hand {g m : STt} {P N : Nat} (h : RelE g m P N) (x y : Int32) : ∃ g' m' r, fX10_hand g x y = some (g', r) ∧ fX11_hand m x y = some (m', r) ∧ RelE g' m' P N := by
  obtain ⟨E, rfl, hO, hE, hM⟩ := env_of h
  obtain ⟨b1, b2, b3, b4, b5⟩ := both_0 h
  obtain ⟨K, hK, hK', hR⟩ := rows_of h
  have h12 := hK.1
  unfold fX10_hand fX11_hand
  rw [rng2, eX11_in, b_if]
  by_cases c : (0 : Int32).toInt ≤ y.toInt ∧ y.toInt ≤ (15 : Int32).toInt
  · rw [if_pos c, if_pos c]
    have e6 : (15 : Int32).toInt = 15 := by decide
    have e0 : (0 : Int32).toInt = 0 := by decide
    obtain ⟨w, hw, rfl⟩ := inB_of (x := y) (n := 16) (inB_iff.mpr (by omega)) (by omega)
    unfold fX5_size
    rw [bnd1_e, hK.2, hK'.2, rng2, eX11_in, b_if, nI_toInt (by omega)]
    by_cases c2 : (0 : Int32).toInt ≤ x.toInt ∧ x.toInt ≤ (K : Int)
    · rw [if_pos c2, if_pos c2]
      obtain ⟨n, hn, rfl⟩ := inB_of (x := x) (n := K + 1) (inB_iff.mpr (by omega)) (by omega)
      obtain ⟨W, eW, iW⟩ := e_keep m
      rw [eW, bnd1_e]
      have hg1 : EnC (sS g 11 0 (g.2.1 22 0 12 + 1)) E := EnC_F hE (FC_11 g _)
      have i1 : IsX (cpY (g.2.1 22 0) (g.2.1 22 2)) (m.2.1 57 0) := is_tr (cpY_is _ _) b1
      obtain ⟨F', L', e1⟩ := c_row (d := 2) hg1 hO (K := K) ⟨hK.1, hK.2⟩ (n := n) (by omega) fuelN 0 (g.2.1 7 0) (g.2.1 8 0) (cpY (g.2.1 22 0) (g.2.1 22 2)) (by omega) (by show _ < 5000; omega) (dkn_of (dok_is b3 i1) (by omega))
      have hm1 : EnM (sA m 71 0 W) E := EnM_F hM (FM_71 m W)
      obtain ⟨p, Y', e2, e3⟩ := m_hand hm1 hO b4 b5 (n := n) (by omega) hw fuelN 0 (m.2.1 69 0) (m.2.1 57 0) (by omega) (by show _ < 5000; omega) (dkn_of b3 (by omega))
      rw [show ms (sA m 71 0 W) (m.2.1 69 0) (m.2.1 57 0) = sA m 71 0 W from ms_id (sA m 71 0 W)] at e2
      have hc : (bnd (fX8_byHand g (nI n)) fun g_8 r_9 => (if r_9 < 10 then (bnd1 (fX1_tell g_8 r_9 (nI w)) fun r_12 => (some (g_8, r_12))) else none)) = some (cs (sS g 11 0 (g.2.1 22 0 12 + 1)) 2 F' L' (rnX E (g.2.1 21 1) n (cpY (g.2.1 22 0) (g.2.1 22 2)) 0), if w = 15 then lrn (rnX E (m.2.1 70 0) n (m.2.1 57 0) 0) else rnX E (m.2.1 70 0) n (m.2.1 57 0) 0 w) := by
        unfold fX8_byHand fX8_doRow fX8_doRow_l2
        rw [e_begin, bnd_e, if_pos (by decide)]
        refine (congrArg (fun q => bnd (bnd1 q _) _) e1).trans ?_
        rw [show min n K - 0 = n by omega, bnd1_e, bnd_e, if_pos (by decide), c_tell hw, bnd1_e]
        exact congrArg (fun q : Int32 => some (cs (sS g 11 0 (g.2.1 22 0 12 + 1)) 2 F' L' (rnX E (g.2.1 21 1) n (cpY (g.2.1 22 0) (g.2.1 22 2)) 0), q)) (tell_is (is_rn hO n _ _ 0 i1 (fun j _ hj => (hR j (by omega)).1)) hw)
      exact ⟨_, _, _, hc, e2, rel_F h ((FC_11 g _).tr (FC_cs _ (d := 2) (by omega) F' L' _)) (FM_kept m W p iW e3)⟩
    · rw [if_neg c2, if_neg c2]
      exact ⟨_, _, _, rfl, rfl, h⟩
  · rw [if_neg c, if_neg c]
    exact ⟨_, _, _, rfl, rfl, h⟩
def G1 (g : STt) : STt := sS g 11 0 (g.2.1 22 0 12 + 1)
def Y1 (g : STt) : Nat → Int32 := cpY (g.2.1 22 0) (g.2.1 22 2)
theorem e_begin1 (g : STt) : fX8_begin g = some (cs (G1 g) 2 (g.2.1 7 0) (g.2.1 8 0) (Y1 g), 2) := e_begin g
theorem G1_11 (g : STt) : (G1 g).1 11 0 = g.2.1 22 0 12 + 1 := rfl
theorem FC_G1 (g : STt) (d : Nat) (hd : 2 ≤ d) (F L Y : Nat → Int32) : FC g (cs (G1 g) d F L Y) := (FC_11 g _).tr (FC_cs _ hd F L Y)
theorem EnC_G1 {g : STt} {E : EVt} (h : EnC g E) : EnC (G1 g) E := EnC_F h (FC_11 g _)
theorem ms_71 (m W : Nat → Int32) (m' : STt) : ms (sA m' 71 0 W) (m'.2.1 69 0) (m'.2.1 57 0) = sA m' 71 0 W := ms_id (sA m' 71 0 W)
/-- all that a trial on both sides starts from -/
theorem try_of {g m : STt} {P N : Nat} (h : RelE g m P N) : ∃ E W, E.1 = P ∧ EOK E ∧ EnC (G1 g) E ∧ EnM (sA m 71 0 W) E ∧ fX11_keepNow m = some (sA m 71 0 W) ∧ IsX W (m.2.1 57 0) ∧ IsX (Y1 g) (m.2.1 57 0) ∧ DKn P 9000 (Y1 g) ∧ DKn P 9000 (m.2.1 57 0) ∧ m.1 40 0 = 0 ∧ m.1 41 0 = 0 ∧ fX10_isOver g = some (if atX (m.2.1 57 0) < P then 0 else 1) ∧ fX11_isOver m = some (if atX (m.2.1 57 0) < P then 0 else 1) ∧ g.2.1 22 0 12 = m.2.1 57 0 12 ∧ EnC g E ∧ EnM m E := by
  obtain ⟨E, rfl, hO, hE, hM⟩ := env_of h
  obtain ⟨b1, b2, b3, b4, b5⟩ := both_0 h
  obtain ⟨W, eW, iW⟩ := e_keep m
  have i1 : IsX (Y1 g) (m.2.1 57 0) := is_tr (cpY_is _ _) b1
  refine ⟨E, W, rfl, hO, EnC_G1 hE, EnM_F hM (FM_71 m W), eW, iW, i1, dkn_of (dok_is b3 i1) (by omega), dkn_of b3 (by omega), b4, b5, ?_, n_over hM hO b3, b1 12 (by omega), hE, hM⟩
  rw [d_over hE hO b2, is_at b1]
/-! waits, round -/
def wtX (E : EVt) (gl : Int32) : Nat → (Nat → Int32) → Nat → Int32
  | 0, _, _ => -5
  | r + 1, X, i => if (stX E X 0 0).1 12 = gl then nI i else wtX E gl r (stX E X 0 0).1 (i + 1)
theorem is_wt {E : EVt} (hO : EOK E) (gl : Int32) : ∀ (r : Nat) (A B : Nat → Int32) (i : Nat), IsX A B → wtX E gl r A i = wtX E gl r B i
  | 0, _, _, _, _ => rfl
  | r + 1, A, B, i, h => by
    have h' := (is_st h hO 0 0).1
    show (if (stX E A 0 0).1 12 = gl then nI i else wtX E gl r (stX E A 0 0).1 (i + 1)) = (if (stX E B 0 0).1 12 = gl then nI i else wtX E gl r (stX E B 0 0).1 (i + 1))
    rw [h' 12 (by omega), is_wt hO gl r _ _ (i + 1) h']
theorem wt_val (E : EVt) (gl : Int32) : ∀ (r : Nat) (A : Nat → Int32) (i : Nat), wtX E gl r A i = -5 ∨ ∃ j, i ≤ j ∧ j < i + r ∧ wtX E gl r A i = nI j
  | 0, _, _ => Or.inl rfl
  | r + 1, A, i => by
    show (if (stX E A 0 0).1 12 = gl then nI i else wtX E gl r (stX E A 0 0).1 (i + 1)) = -5 ∨ ∃ j, i ≤ j ∧ j < i + (r + 1) ∧ (if (stX E A 0 0).1 12 = gl then nI i else wtX E gl r (stX E A 0 0).1 (i + 1)) = nI j
    by_cases c : (stX E A 0 0).1 12 = gl
    · rw [if_pos c]; exact Or.inr ⟨i, by omega, by omega, rfl⟩
    · rw [if_neg c]
      rcases wt_val E gl r (stX E A 0 0).1 (i + 1) with h | ⟨j, h1, h2, h3⟩
      · exact Or.inl h
      · exact Or.inr ⟨j, by omega, by omega, h3⟩
theorem c_wait {g : STt} {E : EVt} {d : Nat} (hE : EnC g E) (hO : EOK E) : ∀ (fu i : Nat) (F L Y : Nat → Int32), i ≤ 61 → 61 - i < fu → DKn E.1 (61 - i) Y → ∃ F' L' Y', iterO (fun K z => fX8_waiting_l7c K d z.1 z.2) fu (cs g d F L Y, nI i) = some (cs g d F' L' Y', wtX E (g.1 11 0) (61 - i) Y i) := by
  intro fu
  induction fu with
  | zero => intro i F L Y h1 h2; omega
  | succ fu ih =>
    intro i F L Y h1 h2 hY
    rw [iterO_succ]
    generalize iterO (fun K z => fX8_waiting_l7c K d z.1 z.2) fu = Kk at ih ⊢
    show ∃ F' L' Y', fX8_waiting_l7c Kk d (cs g d F L Y) (nI i) = _
    unfold fX8_waiting_l7c
    by_cases c : i = 61
    · subst c; rw [if_pos (by decide)]; exact ⟨F, L, Y, rfl⟩
    · have hs : 61 - i = (61 - (i + 1)) + 1 := by omega
      rw [hs] at hY
      obtain ⟨F1, L1, e1⟩ := c_step (d := d) hE hO F L Y 0 0 (dkn_12 hY)
      obtain ⟨F2, L2, Y2, e2⟩ := ih (i + 1) F1 L1 _ (by omega) (by omega) (dkn_st hO hY 0 0)
      rw [if_neg (show ¬ (60 : Int32) < nI i from nI_nlt (a := 60) (by omega) (by omega)), e1, bnd_e, c_get12, bnd1_e, cs_1, hs]
      show ∃ F' L' Y', _ = some (cs g d F' L' Y', if (stX E Y 0 0).1 12 = g.1 11 0 then nI i else wtX E (g.1 11 0) (61 - (i + 1)) (stX E Y 0 0).1 (i + 1))
      by_cases c2 : (stX E Y 0 0).1 12 = g.1 11 0
      · rw [if_pos c2, if_pos c2]; exact ⟨_, _, _, rfl⟩
      · rw [if_neg c2, if_neg c2, nI_1, e2]; exact ⟨_, _, _, rfl⟩
theorem m_wait {m : STt} {E : EVt} (hM : EnM m E) (hO : EOK E) (h40 : m.1 40 0 = 0) (h41 : m.1 41 0 = 0) : ∀ (fu i : Nat) (pl Y : Nat → Int32), i ≤ 61 → 62 - i < fu → DKn E.1 (61 - i) Y → ∃ p Y', iterO (fun K z => fX11_waitsFor_l9c K z.1 z.2.1 z.2.2) fu (ms m pl Y, -5, nI i) = some (ms m p Y', wtX E (m.2.1 71 0 12 + 1) (61 - i) Y i) ∧ IsX Y' (m.2.1 71 0) := by
  have fin : ∀ (fu : Nat) (pl Y : Nat → Int32) (a b : Nat), 0 < fu → a < 100 → ∃ p Y', iterO (fun K z => fX11_waitsFor_l9c K z.1 z.2.1 z.2.2) fu (ms m pl Y, nI a, nI b) = some (ms m p Y', nI a) ∧ IsX Y' (m.2.1 71 0) := by
    intro fu pl Y a b hf ha
    obtain ⟨fu, rfl⟩ : ∃ k, fu = k + 1 := ⟨fu - 1, by omega⟩
    obtain ⟨Y', e1, e2⟩ := e_lay m pl Y
    refine ⟨pl, Y', ?_, e2⟩
    rw [iterO_succ]
    show fX11_waitsFor_l9c _ (ms m pl Y) (nI a) (nI b) = _
    unfold fX11_waitsFor_l9c fX11_waitsFor_j52
    rw [e1, bnd1_e, if_pos (nI_pos' (by omega)), ite_self]
  intro fu
  induction fu with
  | zero => intro i pl Y h1 h2; omega
  | succ fu ih =>
    intro i pl Y h1 h2 hY
    have fin := fin fu
    rw [iterO_succ]
    generalize iterO (fun K z => fX11_waitsFor_l9c K z.1 z.2.1 z.2.2) fu = Kk at ih fin ⊢
    show ∃ p Y', fX11_waitsFor_l9c Kk (ms m pl Y) (-5) (nI i) = _ ∧ _
    unfold fX11_waitsFor_l9c fX11_waitsFor_j52 fX11_waitsFor_j46
    by_cases c : i = 61
    · subst c
      obtain ⟨Y', e1, e2⟩ := e_lay m pl Y
      rw [if_pos (by decide), e1, bnd1_e]; exact ⟨pl, Y', rfl, e2⟩
    · have hs : 61 - i = (61 - (i + 1)) + 1 := by omega
      rw [hs] at hY
      obtain ⟨p1, e1⟩ := m_stp hM hO pl hY 0 h40 h41
      rw [if_neg (show ¬ (60 : Int32) < nI i from nI_nlt (a := 60) (by omega) (by omega)), if_neg (by decide), e1, bnd_e, if_pos i15_12, if_pos i15_12, tn12, ms_57, ms_n _ _ _ (by omega) (by omega), hs]
      show ∃ p Y', _ = some (ms m p Y', if (stX E Y 0 0).1 12 = m.2.1 71 0 12 + 1 then nI i else wtX E (m.2.1 71 0 12 + 1) (61 - (i + 1)) (stX E Y 0 0).1 (i + 1)) ∧ _
      by_cases c2 : (stX E Y 0 0).1 12 = m.2.1 71 0 12 + 1
      · rw [if_pos c2, if_pos c2, nI_1]
        exact fin p1 _ i (i + 1) (by omega) (by omega)
      · rw [if_neg c2, if_neg c2, nI_1]
        exact ih (i + 1) p1 _ (by omega) (by omega) (dkn_st hO hY 0 0)
theorem both_wait {g m : STt} {P N : Nat} (h : RelE g m P N) : ∃ g' m' r, fX8_waiting g = some (g', r) ∧ fX11_waitsFor m = some (m', r) ∧ FC g g' ∧ FM m m' ∧ (r = -5 ∨ ∃ j, 1 ≤ j ∧ j ≤ 60 ∧ r = nI j) := by
  obtain ⟨E, W, rfl, hO, hE, hM, eW, iW, i1, k1, k2, b4, b5, o1, o2, e12, hE0, hM0⟩ := try_of h
  obtain ⟨F', L', Y', e1⟩ := c_wait (d := 2) hE hO fuelN 1 (g.2.1 7 0) (g.2.1 8 0) (Y1 g) (by omega) (by show 61 - 1 < 5000; omega) (dkn_le k1 (by omega))
  obtain ⟨p, Z, e2, e3⟩ := m_wait hM hO b4 b5 fuelN 1 (m.2.1 69 0) (m.2.1 57 0) (by omega) (by show 62 - 1 < 5000; omega) (dkn_le k2 (by omega))
  rw [ms_71 W] at e2
  rw [G1_11, e12, is_wt hO _ _ _ _ _ i1] at e1
  have eg : (sA m 71 0 W).2.1 71 0 12 + 1 = m.2.1 57 0 12 + 1 := congrArg (· + 1) (iW 12 (by omega))
  rw [eg] at e2
  refine ⟨_, _, wtX E (m.2.1 57 0 12 + 1) (61 - 1) (m.2.1 57 0) 1, ?_, ?_, FC_G1 g 2 (by omega) F' L' Y', FM_kept m W p iW e3, ?_⟩
  · unfold fX8_waiting fX8_waiting_l7
    rw [e_begin1, bnd_e, if_pos (by decide)]
    exact e1
  · unfold fX11_waitsFor fX11_waitsFor_l9
    rw [eW, bnd1_e]
    exact e2
  · rcases wt_val E (m.2.1 57 0 12 + 1) (61 - 1) (m.2.1 57 0) 1 with hv | ⟨j, h1, h2, h3⟩
    · exact Or.inl hv
    · exact Or.inr ⟨j, h1, by omega, h3⟩
theorem q_waits {g m : STt} {P N : Nat} (h : RelE g m P N) : ∃ g' m' r, fX10_waits g = some (g', r) ∧ fX11_waits m = some (m', r) ∧ RelE g' m' P N := by
  obtain ⟨E, W, rfl, hO, hE, hM, eW, iW, i1, k1, k2, b4, b5, o1, o2, e12, hE0, hM0⟩ := try_of h
  obtain ⟨g', m', r, e1, e2, f1, f2, -⟩ := both_wait h
  unfold fX10_waits fX11_waits
  rw [o1, o2, b_if2, b_if2, e1, e2, bnd_e, bnd_e]
  by_cases c : atX (m.2.1 57 0) < E.1
  · rw [if_pos c, if_pos c]; exact ⟨_, _, _, rfl, rfl, rel_F h f1 f2⟩
  · rw [if_neg c, if_neg c]; exact ⟨_, _, _, rfl, rfl, h⟩
theorem q_round {g m : STt} {P N : Nat} (h : RelE g m P N) : ∃ g' m' r, fX10_round g = some (g', r) ∧ fX11_round m = some (m', r) ∧ RelE g' m' P N := by
  obtain ⟨E, W, rfl, hO, hE, hM, eW, iW, i1, k1, k2, b4, b5, o1, o2, e12, hE0, hM0⟩ := try_of h
  obtain ⟨g', m', r, e1, e2, f1, f2, hr⟩ := both_wait h
  have a1 := c_half (d := 0) (EnC_F hE0 f1) (g'.2.1 7 0) (g'.2.1 8 0) (g'.2.1 22 0) 6
  rw [cs_id] at a1
  have a2 := m_ford (EnM_F hM0 f2) hO (m'.2.1 69 0) (m'.2.1 57 0)
  rw [ms_id] at a2
  unfold fX10_round fX11_round fX10_round_j37 fX11_round_j27
  rw [o1, o2, b_if2, b_if2, e1, e2, bnd_e, bnd_e, a1, a2, bnd1_e, bnd1_e]
  by_cases c : atX (m.2.1 57 0) < E.1
  · rw [if_pos c, if_pos c]
    rcases hr with rfl | ⟨j, h1, h2, rfl⟩
    · rw [if_pos rfl, if_pos (by decide)]; exact ⟨_, _, _, rfl, rfl, rel_F h f1 f2⟩
    · rw [if_neg (show ¬ nI j = -5 from fun e => nI_pos (n := j) (by omega) (by rw [e]; decide)), if_neg (nI_pos (by omega))]
      by_cases c2 : nI j ≤ hfX E 6
      · rw [if_pos c2, if_pos c2]; exact ⟨_, _, _, rfl, rfl, rel_F h f1 f2⟩
      · rw [if_neg c2, if_neg c2]; exact ⟨_, _, _, rfl, rfl, rel_F h f1 f2⟩
  · rw [if_neg c, if_neg c]; exact ⟨_, _, _, rfl, rfl, h⟩
