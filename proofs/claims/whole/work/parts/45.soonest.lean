/-! PURE: soonest, both sides -/
def finS (m : STt) (n v : Nat) (x2 : Int32) : Option (STt × Int32) := if 0 ≤ x2 then (if nI n ≤ x2 then (some (m, (-5))) else (bnd1 (fX11_actOf m (nI v) x2 (nI n)) fun r_12 => (some (m, r_12)))) else (some (m, nI n))
theorem m_soonV {m0 : STt} {E : EVt} (hM : EnM m0 E) (hO : EOK E) (h40 : m0.1 40 0 = 0) (h41 : m0.1 41 0 = 0) {n : Nat} (hn : n ≤ 4) {X : Nat → Int32} (hX : IsX (m0.2.1 57 0) X) (hD : DKn E.1 100 X) (x1 x2 : Int32) (K35 : (STt × Int32) → Option (STt × Int32)) : ∀ (fu v : Nat) (m : STt), FM m0 m → v ≤ 7 ^ n → 7 ^ n - v < fu → (∀ w, scB (hiV E (X 12 + 1) n X) (7 ^ n - v) v = some w → ∃ m', iterO (fun K z => fX11_soonest_l43c K35 K x1 x2 (nI n) z.1 z.2) fu (m, nI v) = finS m' n w x2 ∧ FM m0 m') ∧ (scB (hiV E (X 12 + 1) n X) (7 ^ n - v) v = none → ∃ m', iterO (fun K z => fX11_soonest_l43c K35 K x1 x2 (nI n) z.1 z.2) fu (m, nI v) = K35 (m', nI (n + 1)) ∧ FM m0 m') := by
  have h7 := lt7 hn
  intro fu
  induction fu with
  | zero => intro v m h1 h2 h3; omega
  | succ fu ih =>
    intro v m h1 h2 h3
    rw [iterO_succ]
    generalize iterO (fun K z => fX11_soonest_l43c K35 K x1 x2 (nI n) z.1 z.2) fu = K at ih ⊢
    show (∀ w, _ → ∃ m', fX11_soonest_l43c K35 K x1 x2 (nI n) m (nI v) = _ ∧ _) ∧ (_ → ∃ m', fX11_soonest_l43c K35 K x1 x2 (nI n) m (nI v) = _ ∧ _)
    unfold fX11_soonest_l43c
    rw [e_rows m hn, bnd1_e]
    by_cases c : v = 7 ^ n
    · rw [c, if_pos (nI_le (Nat.le_refl _) (by omega)), Nat.sub_self, nI_1]
      exact ⟨fun w hw => (by cases hw), fun _ => ⟨m, rfl, h1⟩⟩
    · have hs1 : 7 ^ n - v = (7 ^ n - (v + 1)) + 1 := by omega
      obtain ⟨m1, e1, f1, l1⟩ := m_beh (EnM_F hM h1) hO ((h1.1 40 0 (by omega)).trans h40) ((h1.1 41 0 (by omega)).trans h41) hn (show v < 2401 by omega) (is_tr h1.2.2.1 hX) hD
      have h1' := h1.tr f1
      have e12 : m1.2.1 57 0 12 = X 12 := (h1'.2.2.1 12 (by omega)).trans (hX 12 (by omega))
      obtain ⟨i1, i2⟩ := ih (v + 1) m1 h1' (by omega) (by omega)
      rw [if_neg (nI_ge (by omega) (by omega)), e1, bnd_e, if_pos i15_12, tn12, e12, hs1, nI_1]
      have hsc : scB (hiV E (X 12 + 1) n X) (7 ^ n - (v + 1) + 1) v = if rnV E n X v 12 = X 12 + 1 then some v else scB (hiV E (X 12 + 1) n X) (7 ^ n - (v + 1)) (v + 1) := by
        show (if decide (rnV E n X v 12 = X 12 + 1) = true then some v else scB (hiV E (X 12 + 1) n X) (7 ^ n - (v + 1)) (v + 1)) = _
        by_cases e : rnV E n X v 12 = X 12 + 1
        · rw [if_pos e, if_pos (decide_eq_true e)]
        · rw [if_neg e, if_neg (fun q => e (of_decide_eq_true q))]
      rw [hsc]
      by_cases e : rnV E n X v 12 = X 12 + 1
      · rw [if_pos e]
        refine ⟨fun w hw => ?_, fun q => by cases q⟩
        have hw : v = w := Option.some.inj hw
        subst hw
        refine ⟨m1, ?_, h1'⟩
        rw [if_pos e]
        rfl
      · rw [if_neg e]
        simp only [if_neg e]
        exact ⟨i1, i2⟩
theorem m_soonN {m0 : STt} {E : EVt} (hM : EnM m0 E) (hO : EOK E) (h40 : m0.1 40 0 = 0) (h41 : m0.1 41 0 = 0) {X : Nat → Int32} (hX : IsX (m0.2.1 57 0) X) (hD : DKn E.1 100 X) (x2 : Int32) {k : Nat} (hk : k ≤ 4) : ∀ (fu n : Nat) (m : STt), FM m0 m → 1 ≤ n → n ≤ k + 1 → k + 1 - n < fu → (∀ N w, n ≤ N → N ≤ k → (∀ n', n ≤ n' → n' < N → phX E (X 12 + 1) X n' = none) → phX E (X 12 + 1) X N = some w → ∃ m', iterO (fun K z => fX11_soonest_l35c K (nI k) x2 z.1 z.2) fu (m, nI n) = finS m' N w x2 ∧ FM m0 m') ∧ ((∀ n', n ≤ n' → n' ≤ k → phX E (X 12 + 1) X n' = none) → ∃ m', iterO (fun K z => fX11_soonest_l35c K (nI k) x2 z.1 z.2) fu (m, nI n) = some (m', -5) ∧ FM m0 m') := by
  intro fu
  induction fu with
  | zero => intro n m h1 h2 h3 h4; omega
  | succ fu ih =>
    intro n m h1 h2 h3 h4
    rw [iterO_succ]
    generalize iterO (fun K z => fX11_soonest_l35c K (nI k) x2 z.1 z.2) fu = K at ih ⊢
    show (∀ N w, _ → _ → _ → _ → ∃ m', fX11_soonest_l35c K (nI k) x2 m (nI n) = _ ∧ _) ∧ (_ → ∃ m', fX11_soonest_l35c K (nI k) x2 m (nI n) = _ ∧ _)
    unfold fX11_soonest_l35c
    by_cases c : n = k + 1
    · rw [if_pos (nI_lt (by omega) (by omega))]
      exact ⟨fun N w a b => by omega, fun _ => ⟨m, rfl, h1⟩⟩
    · rw [if_neg (nI_nlt (by omega) (by omega))]
      have h7 := lt7 (show n ≤ 4 by omega)
      obtain ⟨v1, v2⟩ := m_soonV hM hO h40 h41 (show n ≤ 4 by omega) hX hD (nI k) x2 K fuelN 0 m h1 (Nat.zero_le _) (Nat.lt_of_le_of_lt (Nat.sub_le _ _) (Nat.lt_of_le_of_lt h7 (by decide)))
      rw [Nat.sub_zero] at v1 v2
      refine ⟨fun N w a b cN cw => ?_, fun hN => ?_⟩
      · by_cases e : n = N
        · subst e
          exact v1 w cw
        · obtain ⟨m1, e1, f1⟩ := v2 (cN n (Nat.le_refl n) (by omega))
          obtain ⟨m2, e2, f2⟩ := (ih (n + 1) m1 f1 (by omega) (by omega) (by omega)).1 N w (by omega) b (fun n' h h' => cN n' (by omega) h') cw
          exact ⟨m2, e1.trans e2, f2⟩
      · obtain ⟨m1, e1, f1⟩ := v2 (hN n (Nat.le_refl n) (by omega))
        obtain ⟨m2, e2, f2⟩ := (ih (n + 1) m1 f1 (by omega) (by omega) (by omega)).2 (fun n' h h' => hN n' (by omega) h')
        exact ⟨m2, e1.trans e2, f2⟩
theorem q_soonest {g m : STt} {P N : Nat} (h : RelE g m P N) (x y : Int32) : ∃ g' m' r, fX10_soonest g x y = some (g', r) ∧ fX11_soonest m x y = some (m', r) ∧ RelE g' m' P N := by
  obtain ⟨E, W, rfl, hO, hE, hM, eW, iW, i1, k1, k2, b4, b5, o1, o2, e12, hE0, hM0⟩ := try_of h
  have em : (-1 : Int32).toInt = -1 := by decide
  have e3 : (3 : Int32).toInt = 3 := by decide
  have e4 : (4 : Int32).toInt = 4 := by decide
  have e0 : (0 : Int32).toInt = 0 := by decide
  unfold fX10_soonest fX11_soonest
  rw [eX11_in, b_if]
  by_cases c2 : -1 ≤ y.toInt ∧ y.toInt ≤ 3
  · rw [if_neg (show ¬ y < -1 by (simp only [Int32.lt_iff_toInt_lt, Int32.le_iff_toInt_le, ← Int32.toInt_inj, Int32.reduceToInt] at *; omega)), if_pos (show y < 4 by (simp only [Int32.lt_iff_toInt_lt, Int32.le_iff_toInt_le, ← Int32.toInt_inj, Int32.reduceToInt] at *; omega)), if_pos (c := (-1 : Int32).toInt ≤ y.toInt ∧ _) (by omega), rng2, eX11_in, b_if]
    by_cases c : (0 : Int32).toInt ≤ x.toInt ∧ x.toInt ≤ (4 : Int32).toInt
    · rw [if_pos c, if_pos c]
      obtain ⟨k, hk, rfl⟩ := inB_of (x := x) (n := 5) (inB_iff.mpr (by omega)) (by omega)
      rw [o1, o2, b_if2, b_if2]
      by_cases cA : atX (m.2.1 57 0) < E.1
      · rw [if_pos cA, if_pos cA]
        have fC : FC g (sS (cs (G1 g) 2 (g.2.1 7 0) (g.2.1 8 0) (Y1 g)) 9 0 (nI (k + 1))) := (FC_G1 g 2 (by omega) _ _ _).tr (FC_9 _ _)
        obtain ⟨g2, s', a1, a2, a3, a4⟩ := c_soon hO (gl := m.2.1 57 0 12 + 1) 4 0 0 20 (m.2.1 57 0) (sS (cs (G1 g) 2 (g.2.1 7 0) (g.2.1 8 0) (Y1 g)) 9 0 (nI (k + 1))) (k + 1, none) (by omega) (by omega) (dkn_le k2 (by omega)) (EnC_F hE0 fC)
          (by show IsX ((cs (G1 g) 2 (g.2.1 7 0) (g.2.1 8 0) (Y1 g)).2.1 22 2) _; rw [cs_22]; exact i1) (fun k hk => by omega)
          (by show (sS (cs (G1 g) 2 (g.2.1 7 0) (g.2.1 8 0) (Y1 g)) 9 0 (nI (k + 1))).1 11 0 = _; rw [sS_n _ _ (by omega), cs_1, G1_11, e12]) ⟨sS_s _ _ _ _, fun v hv => by cases hv⟩ (by show k + 1 ≤ 5; omega)
        obtain ⟨mN, mO⟩ := m_soonN hM0 hO b4 b5 (is_rf _) (dkn_le k2 (by omega)) y (show k ≤ 4 by omega) fuelN 1 m (FM.rfl' m) (by omega) (by omega) (by show k + 1 - 1 < 5000; omega)
        have fs : fX8_findSoonest g (nI k) = if g2.1 9 0 ≤ nI k then some (g2, g2.1 9 0) else some (sS g2 9 0 (-5), (sS g2 9 0 (-5)).1 9 0) := by
          unfold fX8_findSoonest fX8_findSoonest_j31
          rw [e_begin1, bnd_e, if_pos (by decide), show fuelX8_trySooner = 20 from rfl, nI_1, show (0 : Int32) = nI 0 from rfl, a1, bnd1_e]
        have rel : ∀ m2, FM m m2 → RelE g2 m2 E.1 N := fun m2 f2 => rel_F h (fC.tr a2.1) f2
        have rel' : ∀ m2, FM m m2 → RelE (sS g2 9 0 (-5)) m2 E.1 N := fun m2 f2 => rel_F h ((fC.tr a2.1).tr (FC_9 _ _)) f2
        rw [fs]
        rcases a4 with ⟨n, w, z1, z2, z3, rfl⟩ | ⟨z1, rfl⟩
        · have z1 : 0 + 1 + n < k + 1 := z1
          obtain ⟨m2, e2, f2⟩ := mN (n + 1) w (by omega) (by omega) (fun n' q1 q2 => by
            obtain ⟨j, rfl⟩ : ∃ j, n' = j + 1 := ⟨n' - 1, by omega⟩
            rw [← ps_0]; exact z3 j (by omega)) (by rw [← ps_0]; exact z2)
          have e2 : fX11_soonest_l35 (nI k) y m 1 = finS m2 (n + 1) w y := e2
          have hw : w < 2401 := by
            have q := (scB_lt _ _ _ _ z2).2
            have h7 := lt7 (show n + 1 ≤ 4 by omega)
            rw [Nat.zero_mul, Nat.sub_zero, Nat.mul_comm, ← Nat.pow_succ] at q
            omega
          obtain ⟨r1, r2⟩ := a3
          have r1 : g2.1 9 0 = nI (n + 1) := r1.trans (congrArg nI (show 0 + 1 + n = n + 1 by omega))
          rw [e2, r1, if_pos (nI_le (by omega) (by omega)), bnd_e]
          unfold finS
          by_cases cy : y = -1
          · subst cy
            rw [if_pos rfl, if_neg (by decide)]; exact ⟨_, _, _, rfl, rfl, rel _ f2⟩
          · have hy0 : 0 ≤ y.toInt := by (simp only [Int32.lt_iff_toInt_lt, Int32.le_iff_toInt_le, ← Int32.toInt_inj, Int32.reduceToInt] at *; omega)
            obtain ⟨j, hj, rfl⟩ := inB_of (x := y) (n := 4) (inB_iff.mpr (by omega)) (by omega)
            unfold fX8_found
            rw [if_neg cy, r1, if_neg (nI_pos (by omega)), if_pos (nI_pos' (by omega))]
            by_cases cj : n + 1 ≤ j
            · rw [if_pos (nI_le cj (by omega)), if_pos (nI_le cj (by omega)), bnd1_e]; exact ⟨_, _, _, rfl, rfl, rel _ f2⟩
            · rw [if_neg (nI_ge (by omega) (by omega)), if_neg (nI_ge (by omega) (by omega)), if_neg (show ¬ (4 : Int32) ≤ nI j from nI_ge (b := 4) (by omega) (by omega)), if_pos (inB_nI (by omega) (by omega)), nI_c (by omega), bnd1_e, e_act m2 hw (by omega) (by omega), bnd1_e]
              have r3 := r2 _ rfl j (show j < 0 + 1 + n by omega)
              have r3 : g2.2.1 13 0 j = nI (acN (dgV (0 * 7 ^ (n + 1) + w) (0 + 1 + n - 1 - j))) := r3
              rw [r3, Nat.zero_mul, Nat.zero_add, show 0 + 1 + n - 1 - j = n + 1 - 1 - j by omega]
              exact ⟨_, _, _, rfl, rfl, rel _ f2⟩
        · obtain ⟨m2, e2, f2⟩ := mO (fun n' q1 q2 => by
            obtain ⟨j, rfl⟩ : ∃ j, n' = j + 1 := ⟨n' - 1, by omega⟩
            rw [← ps_0]; exact z1 j (show 0 + 1 + j < k + 1 by omega))
          have e2 : fX11_soonest_l35 (nI k) y m 1 = some (m2, -5) := e2
          have r1 : g2.1 9 0 = nI (k + 1) := a3.1
          rw [e2, r1, if_neg (nI_ge (by omega) (by omega)), bnd_e, sS_s]
          by_cases cy : y = -1
          · rw [if_pos cy]; exact ⟨_, _, _, rfl, rfl, rel' _ f2⟩
          · have hy0 : 0 ≤ y.toInt := by (simp only [Int32.lt_iff_toInt_lt, Int32.le_iff_toInt_le, ← Int32.toInt_inj, Int32.reduceToInt] at *; omega)
            unfold fX8_found
            rw [if_neg cy, sS_s, if_neg (show ¬ y < 0 by (simp only [Int32.lt_iff_toInt_lt, Int32.le_iff_toInt_le, ← Int32.toInt_inj, Int32.reduceToInt] at *; omega)), if_pos (show (-5 : Int32) ≤ y by (simp only [Int32.lt_iff_toInt_lt, Int32.le_iff_toInt_le, ← Int32.toInt_inj, Int32.reduceToInt] at *; omega)), bnd1_e]; exact ⟨_, _, _, rfl, rfl, rel' _ f2⟩
      · rw [if_neg cA, if_neg cA]; exact ⟨_, _, _, rfl, rfl, h⟩
    · rw [if_neg c, if_neg c]; exact ⟨_, _, _, rfl, rfl, h⟩
  · rw [if_neg (c := (-1 : Int32).toInt ≤ y.toInt ∧ _) (by omega)]
    by_cases c3 : y < -1
    · rw [if_pos c3]; exact ⟨_, _, _, rfl, rfl, h⟩
    · rw [if_neg c3, if_neg (show ¬ y < 4 by (simp only [Int32.lt_iff_toInt_lt, Int32.le_iff_toInt_le, ← Int32.toInt_inj, Int32.reduceToInt] at *; omega))]; exact ⟨_, _, _, rfl, rfl, h⟩
