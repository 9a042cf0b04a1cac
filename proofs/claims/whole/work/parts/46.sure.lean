/-! PURE: sure: fractions in lowest terms; the class's ways -/
def rd1 (d : Nat) (s : Nat × Nat) : Nat × Nat := if s.1 % d = 0 ∧ s.2 % d = 0 then (s.1 / d, s.2 / d) else s
def rdX : Nat → Nat × Nat → Nat × Nat
  | 0, s => s
  | r + 1, s => rdX r (rd1 5 (rd1 2 s))
theorem rd1_inv {p q k j a0 b0 : Nat} {s : Nat × Nat} {c : Nat} (ha : s.1 * c = a0) (hb : s.2 * c = b0) (hp : p ∣ s.1 ∧ p ∣ s.2 → p ^ k ∣ c) (hq : q ∣ s.1 ∧ q ∣ s.2 → q ^ j ∣ c) : ∃ c', (rd1 p s).1 * c' = a0 ∧ (rd1 p s).2 * c' = b0 ∧ (p ∣ (rd1 p s).1 ∧ p ∣ (rd1 p s).2 → p ^ (k + 1) ∣ c') ∧ (q ∣ (rd1 p s).1 ∧ q ∣ (rd1 p s).2 → q ^ j ∣ c') := by
  unfold rd1
  by_cases h : s.1 % p = 0 ∧ s.2 % p = 0
  · rw [if_pos h]
    obtain ⟨h1, h2⟩ := h
    have d1 := Nat.dvd_of_mod_eq_zero h1
    have d2 := Nat.dvd_of_mod_eq_zero h2
    have e1 : s.1 / p * p = s.1 := Nat.div_mul_cancel d1
    have e2 : s.2 / p * p = s.2 := Nat.div_mul_cancel d2
    refine ⟨p * c, ?_, ?_, fun _ => ?_, fun hh => ?_⟩
    · show s.1 / p * (p * c) = a0
      rw [← Nat.mul_assoc, e1, ha]
    · show s.2 / p * (p * c) = b0
      rw [← Nat.mul_assoc, e2, hb]
    · rw [Nat.pow_succ, Nat.mul_comm]
      exact Nat.mul_dvd_mul_left p (hp ⟨d1, d2⟩)
    · have u1 : q ∣ s.1 := by rw [← e1]; exact Nat.dvd_mul_right_of_dvd hh.1 p
      have u2 : q ∣ s.2 := by rw [← e2]; exact Nat.dvd_mul_right_of_dvd hh.2 p
      exact Nat.dvd_mul_left_of_dvd (hq ⟨u1, u2⟩) p
  · rw [if_neg h]
    exact ⟨c, ha, hb, fun hh => absurd ⟨Nat.mod_eq_zero_of_dvd hh.1, Nat.mod_eq_zero_of_dvd hh.2⟩ h, hq⟩
theorem rd_inv {a0 b0 : Nat} : ∀ (r k : Nat) (s : Nat × Nat) (c : Nat), r + k = 6 → s.1 * c = a0 → s.2 * c = b0 → (2 ∣ s.1 ∧ 2 ∣ s.2 → 2 ^ k ∣ c) → (5 ∣ s.1 ∧ 5 ∣ s.2 → 5 ^ k ∣ c) → ∃ c', (rdX r s).1 * c' = a0 ∧ (rdX r s).2 * c' = b0 ∧ (2 ∣ (rdX r s).1 ∧ 2 ∣ (rdX r s).2 → 2 ^ 6 ∣ c') ∧ (5 ∣ (rdX r s).1 ∧ 5 ∣ (rdX r s).2 → 5 ^ 6 ∣ c')
  | 0, k, s, c, hk, ha, hb, h2, h5 => by
    have e : k = 6 := by omega
    subst e
    exact ⟨c, ha, hb, h2, h5⟩
  | r + 1, k, s, c, hk, ha, hb, h2, h5 => by
    obtain ⟨c1, a1, a2, a3, a4⟩ := rd1_inv (p := 2) (q := 5) ha hb h2 h5
    obtain ⟨c2, b1, b2, b3, b4⟩ := rd1_inv (p := 5) (q := 2) a1 a2 a4 a3
    exact rd_inv r (k + 1) _ c2 (by omega) b1 b2 b4 b3
theorem cop2 {h : Nat} (n2 : ¬ 2 ∣ h) : Nat.Coprime h 2 := by
  have d := Nat.gcd_dvd_right h 2
  have l := Nat.le_of_dvd (by decide) d
  have p := Nat.gcd_pos_of_pos_right h (show 0 < 2 by decide)
  have e : Nat.gcd h 2 = 1 ∨ Nat.gcd h 2 = 2 := by omega
  rcases e with e | e
  · exact e
  · exact absurd (by have q := Nat.gcd_dvd_left h 2; rw [e] at q; exact q) n2
theorem cop5 {h : Nat} (n5 : ¬ 5 ∣ h) : Nat.Coprime h 5 := by
  have d := Nat.gcd_dvd_right h 5
  have l := Nat.le_of_dvd (by decide) d
  have p := Nat.gcd_pos_of_pos_right h (show 0 < 5 by decide)
  have e : Nat.gcd h 5 = 1 ∨ Nat.gcd h 5 = 2 ∨ Nat.gcd h 5 = 3 ∨ Nat.gcd h 5 = 4 ∨ Nat.gcd h 5 = 5 := by omega
  rcases e with e | e | e | e | e
  · exact e
  · rw [e] at d; exact absurd d (by decide)
  · rw [e] at d; exact absurd d (by decide)
  · rw [e] at d; exact absurd d (by decide)
  · exact absurd (by have q := Nat.gcd_dvd_left h 5; rw [e] at q; exact q) n5
theorem ten_no {n : Nat} (hn : n ≤ 6) : ¬ 2 ^ 7 ∣ 10 ^ n ∧ ¬ 5 ^ 7 ∣ 10 ^ n := by
  have e : n = 0 ∨ n = 1 ∨ n = 2 ∨ n = 3 ∨ n = 4 ∨ n = 5 ∨ n = 6 := by omega
  rcases e with rfl | rfl | rfl | rfl | rfl | rfl | rfl <;> decide
theorem rd_gcd {a n : Nat} (hn : n ≤ 6) : rdX 6 (a, 10 ^ n) = (a / Nat.gcd a (10 ^ n), 10 ^ n / Nat.gcd a (10 ^ n)) := by
  obtain ⟨c, h1, h2, h3, h4⟩ := rd_inv (a0 := a) (b0 := 10 ^ n) 6 0 (a, 10 ^ n) 1 rfl (Nat.mul_one _) (Nat.mul_one _) (fun _ => Nat.one_dvd _) (fun _ => Nat.one_dvd _)
  obtain ⟨t1, t2⟩ := ten_no hn
  generalize rdX 6 (a, 10 ^ n) = s at h1 h2 h3 h4 ⊢
  obtain ⟨x, y⟩ := s
  have h1 : x * c = a := h1
  have h2 : y * c = 10 ^ n := h2
  have n2 : ¬ 2 ∣ Nat.gcd x y := fun q => by
    have u1 := Nat.dvd_trans q (Nat.gcd_dvd_left x y)
    have u2 := Nat.dvd_trans q (Nat.gcd_dvd_right x y)
    have := Nat.mul_dvd_mul u2 (h3 ⟨u1, u2⟩)
    rw [h2] at this
    exact t1 this
  have n5 : ¬ 5 ∣ Nat.gcd x y := fun q => by
    have u1 := Nat.dvd_trans q (Nat.gcd_dvd_left x y)
    have u2 := Nat.dvd_trans q (Nat.gcd_dvd_right x y)
    have := Nat.mul_dvd_mul u2 (h4 ⟨u1, u2⟩)
    rw [h2] at this
    exact t2 this
  have co : Nat.Coprime (Nat.gcd x y) (10 ^ n) := Nat.Coprime.pow_right n (Nat.Coprime.mul_right (m := 2) (n := 5) (cop2 n2) (cop5 n5))
  have g1 : Nat.gcd x y = 1 := Nat.Coprime.eq_one_of_dvd co (Nat.dvd_trans (Nat.gcd_dvd_right x y) ⟨c, h2.symm⟩)
  have gc : Nat.gcd a (10 ^ n) = c := by rw [← h1, ← h2, Nat.gcd_mul_right, g1, Nat.one_mul]
  have c0 : 0 < c := by
    rcases Nat.eq_zero_or_pos c with e | e
    · rw [e, Nat.mul_zero] at h2
      exact absurd h2.symm (Nat.ne_of_gt (Nat.pow_pos (by decide)))
    · exact e
  rw [gc]
  have q1 : a / c = x := by rw [← h1, Nat.mul_div_cancel _ c0]
  have q2 : 10 ^ n / c = y := by rw [← h2, Nat.mul_div_cancel _ c0]
  rw [q1, q2]
theorem lN_cmp0 {n : Nat} (h : n < 2 ^ 63) : lg_cmp (lN n) 0 = 0 ↔ n = 0 := by
  rw [lg_cmp_eq, show (0 : Int64) = lN 0 from rfl, pk_lEQ h (by decide)]
theorem rd1_le (d : Nat) (s : Nat × Nat) {B : Nat} (h1 : s.1 < B) (h2 : s.2 < B) : (rd1 d s).1 < B ∧ (rd1 d s).2 < B := by
  unfold rd1
  have e1 := Nat.div_le_self s.1 d
  have e2 := Nat.div_le_self s.2 d
  split
  · exact ⟨Nat.lt_of_le_of_lt e1 h1, Nat.lt_of_le_of_lt e2 h2⟩
  · exact ⟨h1, h2⟩
theorem c_red (g : STt) (l2 : Int32) : ∀ (fu k : Nat) (s : Nat × Nat), k ≤ 6 → 6 - k < fu → s.1 < 2 ^ 62 → s.2 < 2 ^ 62 → iterO (fun K z => fX8_chanceOf_l48c K g l2 z.1 z.2.1 z.2.2) fu (lN s.1, lN s.2, nI k) = some (g, if l2 = 0 then lN (rdX (6 - k) s).1 else lN (rdX (6 - k) s).2) := by
  intro fu
  induction fu with
  | zero => intro k s h1 h2; omega
  | succ fu ih =>
    intro k s h1 h2 b1 b2
    rw [iterO_succ]
    generalize iterO (fun K z => fX8_chanceOf_l48c K g l2 z.1 z.2.1 z.2.2) fu = K at ih ⊢
    show fX8_chanceOf_l48c K g l2 (lN s.1) (lN s.2) (nI k) = _
    by_cases c : k = 6
    · rw [c]
      unfold fX8_chanceOf_l48c
      rw [if_pos (by decide)]
      show _ = some (g, if l2 = 0 then lN s.1 else lN s.2)
      by_cases e : l2 = 0
      · rw [if_pos e, if_pos e]
      · rw [if_neg e, if_neg e]
    · have hs : 6 - k = (6 - (k + 1)) + 1 := by omega
      have j90 : ∀ t : Nat × Nat, t.1 < 2 ^ 62 → t.2 < 2 ^ 62 → fX8_chanceOf_j90 K g l2 (lN t.1) (lN t.2) (nI k) = K (lN (rd1 5 t).1, lN (rd1 5 t).2, nI (k + 1)) := by
        intro t t1 t2
        unfold fX8_chanceOf_j90 fX8_chanceOf_j125 rd1
        rw [show (5 : Int64) = lN 5 from rfl, pk_lRem (by omega) (by omega) (by omega), pk_lRem (by omega) (by omega) (by omega), pk_lDiv (by omega) (by omega) (by omega), pk_lDiv (by omega) (by omega) (by omega), nI_1]
        have m1 : t.1 % 5 < 5 := Nat.mod_lt _ (by decide)
        have m2 : t.2 % 5 < 5 := Nat.mod_lt _ (by decide)
        by_cases e1 : t.1 % 5 = 0
        · rw [if_pos ((lN_cmp0 (by omega)).mpr e1)]
          by_cases e2 : t.2 % 5 = 0
          · rw [if_pos ((lN_cmp0 (by omega)).mpr e2), if_pos ⟨e1, e2⟩]
          · rw [if_neg (fun q => e2 ((lN_cmp0 (by omega)).mp q)), if_neg (fun q => e2 q.2)]
        · rw [if_neg (fun q => e1 ((lN_cmp0 (by omega)).mp q)), if_neg (fun q => e1 q.1)]
      obtain ⟨r1, r2⟩ := rd1_le 2 s b1 b2
      obtain ⟨r3, r4⟩ := rd1_le 5 (rd1 2 s) r1 r2
      have step : fX8_chanceOf_l48c K g l2 (lN s.1) (lN s.2) (nI k) = fX8_chanceOf_j90 K g l2 (lN (rd1 2 s).1) (lN (rd1 2 s).2) (nI k) := by
        unfold fX8_chanceOf_l48c rd1
        rw [if_neg (show ¬ (6 : Int32) ≤ nI k from nI_ge (b := 6) (by omega) (by omega)), show (2 : Int64) = lN 2 from rfl, pk_lRem (by omega) (by omega) (by omega), pk_lRem (by omega) (by omega) (by omega), pk_lDiv (by omega) (by omega) (by omega), pk_lDiv (by omega) (by omega) (by omega)]
        have m1 : s.1 % 2 < 2 := Nat.mod_lt _ (by decide)
        have m2 : s.2 % 2 < 2 := Nat.mod_lt _ (by decide)
        by_cases e1 : s.1 % 2 = 0
        · rw [if_pos ((lN_cmp0 (by omega)).mpr e1)]
          by_cases e2 : s.2 % 2 = 0
          · rw [if_pos ((lN_cmp0 (by omega)).mpr e2), if_pos ⟨e1, e2⟩]
          · rw [if_neg (fun q => e2 ((lN_cmp0 (by omega)).mp q)), if_neg (fun q => e2 q.2)]
        · rw [if_neg (fun q => e1 ((lN_cmp0 (by omega)).mp q)), if_neg (fun q => e1 q.1)]
      rw [step, j90 _ r1 r2, ih (k + 1) _ (by omega) (by omega) r3 r4, hs]
      rfl
theorem c_below (g : STt) (l2 : Int32) {n : Nat} (hn : n ≤ 6) (l3 : Int64) : ∀ (fu k : Nat), k ≤ n → n - k < fu → iterO (fun K z => fX8_chanceOf_l18c K g (nI n) l2 l3 z.1 z.2) fu (lN (10 ^ k), nI k) = fX8_chanceOf_j45 g l2 l3 (lN (10 ^ n)) := by
  intro fu
  induction fu with
  | zero => intro k h1 h2; omega
  | succ fu ih =>
    intro k h1 h2
    rw [iterO_succ]
    generalize iterO (fun K z => fX8_chanceOf_l18c K g (nI n) l2 l3 z.1 z.2) fu = K at ih ⊢
    show fX8_chanceOf_l18c K g (nI n) l2 l3 (lN (10 ^ k)) (nI k) = _
    unfold fX8_chanceOf_l18c
    by_cases c : k = n
    · rw [c, if_pos (nI_le (Nat.le_refl n) (by omega))]
    · rw [if_neg (nI_ge (by omega) (by omega)), if_neg (show ¬ (6 : Int32) ≤ nI k from nI_ge (b := 6) (by omega) (by omega)), nI_1, show (10 : Int64) = lN 10 from rfl, lN_mul, ← Nat.pow_succ]
      exact ih (k + 1) (by omega) (by omega)
/-! the ways -/
def wyX (E : EVt) (gl : Int32) (o : Nat) (R : Nat → Int32) : Nat → (Nat → Int32) → Nat → Nat
  | 0, X, _ => if X 12 < gl then 0 else 1
  | r + 1, X, i => (10 - (if R i = 6 then 0 else o)) * wyX E gl o R r (stX E X (R i) 0).1 (i + 1) + (if R i = 6 then 0 else o) * wyX E gl o R r (stX E X (R i) 10).1 (i + 1)
theorem wy_le {E : EVt} {gl : Int32} {o : Nat} (ho : o ≤ 10) {R : Nat → Int32} : ∀ (r : Nat) (X : Nat → Int32) (i : Nat), wyX E gl o R r X i ≤ 10 ^ r
  | 0, X, i => by
    show (if X 12 < gl then 0 else 1) ≤ 1
    split <;> omega
  | r + 1, X, i => by
    have h1 := wy_le (E := E) (gl := gl) ho (R := R) r (stX E X (R i) 0).1 (i + 1)
    have h2 := wy_le (E := E) (gl := gl) ho (R := R) r (stX E X (R i) 10).1 (i + 1)
    show (10 - (if R i = 6 then 0 else o)) * wyX E gl o R r (stX E X (R i) 0).1 (i + 1) + (if R i = 6 then 0 else o) * wyX E gl o R r (stX E X (R i) 10).1 (i + 1) ≤ 10 ^ (r + 1)
    obtain ⟨q, hq⟩ : ∃ q, (if R i = 6 then 0 else o) = q := ⟨_, rfl⟩
    have hq10 : q ≤ 10 := by
      rw [← hq]
      split <;> omega
    rw [hq]
    have u1 := Nat.mul_le_mul_left (10 - q) h1
    have u2 := Nat.mul_le_mul_left q h2
    have u3 : (10 - q) * 10 ^ r + q * 10 ^ r = 10 ^ (r + 1) := by
      rw [← Nat.add_mul, show 10 - q + q = 10 by omega, Nat.pow_succ, Nat.mul_comm]
    omega
theorem wy_is {E : EVt} (hO : EOK E) {gl : Int32} {o : Nat} {R R' : Nat → Int32} : ∀ (r : Nat) (A B : Nat → Int32) (i : Nat), IsX A B → (∀ j, i ≤ j → j < i + r → R j = R' j) → wyX E gl o R r A i = wyX E gl o R' r B i
  | 0, A, B, i, h, hr => by
    show (if A 12 < gl then 0 else 1) = (if B 12 < gl then 0 else 1)
    rw [h 12 (by omega)]
  | r + 1, A, B, i, h, hr => by
    show (10 - (if R i = 6 then 0 else o)) * wyX E gl o R r (stX E A (R i) 0).1 (i + 1) + (if R i = 6 then 0 else o) * wyX E gl o R r (stX E A (R i) 10).1 (i + 1) = (10 - (if R' i = 6 then 0 else o)) * wyX E gl o R' r (stX E B (R' i) 0).1 (i + 1) + (if R' i = 6 then 0 else o) * wyX E gl o R' r (stX E B (R' i) 10).1 (i + 1)
    rw [hr i (by omega) (by omega), wy_is hO r _ _ (i + 1) (is_st h hO (R' i) 0).1 (fun j a b => hr j (by omega) (by omega)), wy_is hO r _ _ (i + 1) (is_st h hO (R' i) 10).1 (fun j a b => hr j (by omega) (by omega))]
theorem sub_cs {g : STt} {d : Nat} (F L Y : Nat → Int32) : SubC d g (cs g (3 + d) F L Y) := by
  refine ⟨FC_cs g (by omega) F L Y, rfl, fun i hi => cs_22n _ _ _ _ _ (by omega), fun k hk => ?_⟩
  rw [cs_n _ _ _ _ _ (by omega) (by omega) (by omega)]
theorem c_ways {E : EVt} (hO : EOK E) {gl : Int32} {o n K : Nat} (ho : o ≤ 10) (hn : n ≤ 6) (hnK : n ≤ K) (hK : K ≤ 12) {R : Nat → Int32} : ∀ (r d f : Nat) (X : Nat → Int32) (g : STt), d + r = n → 2 * r < f → DKn E.1 (r + 1) X → EnC g E → IsX (g.2.1 22 (2 + d)) X → g.1 11 0 = gl → g.1 20 1 = nI K → g.1 18 0 = nI o → g.2.1 21 1 = R → ∃ g', fX8_waysFrom f g (nI d) (nI n) = some (g', lN (wyX E gl o R r X d)) ∧ SubC d g g' := by
  intro r
  induction r with
  | zero =>
    intro d f X g hd hf hD hE hX hg hK1 ho1 hR
    obtain ⟨f, rfl⟩ : ∃ k, f = k + 1 := ⟨f - 1, by omega⟩
    have e : d = n := by omega
    subst e
    refine ⟨g, ?_, SubC.rfl' d g⟩
    show FX8_waysFrom (fX8_waysFrom f) (fX8_waysWith f) g (nI d) (nI d) = some (g, lN (if X 12 < gl then 0 else 1))
    unfold FX8_waysFrom fX8_waysFrom_j11
    rw [if_pos (nI_le (Nat.le_refl d) (by omega)), e_stage g (show d < 7 by omega), bnd1_e, if_pos (by omega), eX1_getk _ _ 12 12 (by omega) rfl, bnd1_e, hX 12 (by omega), hg]
    by_cases c : X 12 < gl
    · rw [if_pos c, if_pos c]; rfl
    · rw [if_neg c, if_neg c]; rfl
  | succ r ih =>
    intro d f X g hd hf hD hE hX hg hK1 ho1 hR
    obtain ⟨f, rfl⟩ : ∃ k, f = k + 1 + 1 := ⟨f - 2, by omega⟩
    have child : ∀ (g0 : STt) (w : Int32), SubC d g g0 → ∃ g', fX8_waysWith (f + 1) g0 (nI d) (nI n) w = some (g', lN (wyX E gl o R r (stX E X (R d) w).1 (d + 1))) ∧ SubC d g g' := by
      intro g0 w h0
      have hE0 := EnC_F hE h0.1
      have hX0 : IsX (g0.2.1 22 (2 + d)) X := by rw [h0.2.2.1 d (Nat.le_refl d)]; exact hX
      have iZ : IsX (cpY (g0.2.1 22 (2 + d)) (g0.2.1 22 (3 + d))) X := is_tr (cpY_is _ _) hX0
      have kZ : DKn E.1 (r + 1 + 1) (cpY (g0.2.1 22 (2 + d)) (g0.2.1 22 (3 + d))) := dok_is hD iZ
      have hK0 : g0.1 20 1 = nI K := (h0.1.1 20 1 (by omega) (by omega) (by omega)).trans hK1
      have ho0 : g0.1 18 0 = nI o := (h0.1.1 18 0 (by omega) (by omega) (by omega)).trans ho1
      have hR0 : g0.2.1 21 1 = R := (h0.1.2.1 21 1 (by omega) (by omega) (by omega) (by omega) (by omega)).trans hR
      obtain ⟨F', L', e1⟩ := c_step (d := 3 + d) hE0 hO (g0.2.1 7 0) (g0.2.1 8 0) (cpY (g0.2.1 22 (2 + d)) (g0.2.1 22 (3 + d))) (R d) w (dkn_12 kZ)
      have iY := (is_st iZ hO (R d) w).1
      generalize (stX E (cpY (g0.2.1 22 (2 + d)) (g0.2.1 22 (3 + d))) (R d) w) = YY at e1 iY
      have sb := sub_cs (g := g0) (d := d) F' L' YY.1
      obtain ⟨g', a1, a2⟩ := ih (d + 1) f _ (cs g0 (3 + d) F' L' YY.1) (by omega) (by omega) (dkn_st hO hD (R d) w) (EnC_F hE0 sb.1) (by rw [show 2 + (d + 1) = 3 + d by omega, cs_22]; exact iY) (by rw [cs_1, h0.2.1]; exact hg) hK0 ho0 (by rw [cs_n _ _ _ _ _ (by omega) (by omega) (by omega)]; exact hR0)
      refine ⟨g', ?_, h0.tr (sb.tr (a2.le (by omega)))⟩
      show FX8_waysWith (fX8_waysFrom f) (fX8_waysWith f) g0 (nI d) (nI n) w = _
      have eg : fX5_get (cs g0 (3 + d) (g0.2.1 7 0) (g0.2.1 8 0) (cpY (g0.2.1 22 (2 + d)) (g0.2.1 22 (3 + d)))) 1 (nI d) = some (R d) := by
        rw [eX5_get (n := 12) (K := K) rfl (by omega) (show (cs g0 (3 + d) (g0.2.1 7 0) (g0.2.1 8 0) (cpY (g0.2.1 22 (2 + d)) (g0.2.1 22 (3 + d)))).1 20 1 = nI K from hK0) hK, if_pos (inB_nI (by omega) (by omega)), nI_c (by omega), cs_n _ _ _ _ _ (by omega) (by omega) (by omega), hR0]
      unfold FX8_waysWith
      rw [e_after g0 (by omega), bnd_e, if_pos (by omega), eg, bnd1_e, e1, bnd_e, nI_1, a1, bnd_e]
    have eg : fX5_get g 1 (nI d) = some (R d) := by
      rw [eX5_get (n := 12) (K := K) rfl (by omega) hK1 hK, if_pos (inB_nI (by omega) (by omega)), nI_c (by omega), hR]
    obtain ⟨g1, a1, s1⟩ := child g 0 (SubC.rfl' d g)
    obtain ⟨g2, a2, s2⟩ := child g1 10 s1
    refine ⟨g2, ?_, s2⟩
    show FX8_waysFrom (fX8_waysFrom (f + 1)) (fX8_waysWith (f + 1)) g (nI d) (nI n) = _
    have j61 : ∀ q : Nat, q ≤ 10 → fX8_waysFrom_j61 (fX8_waysFrom (f + 1)) (fX8_waysWith (f + 1)) g (nI d) (nI n) (nI q) = some (g2, lN ((10 - q) * wyX E gl o R r (stX E X (R d) 0).1 (d + 1) + q * wyX E gl o R r (stX E X (R d) 10).1 (d + 1))) := by
      intro q hq
      unfold fX8_waysFrom_j61
      rw [a1, bnd_e, a2, bnd_e, show (10 : Int32) = nI 10 from rfl, pk_sub hq, nI_l (by omega), nI_l (by omega), lN_mul, lN_mul, lN_add]
    unfold FX8_waysFrom
    rw [if_neg (nI_ge (by omega) (by omega)), if_pos (show nI d < 6 from nI_lt (b := 6) (by omega) (by omega)), eg, bnd1_e, ho1]
    show _ = some (g2, lN ((10 - (if R d = 6 then 0 else o)) * wyX E gl o R r (stX E X (R d) 0).1 (d + 1) + (if R d = 6 then 0 else o) * wyX E gl o R r (stX E X (R d) 10).1 (d + 1)))
    by_cases c : R d = 6
    · rw [if_pos c, if_pos c]
      exact j61 0 (by omega)
    · rw [if_neg c, if_neg c]
      exact j61 o ho
