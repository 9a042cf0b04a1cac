/-! PURE: told, drive, would, go, why -/
theorem both_0 {g m : STt} {P N : Nat} (h : RelE g m P N) : IsX (g.2.1 22 0) (m.2.1 57 0) ∧ DOK P 9999 (g.2.1 22 0) ∧ DOK P 9999 (m.2.1 57 0) ∧ m.1 40 0 = 0 ∧ m.1 41 0 = 0 := by
  obtain ⟨hPl, hDo, h0, h1, h2, h3, hTp, hOd, hBo, hCo, hIm, hHo⟩ := h
  exact ⟨hDo.1, hDo.2, dok_is hDo.2 (is_sy hDo.1), hCo.1, hCo.2.1⟩
theorem d_over {g : STt} {E : EVt} (hE : EnC g E) (hO : EOK E) (hY : DOK E.1 9999 (g.2.1 22 0)) : fX10_isOver g = some (if atX (g.2.1 22 0) < E.1 then 0 else 1) := by
  have h := c_over (d := 0) hE hO (g.2.1 7 0) (g.2.1 8 0) (g.2.1 22 0) (dok_12 hY)
  rw [cs_id] at h
  unfold fX10_isOver
  rw [h, bnd1_e]
  by_cases c : atX (g.2.1 22 0) < E.1
  · rw [if_pos c]; rfl
  · rw [if_neg c]; rfl
theorem n_over {m : STt} {E : EVt} (hM : EnM m E) (hO : EOK E) (hY : DOK E.1 9999 (m.2.1 57 0)) : fX11_isOver m = some (if atX (m.2.1 57 0) < E.1 then 0 else 1) := by
  have h := m_over hM hO (m.2.1 69 0) (m.2.1 57 0) (dok_12 hY)
  rwa [ms_id] at h
theorem c_together {g : STt} {E : EVt} {d : Nat} (hE : EnC g E) (hO : EOK E) (F L Y : Nat → Int32) (hY : inR (Y 12) 0 E.1) (hA : atX Y < E.1) (w : Nat) (hw : w < 3) : ∃ F', fX9_togetherOf (cs g d F L Y) d (nI w) = some (cs g d F' L Y, E.2.2.2.2.1 w (fcX E Y)) := by
  obtain ⟨F', e1, hF⟩ := c_look (d := d) hE hO F L Y hY hA
  refine ⟨F', ?_⟩
  unfold fX9_togetherOf
  rw [e1, bnd1_e, if_pos (c_W (d := d) hE _ _ _), c_tog hE hO F' L Y hF w hw (W := (cs g d F' L Y).2.2.2) rfl, bnd1_e]
theorem is_thlt {A B : Nat → Int32} {E : EVt} (hO : EOK E) (h : IsX A B) (hA : atX B < E.1) : thX E B < 15 := by
  have := (th_lt hO hA).1
  omega
theorem q_told {g m : STt} {P N : Nat} (h : RelE g m P N) (x : Int32) : ∃ g' m' r, fX10_told g x = some (g', r) ∧ fX11_told m x = some (m', r) ∧ RelE g' m' P N := by
  obtain ⟨E, rfl, hO, hE, hM⟩ := env_of h
  obtain ⟨b1, b2, b3, b4, b5⟩ := both_0 h
  unfold fX10_told fX11_told
  rw [rng2, eX11_in, b_if]
  by_cases c : (0 : Int32).toInt ≤ x.toInt ∧ x.toInt ≤ (6 : Int32).toInt
  · rw [if_pos c, if_pos c]
    have e6 : (6 : Int32).toInt = 6 := by decide
    have e0 : (0 : Int32).toInt = 0 := by decide
    obtain ⟨w, hw, rfl⟩ := inB_of (x := x) (n := 7) (inB_iff.mpr (by omega)) (by omega)
    by_cases c2 : w ≤ 2
    · rw [if_pos (show nI w ≤ 2 from nI_le (b := 2) c2 (by omega)), if_pos (show nI w ≤ 2 from nI_le (b := 2) c2 (by omega)), d_over hE hO b2, n_over hM hO b3, is_at b1, b_if2, b_if2]
      by_cases cA : atX (m.2.1 57 0) < E.1
      · rw [if_pos cA, if_pos cA]
        obtain ⟨F', e1⟩ := c_together (d := 0) hE hO (g.2.1 7 0) (g.2.1 8 0) (g.2.1 22 0) (dok_12 b2) (by rw [is_at b1]; exact cA) w (by omega)
        rw [cs_id] at e1
        obtain ⟨p, e2⟩ := m_sum hM hO (m.2.1 69 0) b3 cA w (by omega)
        rw [ms_id] at e2
        rw [e1, bnd_e, e2, bnd_e, is_fc b1 (is_thlt hO b1 cA)]
        exact ⟨_, _, _, rfl, rfl, rel_F h (FC_cs0 g 0 _ _) (FM_ms m _ (is_rf _))⟩
      · rw [if_neg cA, if_neg cA]
        exact ⟨_, _, _, rfl, rfl, h⟩
    · have e1 := c_last (d := 0) hE (g.2.1 7 0) (g.2.1 8 0) (g.2.1 22 0) w (by omega) hw rfl
      rw [cs_id] at e1
      have e2 := m_last hM (m.2.1 69 0) (m.2.1 57 0) w (by omega) hw
      rw [ms_id] at e2
      rw [if_neg (show ¬ nI w ≤ 2 from nI_ge (a := 2) (by omega) (by omega)), if_neg (show ¬ nI w ≤ 2 from nI_ge (a := 2) (by omega) (by omega)), e2, bnd1_e]
      unfold fX9_lastOf
      rw [if_pos hE.2.2.1, e1, bnd1_e, bnd1_e]
      exact ⟨_, _, _, rfl, rfl, h⟩
  · rw [if_neg c, if_neg c]
    exact ⟨_, _, _, rfl, rfl, h⟩
theorem q_drive {g m : STt} {P N : Nat} (h : RelE g m P N) (x : Int32) : ∃ g' m' r, fX10_drive g x = some (g', r) ∧ fX11_drive m x = some (m', r) ∧ RelE g' m' P N := by
  obtain ⟨E, rfl, hO, hE, hM⟩ := env_of h
  obtain ⟨b1, b2, b3, b4, b5⟩ := both_0 h
  unfold fX10_drive fX11_drive
  rw [eX10_isAct, eX11_isAct, b_if, b_if]
  by_cases c : inB x 8 = true
  · rw [if_pos c, if_pos c, d_over hE hO b2, n_over hM hO b3, is_at b1, b_if2, b_if2]
    by_cases cA : atX (m.2.1 57 0) < E.1
    · rw [if_pos cA, if_pos cA]
      obtain ⟨F', L', e1, -⟩ := c_weigh (d := 0) hE hO (g.2.1 7 0) (g.2.1 8 0) (g.2.1 22 0) x (dok_12 b2) (by rw [is_at b1]; exact cA)
      rw [cs_id] at e1
      obtain ⟨p, e2⟩ := m_drive hM hO (m.2.1 69 0) b3 cA x
      rw [ms_id, b4, b5, ite_self, Int32.add_zero, Int32.sub_zero] at e2
      rw [e1, bnd_e, e2, bnd_e, is_dr b1 (is_thlt hO b1 cA)]
      exact ⟨_, _, _, rfl, rfl, rel_F h (FC_cs0 g 0 _ _) (FM_ms m _ (is_rf _))⟩
    · rw [if_neg cA, if_neg cA]
      exact ⟨_, _, _, rfl, rfl, h⟩
  · rw [if_neg c, if_neg c]
    exact ⟨_, _, _, rfl, rfl, h⟩
theorem q_would {g m : STt} {P N : Nat} (h : RelE g m P N) (x : Int32) : ∃ g' m' r, fX10_would g x = some (g', r) ∧ fX11_would m x = some (m', r) ∧ RelE g' m' P N := by
  obtain ⟨E, rfl, hO, hE, hM⟩ := env_of h
  obtain ⟨b1, b2, b3, b4, b5⟩ := both_0 h
  unfold fX10_would fX11_would fX9_doing
  rw [eX10_isAct, eX11_isAct, b_if, b_if]
  by_cases c : inB x 8 = true
  · have ho := c_over (d := 0) hE hO (g.2.1 7 0) (g.2.1 8 0) (g.2.1 22 0) (dok_12 b2)
    rw [cs_id] at ho
    rw [if_pos c, if_pos c, ho, n_over hM hO b3, is_at b1, b_if2, b_if2]
    by_cases cA : atX (m.2.1 57 0) < E.1
    · rw [if_pos cA, if_pos cA]
      obtain ⟨F', L', e1, -⟩ := c_weigh (d := 0) hE hO (g.2.1 7 0) (g.2.1 8 0) (g.2.1 22 0) x (dok_12 b2) (by rw [is_at b1]; exact cA)
      rw [cs_id] at e1
      obtain ⟨p, e2⟩ := m_would hM hO (m.2.1 69 0) b3 cA x
      rw [ms_id, b4, b5, ite_self, Int32.add_zero, Int32.sub_zero] at e2
      rw [e2, bnd_e]
      by_cases c6 : x = 6
      · rw [if_pos c6, if_pos c6, bnd_e]
        exact ⟨_, _, _, rfl, rfl, rel_F h (FC.rfl' g) (FM_ms m _ (is_rf _))⟩
      · rw [if_neg c6, if_neg c6, e1, bnd_e, c_done, bnd1_e, bnd_e, is_dr b1 (is_thlt hO b1 cA)]
        exact ⟨_, _, _, rfl, rfl, rel_F h (FC_cs0 g 0 _ _) (FM_ms m _ (is_rf _))⟩
    · rw [if_neg cA, if_neg cA, bnd_e]
      exact ⟨_, _, _, rfl, rfl, h⟩
  · rw [if_neg c, if_neg c]
    exact ⟨_, _, _, rfl, rfl, h⟩
/-- the donkey itself goes on, on both sides -/
theorem rel_go {g m : STt} {P N : Nat} (h : RelE g m P N) {F L Y p Z : Nat → Int32} (hI : IsX Y Z) (hY : DOK P 9999 Y) : RelE (cs g 0 F L Y) (ms m p Z) P N := by
  obtain ⟨hPl, hDo, h0, h1, h2, h3, hTp, hOd, hBo, hCo, hIm, hHo⟩ := h
  refine ⟨hPl, ⟨fun k hk => ?_, ?_⟩, h0, h1, h2, h3, hTp, hOd, hBo, hCo, hIm, hHo⟩
  · rw [cs_22, ms_57]; exact hI k hk
  · rw [cs_22]; exact hY
theorem st_14 {E : EVt} (hO : EOK E) {X : Nat → Int32} (hX : DOK E.1 9999 X) (act w : Int32) (hh : (X 14).toInt + (hfX E act).toInt ≤ 9999) : DOK E.1 9999 (stX E X act w).1 := by
  intro k hk
  have h1 := dok_st hO hX (by omega) act w k hk
  by_cases e : k = 14
  · subst e
    refine ⟨h1.1, ?_⟩
    show _ ≤ (9999 : Int)
    have hf : inR (hfX E act) 0 99 := ⟨by have := (hf_val hO act).1; omega, (hf_val hO act).2⟩
    have hx : inR (X 14) 0 9999 := hX 14 (by omega)
    have key : ∀ Z : Nat → Int32, Z 14 = X 14 → (adX Z 14 (hfX E act) 14).toInt ≤ 9999 := by
      intro Z hZ
      rw [ad_14 (hb := 9999) (by rw [hZ]; exact hx) hf (by omega), upd_s, hZ, addZ (by have := hx.1; have := hf.1; omega) (by have := hx.2; have := hf.2; omega)]
      exact hh
    unfold stX
    by_cases cA : atX X < E.1
    · obtain ⟨t1, -⟩ := th_lt hO cA
      rw [if_pos cA]
      by_cases c6 : act = 6
      · rw [if_pos c6]
        refine key _ ?_
        unfold lvX
        rw [upd_n _ _ (by omega), upd_n _ _ (by omega), ad_n _ _ (by omega), ad_n _ _ (by omega)]
      · rw [if_neg c6]
        refine key _ ?_
        generalize dnX (drX E X act - w) = dn
        have e1 : ∀ Z : Nat → Int32, anX Z act dn (thX E X) 14 = Z 14 := by
          intro Z
          unfold anX
          by_cases a1 : act = 1
          · rw [if_pos a1, ad_n _ _ (by omega)]
          · rw [if_neg a1]
            by_cases a2 : act = 4
            · rw [if_pos a2, ad_n _ _ (by omega), ad_n _ _ (by omega)]
            · rw [if_neg a2]
              by_cases a3 : act = 5
              · rw [if_pos a3, ad_n _ _ (by omega), ad_n _ _ (by omega)]
              · rw [if_neg a3]
                by_cases a4 : act = 7
                · rw [if_pos a4, ad_n _ _ (by omega), ad_n _ _ (by omega)]
                · rw [if_neg a4]
        rw [e1]
        unfold foX lvX
        by_cases a1 : dn = 0
        · rw [if_pos a1]
          by_cases a2 : act = 7
          · rw [if_pos a2, upd_n _ _ (by omega)]
          · rw [if_neg a2, upd_n _ _ (by omega), ad_n _ _ (by omega), ad_n _ _ (by omega)]
        · rw [if_neg a1]
          by_cases a2 : dn = 1
          · rw [if_pos a2, upd_n _ _ (by omega), upd_n _ _ (by omega), ad_n _ _ (by omega), ad_n _ _ (by omega), ad_n _ _ (by omega)]
          · rw [if_neg a2]
            by_cases a3 : dn = 2
            · rw [if_pos a3, upd_n _ _ (by omega), upd_n _ _ (by omega), ad_n _ _ (by omega)]
            · rw [if_neg a3, ad_n _ _ (by omega), upd_n _ _ (by omega)]
    · rw [if_neg cA]; exact hx.2
  · have h2 : mostN E.1 (9999 + 99) k = mostN E.1 9999 k := by
      unfold mostN
      by_cases e9 : k = 9
      · rw [if_pos e9, if_pos e9]
      · rw [if_neg e9, if_neg e9]
        by_cases e12 : k = 12
        · rw [if_pos e12, if_pos e12]
        · rw [if_neg e12, if_neg e12]
          by_cases e13 : k = 13
          · rw [if_pos e13, if_pos e13]
          · rw [if_neg e13, if_neg e13, if_neg e, if_neg e]
    rw [h2] at h1
    exact h1
theorem q_go {g m : STt} {P N : Nat} (h : RelE g m P N) (x : Int32) : ∃ g' m' r, fX10_go g x = some (g', r) ∧ fX11_go m x = some (m', r) ∧ RelE g' m' P N := by
  obtain ⟨E, rfl, hO, hE, hM⟩ := env_of h
  obtain ⟨b1, b2, b3, b4, b5⟩ := both_0 h
  have f1 := m_ford hM hO (m.2.1 69 0) (m.2.1 57 0)
  rw [ms_id] at f1
  have f2 := c_half (d := 0) hE (g.2.1 7 0) (g.2.1 8 0) (g.2.1 22 0) x
  rw [cs_id] at f2
  obtain ⟨p, e2⟩ := m_does hM hO (m.2.1 69 0) b3 (by omega) x b4
  rw [ms_id, b5] at e2
  obtain ⟨F', L', e1⟩ := c_step (d := 0) hE hO (g.2.1 7 0) (g.2.1 8 0) (g.2.1 22 0) x 0 (dok_12 b2)
  rw [cs_id] at e1
  obtain ⟨i1, i2⟩ := is_st b1 hO x 0
  unfold fX10_go fX11_go fX11_go_j30
  rw [eX10_isAct, eX11_isAct, b_if, b_if, eX1_getk g 0 14 14 (by omega) rfl, bnd1_e, f2, bnd1_e, f1, bnd1_e, if_pos i15_14, tn14, e2, bnd_e, e1, bnd_e, b1 14 (by omega)]
  by_cases c : inB x 8 = true
  · rw [if_pos c, if_pos c]
    have hf := hf_val hO x
    have hx : inR (m.2.1 57 0 14) 0 9999 := b3 14 (by omega)
    have hs := addZ (x := m.2.1 57 0 14) (y := hfX E x) (by have := hx.1; have := hf.1; omega) (by have := hx.2; have := hf.2; omega)
    have fin : ∃ g' m' r, (if m.2.1 57 0 14 + hfX E x ≤ 9999 then some (cs g 0 F' L' (stX E (g.2.1 22 0) x 0).1, (stX E (g.2.1 22 0) x 0).2) else some (g, -3)) = some (g', r) ∧ (if m.2.1 57 0 14 + hfX E x ≤ 9999 then some (ms m p (stX E (m.2.1 57 0) x 0).1, (stX E (m.2.1 57 0) x 0).2) else some (m, -3)) = some (m', r) ∧ RelE g' m' E.1 N := by
      by_cases c2 : m.2.1 57 0 14 + hfX E x ≤ 9999
      · rw [if_pos c2, if_pos c2, i2]
        exact ⟨_, _, _, rfl, rfl, rel_go h i1 (dok_is (st_14 hO b3 x 0 (by (simp only [Int32.lt_iff_toInt_lt, Int32.le_iff_toInt_le, ← Int32.toInt_inj, Int32.reduceToInt] at *; omega))) i1)⟩
      · rw [if_neg c2, if_neg c2]
        exact ⟨_, _, _, rfl, rfl, h⟩
    by_cases c6 : x = 6
    · subst c6
      rw [if_pos rfl]
      exact fin
    · rw [if_neg c6]
      have hh : hfX E x = 1 := by unfold hfX; rw [if_neg c6]
      rw [hh] at fin ⊢
      exact fin
  · rw [if_neg c, if_neg c]
    exact ⟨_, _, _, rfl, rfl, h⟩

/-- the first of the greatest -/
def bigX (f : Nat → Int32) (n : Nat) : Nat := match n with
  | 0 => 0
  | n + 1 => if f (n + 1) ≤ f (bigX f n) then bigX f n else n + 1
theorem big_le (f : Nat → Int32) : ∀ n, bigX f n ≤ n
  | 0 => Nat.le_refl _
  | n + 1 => by
    show (if f (n + 1) ≤ f (bigX f n) then bigX f n else n + 1) ≤ n + 1
    have := big_le f n
    split <;> omega
theorem big_c {f f' : Nat → Int32} : ∀ n, (∀ i, i ≤ n → f i = f' i) → bigX f n = bigX f' n
  | 0, _ => rfl
  | n + 1, h => by
    have e := big_c n (fun i hi => h i (by omega))
    have := big_le f' n
    show (if f (n + 1) ≤ f (bigX f n) then bigX f n else n + 1) = (if f' (n + 1) ≤ f' (bigX f' n) then bigX f' n else n + 1)
    rw [e, h (n + 1) (by omega), h (bigX f' n) (by omega)]
theorem c_most (g : STt) : ∀ (n k : Nat), k ≤ 6 → 6 - k < n → iterO (fun K z => fX9_mostAgainst_l16c K g z.1 z.2) n (nI (bigX (g.2.1 8 0) k), nI (k + 1)) = some (g, nI (bigX (g.2.1 8 0) 6)) := by
  intro n
  induction n with
  | zero => intro k h1 h2; omega
  | succ n ih =>
    intro k h1 h2
    rw [iterO_succ]
    generalize iterO (fun K z => fX9_mostAgainst_l16c K g z.1 z.2) n = K at ih ⊢
    show fX9_mostAgainst_l16c K g (nI (bigX (g.2.1 8 0) k)) (nI (k + 1)) = _
    have hb := big_le (g.2.1 8 0) k
    unfold fX9_mostAgainst_l16c fX9_mostAgainst_j42
    by_cases c : k = 6
    · subst c; rw [if_pos (by decide)]
    · rw [if_neg (show ¬ (7 : Int32) ≤ nI (k + 1) from nI_ge (b := 7) (by omega) (by omega)), if_pos (inB_nI (by omega) (by omega)), if_pos (inB_nI (by omega) (by omega)), nI_c (by omega), nI_c (by omega), nI_1, ← ih (k + 1) (by omega) (by omega)]
      show _ = K (nI (if g.2.1 8 0 (k + 1) ≤ g.2.1 8 0 (bigX (g.2.1 8 0) k) then bigX (g.2.1 8 0) k else k + 1), nI (k + 2))
      by_cases c2 : g.2.1 8 0 (k + 1) ≤ g.2.1 8 0 (bigX (g.2.1 8 0) k)
      · rw [if_pos c2, if_pos c2]
      · rw [if_neg c2, if_neg c2]
theorem m_most {m : STt} {E : EVt} {hb : Int} (hM : EnM m E) (hO : EOK E) {Y : Nat → Int32} (hY : DOK E.1 hb Y) (hA : atX Y < E.1) : ∀ (n k : Nat) (pl : Nat → Int32), k ≤ 6 → 6 - k < n → ∃ p, iterO (fun K z => fX11_why_l23c K z.1 z.2.1 z.2.2) n (ms m pl Y, nI (bigX (lsX E Y 0) k), nI (k + 1)) = some (ms m p Y, nI (bigX (lsX E Y 0) 6)) := by
  intro n
  induction n with
  | zero => intro k pl h1 h2; omega
  | succ n ih =>
    intro k pl h1 h2
    rw [iterO_succ]
    generalize iterO (fun K z => fX11_why_l23c K z.1 z.2.1 z.2.2) n = K at ih ⊢
    show ∃ p, fX11_why_l23c K (ms m pl Y) (nI (bigX (lsX E Y 0) k)) (nI (k + 1)) = _
    have hb := big_le (lsX E Y 0) k
    unfold fX11_why_l23c fX11_why_j46
    by_cases c : k = 6
    · subst c; rw [if_pos (by decide)]; exact ⟨pl, rfl⟩
    · obtain ⟨p1, e1⟩ := m_less hM hO pl hY hA 0 (k + 1) (by omega)
      obtain ⟨p2, e2⟩ := m_less hM hO p1 hY hA 0 (bigX (lsX E Y 0) k) (by omega)
      obtain ⟨p3, e3⟩ := ih (k + 1) p2 (by omega) (by omega)
      refine ⟨p3, ?_⟩
      rw [if_neg (show ¬ (6 : Int32) < nI (k + 1) from nI_nlt (a := 6) (by omega) (by omega)), e1, bnd_e, e2, bnd_e, nI_1, ← e3]
      show _ = K (ms m p2 Y, nI (if lsX E Y 0 (k + 1) ≤ lsX E Y 0 (bigX (lsX E Y 0) k) then bigX (lsX E Y 0) k else k + 1), nI (k + 2))
      by_cases c2 : lsX E Y 0 (k + 1) ≤ lsX E Y 0 (bigX (lsX E Y 0) k)
      · rw [if_pos c2, if_pos c2]
      · rw [if_neg c2, if_neg c2]
theorem q_why {g m : STt} {P N : Nat} (h : RelE g m P N) : ∃ g' m' r, fX10_why g = some (g', r) ∧ fX11_why m = some (m', r) ∧ RelE g' m' P N := by
  obtain ⟨E, rfl, hO, hE, hM⟩ := env_of h
  obtain ⟨b1, b2, b3, b4, b5⟩ := both_0 h
  unfold fX10_why fX11_why fX9_mostAgainst
  rw [d_over hE hO b2, n_over hM hO b3, is_at b1, b_if2, b_if2]
  by_cases cA : atX (m.2.1 57 0) < E.1
  · rw [if_pos cA, if_pos cA]
    obtain ⟨F', L', e1, hL⟩ := c_weigh (d := 0) hE hO (g.2.1 7 0) (g.2.1 8 0) (g.2.1 22 0) 0 (dok_12 b2) (by rw [is_at b1]; exact cA)
    rw [cs_id] at e1
    obtain ⟨p, e2⟩ := m_would hM hO (m.2.1 69 0) b3 cA 0
    rw [ms_id, b4, b5, ite_self, Int32.add_zero, Int32.sub_zero, if_neg (by decide)] at e2
    rw [e1, bnd_e, e2, bnd_e, is_dr b1 (is_thlt hO b1 cA)]
    by_cases c : drX E (m.2.1 57 0) 0 ≤ 0
    · have hd : ¬ dnX (drX E (m.2.1 57 0) 0) = 1 := by
        unfold dnX
        rw [if_pos c]
        by_cases c2 : drX E (m.2.1 57 0) 0 < (-14)
        · rw [if_pos c2]
          by_cases c3 : drX E (m.2.1 57 0) 0 < (-39)
          · rw [if_pos c3]; decide
          · rw [if_neg c3]; decide
        · rw [if_neg c2]; decide
      obtain ⟨p', e3⟩ := m_most hM hO b3 cA fuelN 0 p (by omega) (by show 6 - 0 < 5000; omega)
      have e4 := c_most (cs g 0 F' L' (g.2.1 22 0)) fuelN 0 (by omega) (by show 6 - 0 < 5000; omega)
      rw [if_pos c, if_neg hd]
      unfold fX9_mostAgainst_l16 fX11_why_l23
      have e5 : bigX (L') 6 = bigX (lsX E (m.2.1 57 0) 0) 6 := big_c 6 (fun i hi => by rw [hL i (by omega)]; exact is_ls b1 (is_thlt hO b1 cA) 0 i)
      refine ⟨cs g 0 F' L' (g.2.1 22 0), ms m p' (m.2.1 57 0), nI (bigX (lsX E (m.2.1 57 0) 0) 6), ?_, e3, rel_F h (FC_cs0 g 0 _ _) (FM_ms m _ (is_rf _))⟩
      rw [cs_8, e5] at e4
      refine (congrArg (fun q => bnd q _) e4).trans ?_
      rw [bnd_e]
    · have hd : dnX (drX E (m.2.1 57 0) 0) = 1 := by unfold dnX; rw [if_neg c]
      rw [if_neg c, if_pos hd, bnd_e]
      exact ⟨_, _, _, rfl, rfl, rel_F h (FC_cs0 g 0 _ _) (FM_ms m _ (is_rf _))⟩
  · rw [if_neg cA, if_neg cA]
    exact ⟨_, _, _, rfl, rfl, h⟩
