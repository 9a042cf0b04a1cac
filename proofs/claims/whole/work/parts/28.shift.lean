/-! PURE: shift of tapes -/
theorem eX6_spans {g : STt} {t n : Nat} (hn : g.1 30 t = nI n) (hn2 : n ≤ 60) (a c : Int32) : fX6_spans g t a c = some (if 0 ≤ a.toInt ∧ 0 ≤ c.toInt ∧ a.toInt + c.toInt ≤ n then 1 else 0) := by
  unfold fX6_spans
  have e : (g.1 30 t).toInt = n := by rw [hn]; exact nI_toInt (by omega)
  have e0 : (0 : Int32).toInt = 0 := by decide
  by_cases h1 : c < 0
  · rw [if_pos h1, if_neg (by (simp only [Int32.lt_iff_toInt_lt, Int32.le_iff_toInt_le, ← Int32.toInt_inj, Int32.reduceToInt] at *; omega))]
  · rw [if_neg h1]
    by_cases h2 : a < 0
    · rw [if_pos h2, if_neg (by (simp only [Int32.lt_iff_toInt_lt, Int32.le_iff_toInt_le, ← Int32.toInt_inj, Int32.reduceToInt] at *; omega))]
    · rw [if_neg h2]
      by_cases h3 : g.1 30 t < c
      · rw [if_pos h3, if_neg (by (simp only [Int32.lt_iff_toInt_lt, Int32.le_iff_toInt_le, ← Int32.toInt_inj, Int32.reduceToInt] at *; omega))]
      · have h4 : (g.1 30 t - c).toInt = n - c.toInt := by rw [subZ (by (simp only [Int32.lt_iff_toInt_lt, Int32.le_iff_toInt_le, ← Int32.toInt_inj, Int32.reduceToInt] at *; omega)) (by (simp only [Int32.lt_iff_toInt_lt, Int32.le_iff_toInt_le, ← Int32.toInt_inj, Int32.reduceToInt] at *; omega)), e]
        rw [if_neg h3]
        by_cases h5 : g.1 30 t - c < a
        · rw [if_pos h5, if_neg (by (simp only [Int32.lt_iff_toInt_lt, Int32.le_iff_toInt_le, ← Int32.toInt_inj, Int32.reduceToInt] at *; omega))]
        · rw [if_neg h5, if_pos (by (simp only [Int32.lt_iff_toInt_lt, Int32.le_iff_toInt_le, ← Int32.toInt_inj, Int32.reduceToInt] at *; omega))]
theorem l_add (a c : Int32) : (a.toInt64 + c.toInt64).toInt = a.toInt + c.toInt := by
  rw [Int64.toInt_add, Int32.toInt_toInt64, Int32.toInt_toInt64]
  have h1 := Int32.le_toInt a
  have h2 := Int32.toInt_lt a
  have h3 := Int32.le_toInt c
  have h4 := Int32.toInt_lt c
  exact Int.bmod_eq_of_le (by omega) (by omega)
theorem l_gt (a c b : Int32) : 0 < lg_cmp (a.toInt64 + c.toInt64) b.toInt64 ↔ b.toInt < a.toInt + c.toInt := by
  rw [lg_cmp_gt, Int64.lt_iff_toInt_lt, l_add, Int32.toInt_toInt64]
theorem l_le (a c b : Int32) : lg_cmp (a.toInt64 + c.toInt64) b.toInt64 ≤ 0 ↔ a.toInt + c.toInt ≤ b.toInt := by
  rw [lg_cmp_le, Int64.le_iff_toInt_le, l_add, Int32.toInt_toInt64]
theorem ix60b (t a k : Nat) : ((60 : Int32) * nI t + nI a) + nI k = nI (60 * t + a + k) := by
  rw [ix60, nI_add]
theorem sh_2 (m : STt) (t a c : Nat) (x5 : Int32) (hc : x5 = nI c) (ht : t < 6) (ha : a + c ≤ 60) : ∀ (n k : Nat) (f : Nat → Int64), k ≤ c → c - k < n → iterO (fun K z => fX11_shift_l147c K (nI t) (nI a) x5 z.1 z.2) n (sL m 76 0 f, nI k) = some (sL m 76 0 (fun j => if 60 * t + a + k ≤ j ∧ j < 60 * t + a + c then m.2.2.1 77 0 (j - (60 * t + a)) else f j), x5) := by
  intro n
  induction n with
  | zero => intro k f h1 h2; omega
  | succ n ih =>
    intro k f h1 h2
    rw [iterO_succ]
    generalize iterO (fun K z => fX11_shift_l147c K (nI t) (nI a) x5 z.1 z.2) n = K at ih ⊢
    show fX11_shift_l147c K (nI t) (nI a) x5 (sL m 76 0 f) (nI k) = _
    unfold fX11_shift_l147c
    by_cases c0 : k = c
    · subst c0
      rw [if_pos (by rw [hc]; exact nI_le (Nat.le_refl k) (by omega))]
      refine congrArg (fun q => some (sL m 76 0 q, x5)) (funext fun j => ?_)
      rw [if_neg (by omega)]
    · rw [if_neg (by rw [hc]; exact nI_ge (by omega) (by omega)), ix60b, if_pos (inB_nI (by omega) (by omega)), if_pos (inB_nI (by omega) (by omega)), nI_c (by omega), nI_c (by omega), nI_1, sL1_sL, ih (k + 1) _ (by omega) (by omega)]
      refine congrArg (fun q => some (sL m 76 0 q, x5)) (funext fun j => ?_)
      by_cases e : j = 60 * t + a + k
      · subst e; rw [if_neg (by omega), if_pos (by omega), pk_uLs, sL_n _ _ (by omega), show 60 * t + a + k - (60 * t + a) = k by omega]
      · rw [pk_uLn e]
        by_cases e2 : 60 * t + a + k ≤ j ∧ j < 60 * t + a + c
        · rw [if_pos e2, if_pos (by omega)]
        · rw [if_neg e2, if_neg (by omega)]
theorem sh_1 (m : STt) (t a c : Nat) (x3 x4 x5 : Int32) (hc : x5 = nI c) (ht : t < 6) (ha : a + c ≤ 60) : ∀ (n k : Nat) (f : Nat → Int64), k ≤ c → c - k < n → iterO (fun K z => fX11_shift_l110c K (nI t) (nI a) x3 x4 x5 z.1 z.2) n (sL m 77 0 f, nI k) = fX11_shift_l147 x3 x4 x5 (sL m 77 0 (fun j => if k ≤ j ∧ j < c then m.2.2.1 76 0 (60 * t + a + j) else f j)) 0 := by
  intro n
  induction n with
  | zero => intro k f h1 h2; omega
  | succ n ih =>
    intro k f h1 h2
    rw [iterO_succ]
    generalize iterO (fun K z => fX11_shift_l110c K (nI t) (nI a) x3 x4 x5 z.1 z.2) n = K at ih ⊢
    show fX11_shift_l110c K (nI t) (nI a) x3 x4 x5 (sL m 77 0 f) (nI k) = _
    unfold fX11_shift_l110c
    by_cases c0 : k = c
    · subst c0
      rw [if_pos (by rw [hc]; exact nI_le (Nat.le_refl k) (by omega))]
      refine congrArg (fun q => fX11_shift_l147 x3 x4 x5 (sL m 77 0 q) 0) (funext fun j => ?_)
      rw [if_neg (by omega)]
    · rw [if_neg (by rw [hc]; exact nI_ge (by omega) (by omega)), ix60b, if_pos (inB_nI (by omega) (by omega)), if_pos (inB_nI (by omega) (by omega)), nI_c (by omega), nI_c (by omega), nI_1, sL1_sL, ih (k + 1) _ (by omega) (by omega)]
      refine congrArg (fun q => fX11_shift_l147 x3 x4 x5 (sL m 77 0 q) 0) (funext fun j => ?_)
      by_cases e : j = k
      · subst e; rw [if_neg (by omega), if_pos (by omega), pk_uLs, sL_n _ _ (by omega)]
      · rw [pk_uLn e]
        by_cases e2 : k ≤ j ∧ j < c
        · rw [if_pos e2, if_pos (by omega)]
        · rw [if_neg e2, if_neg (by omega)]
theorem sh_all (m : STt) (t a t' a' c : Nat) (ht : t < 6) (ht' : t' < 6) (ha : a + c ≤ 60) (ha' : a' + c ≤ 60) : ∃ m' f, fX11_shift_l110 (nI t) (nI a) (nI t') (nI a') (nI c) m 0 = some (m', nI c) ∧ m' = sL (sL m 77 0 f) 76 0 (fun j => if 60 * t' + a' ≤ j ∧ j < 60 * t' + a' + c then m.2.2.1 76 0 (60 * t + a + (j - (60 * t' + a'))) else m.2.2.1 76 0 j) := by
  have h1 := sh_1 m t a c (nI t') (nI a') (nI c) rfl ht ha fuelN 0 (m.2.2.1 77 0) (by omega) (by show c - 0 < 5000; omega)
  rw [sL_id] at h1
  generalize hf : (fun j => if 0 ≤ j ∧ j < c then m.2.2.1 76 0 (60 * t + a + j) else m.2.2.1 77 0 j) = f at h1
  have h2 := sh_2 (sL m 77 0 f) t' a' c (nI c) rfl ht' ha' fuelN 0 ((sL m 77 0 f).2.2.1 76 0) (by omega) (by show c - 0 < 5000; omega)
  rw [sL_id] at h2
  refine ⟨_, f, h1.trans h2, ?_⟩
  refine congrArg (sL (sL m 77 0 f) 76 0) (funext fun j => ?_)
  by_cases e : 60 * t' + a' ≤ j ∧ j < 60 * t' + a' + c
  · rw [if_pos e, if_pos (by omega), sL_s, ← hf]
    show (if 0 ≤ j - (60 * t' + a') ∧ j - (60 * t' + a') < c then _ else _) = _
    rw [if_pos (by omega)]
  · rw [if_neg e, if_neg (by omega)]; rfl
theorem q_shift {g m : STt} {P N : Nat} (h : RelE g m P N) (x y z u v : Int32) : ∃ g' m' r, fX10_shift g x y z u v = some (g', r) ∧ fX11_shift m x y z u v = some (m', r) ∧ RelE g' m' P N := by
  obtain ⟨hPl, hDo, h0, h1, h2, h3, hTp, hOd, hBo, hCo, hIm, hHo⟩ := id h
  unfold fX10_shift fX11_shift
  rw [eX10_tapeOf, eX10_tapeOf, eX11_isTape, eX11_isTape, b_if, b_if]
  by_cases c : inB x 6 = true
  · by_cases c' : inB z 6 = true
    · simp only [if_pos c, if_pos c', bnd1_e]
      obtain ⟨t, ht, rfl⟩ := inB_of c (by omega)
      obtain ⟨t', ht', rfl⟩ := inB_of c' (by omega)
      rw [nI_c (by omega), nI_c (by omega)]
      show ∃ g' m' r, (if t < 6 then (if t' < 6 then _ else none) else none) = some (g', r) ∧ _
      rw [if_pos ht, if_pos ht', eX6_holds, b_if2, eX6_holds, b_if2]
      obtain ⟨b1, b2, b3, b4⟩ := hTp t ht
      obtain ⟨b1', b2', b3', b4'⟩ := hTp t' ht'
      rw [← b1, ← b1']
      by_cases c1 : g.1 29 t = -1
      · rw [if_pos c1, c1, if_pos (c := (-1 : Int32) < 0) (by decide)]
        exact ⟨_, _, _, rfl, rfl, h⟩
      · have c2 : 0 ≤ (g.1 29 t).toInt := by
          have : ¬ (g.1 29 t).toInt = -1 := fun hh => c1 (Int32.toInt_inj.mp (hh.trans (by decide)))
          have := b2.1
          omega
        rw [if_neg c1, if_neg (c := g.1 29 t < 0) (by (simp only [Int32.lt_iff_toInt_lt, Int32.le_iff_toInt_le, ← Int32.toInt_inj, Int32.reduceToInt] at *; omega))]
        by_cases c1' : g.1 29 t' = -1
        · rw [if_pos c1', c1', if_neg (c := (0 : Int32) ≤ -1) (by decide)]
          exact ⟨_, _, _, rfl, rfl, h⟩
        · have c2' : 0 ≤ (g.1 29 t').toInt := by
            have : ¬ (g.1 29 t').toInt = -1 := fun hh => c1' (Int32.toInt_inj.mp (hh.trans (by decide)))
            have := b2'.1
            omega
          rw [if_neg c1', if_pos (c := (0 : Int32) ≤ g.1 29 t') (by (simp only [Int32.lt_iff_toInt_lt, Int32.le_iff_toInt_le, ← Int32.toInt_inj, Int32.reduceToInt] at *; omega))]
          unfold fX6_sort
          rw [bnd1_e, bnd1_e]
          by_cases cs : g.1 29 t = g.1 29 t'
          · rw [if_pos cs, if_pos cs]
            obtain ⟨n, n1, n2, n3, n4⟩ := b4 c1
            obtain ⟨n', n1', n2', n3', n4'⟩ := b4' c1'
            rw [eX6_spans n2 n1, b_if, eX6_spans n2' n1', b_if, n3, n3']
            have e1 : (nI n).toInt = n := nI_toInt (by omega)
            have e2 : (nI n').toInt = n' := nI_toInt (by omega)
            have bad : (v < 0 ∨ y < 0 ∨ u < 0 ∨ 0 < lg_cmp (y.toInt64 + v.toInt64) (nI n).toInt64 ∨ ¬ lg_cmp (u.toInt64 + v.toInt64) (nI n').toInt64 ≤ 0) → (if v < 0 then (some (m, (-13 : Int32))) else (if y < 0 then (some (m, (-13))) else (if u < 0 then (some (m, (-13))) else (if 0 < (lg_cmp (y.toInt64 + v.toInt64) (nI n).toInt64) then (some (m, (-13))) else (if (lg_cmp (u.toInt64 + v.toInt64) (nI n').toInt64) ≤ 0 then (fX11_shift_l110 (nI t) y (nI t') u v m 0) else (some (m, (-13)))))))) = some (m, -13) := by
              intro hh
              by_cases d1 : v < 0
              · rw [if_pos d1]
              · by_cases d2 : y < 0
                · rw [if_neg d1, if_pos d2]
                · by_cases d3 : u < 0
                  · rw [if_neg d1, if_neg d2, if_pos d3]
                  · by_cases d4 : 0 < lg_cmp (y.toInt64 + v.toInt64) (nI n).toInt64
                    · rw [if_neg d1, if_neg d2, if_neg d3, if_pos d4]
                    · rw [if_neg d1, if_neg d2, if_neg d3, if_neg d4, if_neg (fun d5 => hh.elim d1 fun q => q.elim d2 fun q => q.elim d3 fun q => q.elim d4 fun q => q d5)]
            have k1 : 0 < lg_cmp (y.toInt64 + v.toInt64) (nI n).toInt64 ↔ (n : Int) < y.toInt + v.toInt := by rw [l_gt, e1]
            have k2 : lg_cmp (u.toInt64 + v.toInt64) (nI n').toInt64 ≤ 0 ↔ u.toInt + v.toInt ≤ (n' : Int) := by rw [l_le, e2]
            have bad := fun hq : (v < 0 ∨ y < 0 ∨ u < 0 ∨ (n : Int) < y.toInt + v.toInt ∨ ¬ u.toInt + v.toInt ≤ (n' : Int)) => bad (hq.imp id (Or.imp id (Or.imp id (Or.imp k1.mpr (fun q1 q2 => q1 (k2.mp q2))))))
            clear k1 k2
            by_cases d1 : 0 ≤ y.toInt ∧ 0 ≤ v.toInt ∧ y.toInt + v.toInt ≤ n
            · rw [if_pos d1]
              by_cases d2 : 0 ≤ u.toInt ∧ 0 ≤ v.toInt ∧ u.toInt + v.toInt ≤ n'
              · rw [if_pos d2]
                obtain ⟨a, ha, rfl⟩ := inB_of (x := y) (n := 61) (inB_iff.mpr (by omega)) (by omega)
                obtain ⟨a', ha', rfl⟩ := inB_of (x := u) (n := 61) (inB_iff.mpr (by omega)) (by omega)
                obtain ⟨k, hk, rfl⟩ := inB_of (x := v) (n := 61) (inB_iff.mpr (by omega)) (by omega)
                have f1 : (nI a).toInt = a := nI_toInt (by omega)
                have f2 : (nI a').toInt = a' := nI_toInt (by omega)
                have f3 : (nI k).toInt = k := nI_toInt (by omega)
                rw [f1, f3] at d1
                rw [f2, f3] at d2
                rw [if_neg (nI_pos (by omega)), if_neg (nI_pos (by omega)), if_neg (nI_pos (by omega)), if_neg (by rw [l_gt, f1, f3, e1]; omega), if_pos (by rw [l_le, f2, f3, e2]; omega)]
                obtain ⟨m', f, hm, hm'⟩ := sh_all m t a t' a' k ht ht' (by omega) (by omega)
                rw [hm]
                unfold fX6_copyIn
                rw [eX6_spans n2' n1', b_if, eX6_spans n2 n1, b_if, if_pos (by omega), if_pos (by omega), if_pos (show cpB (nI a) (nI a') (nI k) 60 60 = true by
                  unfold cpB
                  rw [nI_c (by omega), nI_c (by omega), nI_c (by omega)]
                  simp only [Bool.and_eq_true, decide_eq_true_eq]
                  exact ⟨⟨⟨⟨nI_pos (by omega), nI_pos (by omega)⟩, nI_pos (by omega)⟩, by omega⟩, by omega⟩), bnd1_e, nI_c (by omega), nI_c (by omega), nI_c (by omega)]
                refine ⟨_, m', _, rfl, rfl, ?_⟩
                rw [hm']
                refine ⟨hPl, hDo, h0, h1, h2, h3, fun s hs => ?_, hOd, hBo, hCo, hIm, hHo⟩
                obtain ⟨b1', b2', b3', b4'⟩ := hTp s hs
                refine ⟨b1', b2', b3', fun hh => ?_⟩
                obtain ⟨q, q1, q2, q3, q4⟩ := b4' hh
                refine ⟨q, q1, q2, q3, fun j hj => ?_⟩
                rw [sL_s]
                by_cases e : s = t'
                · subst e
                  rw [sL_s]
                  have : q = n' := by
                    have := q2.symm.trans n2'
                    exact (nI_eq (by omega) (by omega)).mp this
                  by_cases e2 : a' ≤ j ∧ j < a' + k
                  · rw [pk_cpy_in e2.1 e2.2, if_pos (by omega), n4 _ (by omega)]
                    exact congrArg (m.2.2.1 76 0) (by omega)
                  · rw [pk_cpy_out (by omega), if_neg (by omega)]
                    exact q4 j hj
                · rw [sL_n _ _ (by omega), if_neg (by omega)]
                  exact q4 j hj
              · rw [if_neg d2]
                refine ⟨_, _, _, rfl, bad (by (simp only [Int32.lt_iff_toInt_lt, Int32.le_iff_toInt_le, ← Int32.toInt_inj, Int32.reduceToInt] at *; omega)), h⟩
            · rw [if_neg d1]
              refine ⟨_, _, _, rfl, bad (by (simp only [Int32.lt_iff_toInt_lt, Int32.le_iff_toInt_le, ← Int32.toInt_inj, Int32.reduceToInt] at *; omega)), h⟩
          · rw [if_neg cs, if_neg cs]; exact ⟨_, _, _, rfl, rfl, h⟩
    · simp only [if_pos c, if_neg c', bnd1_e]
      obtain ⟨t, ht, rfl⟩ := inB_of c (by omega)
      rw [nI_c (by omega)]
      show ∃ g' m' r, (if t < 6 then _ else none) = some (g', r) ∧ _
      rw [if_pos ht]
      exact ⟨_, _, _, rfl, rfl, h⟩
  · simp only [if_neg c, bnd1_e]
    by_cases c' : inB z 6 = true
    · simp only [if_pos c']
      obtain ⟨t', ht', rfl⟩ := inB_of c' (by omega)
      rw [nI_c (by omega)]
      refine ⟨_, _, _, ?_, rfl, h⟩
      show (if t' < 6 then _ else none) = _
      rw [if_pos ht']
    · simp only [if_neg c']
      exact ⟨_, _, _, rfl, rfl, h⟩
