/-! PURE: tapes -/
theorem sL_sL (g : STt) (c i : Nat) (f f' : Nat → Int64) : sL (sL g c i f) c i f' = sL g c i f' := by
  simp only [sL]
  congr 3
  funext c' i'
  by_cases h : c' = c ∧ i' = i <;> simp [h]
theorem sL1_sL (g : STt) (c i k : Nat) (f : Nat → Int64) (v : Int64) : sL1 (sL g c i f) c i k v = sL g c i (vp_updL f k v) := by
  show sL (sL g c i f) c i (vp_updL ((sL g c i f).2.2.1 c i) k v) = _
  rw [sL_sL, sL_3, if_pos ⟨rfl, rfl⟩]
theorem sL_id (g : STt) (c i : Nat) : sL g c i (g.2.2.1 c i) = g := by
  obtain ⟨a, b, l, w⟩ := g
  show (a, b, (fun c' i' => if c' = c ∧ i' = i then l c i else l c' i'), w) = (a, b, l, w)
  congr 3
  funext c' i'
  by_cases h : c' = c ∧ i' = i
  · rw [if_pos h, h.1, h.2]
  · rw [if_neg h]
theorem sS_s (g : STt) (c i : Nat) (v : Int32) : (sS g c i v).1 c i = v := if_pos ⟨rfl, rfl⟩
theorem sS_n (g : STt) {c i c' i' : Nat} (v : Int32) (h : ¬ (c' = c ∧ i' = i)) : (sS g c i v).1 c' i' = g.1 c' i' := if_neg h
theorem sA_s (g : STt) (c i : Nat) (f : Nat → Int32) : (sA g c i f).2.1 c i = f := if_pos ⟨rfl, rfl⟩
theorem sA_n (g : STt) {c i c' i' : Nat} (f : Nat → Int32) (h : ¬ (c' = c ∧ i' = i)) : (sA g c i f).2.1 c' i' = g.2.1 c' i' := if_neg h
theorem sA1_s (g : STt) (c i k : Nat) (v : Int32) : (sA1 g c i k v).2.1 c i = upd (g.2.1 c i) k v := if_pos ⟨rfl, rfl⟩
theorem sA1_n (g : STt) {c i c' i' k : Nat} (v : Int32) (h : ¬ (c' = c ∧ i' = i)) : (sA1 g c i k v).2.1 c' i' = g.2.1 c' i' := if_neg h
theorem sL_s (g : STt) (c i : Nat) (f : Nat → Int64) : (sL g c i f).2.2.1 c i = f := if_pos ⟨rfl, rfl⟩
theorem sL_n (g : STt) {c i c' i' : Nat} (f : Nat → Int64) (h : ¬ (c' = c ∧ i' = i)) : (sL g c i f).2.2.1 c' i' = g.2.2.1 c' i' := if_neg h
theorem eX10_tapeOf (g : STt) (x : Int32) : fX10_tapeOf g x = some (if inB x 6 = true then some x.toNatClampNeg else none) := by
  unfold fX10_tapeOf fX10_tapeOf_j22
  by_cases h : inB x 6 = true
  · have h1 := inB_iff.mp h
    rw [if_pos h, if_neg (by (simp only [Int32.lt_iff_toInt_lt, Int32.le_iff_toInt_le, ← Int32.toInt_inj, Int32.reduceToInt] at *; omega)), if_neg (by (simp only [Int32.lt_iff_toInt_lt, Int32.le_iff_toInt_le, ← Int32.toInt_inj, Int32.reduceToInt] at *; omega)), if_pos h]
  · have h1 := inB_f.mp h
    by_cases h2 : x < 0
    · rw [if_pos h2, if_neg h]
    · rw [if_neg h2, if_pos (by (simp only [Int32.lt_iff_toInt_lt, Int32.le_iff_toInt_le, ← Int32.toInt_inj, Int32.reduceToInt] at *; omega)), if_neg h]
theorem eX11_isTape (m : STt) (x : Int32) : fX11_isTape m x = some (if inB x 6 = true then 1 else 0) := by
  unfold fX11_isTape
  rw [eX11_in, bnd1_e, if_pos (b01 _)]
  by_cases h : inB x 6 = true
  · have h1 := inB_iff.mp h
    rw [if_pos h, if_pos (by (simp only [Int32.lt_iff_toInt_lt, Int32.le_iff_toInt_le, ← Int32.toInt_inj, Int32.reduceToInt] at *; omega))]
  · have h1 := inB_f.mp h
    rw [if_neg h, if_neg (by (simp only [Int32.lt_iff_toInt_lt, Int32.le_iff_toInt_le, ← Int32.toInt_inj, Int32.reduceToInt] at *; omega))]
theorem fill_C (g : STt) (t : Nat) (v : Int64) : ∀ (n k : Nat) (f : Nat → Int64), k ≤ 60 → 60 - k < n → iterO (fun K z => fJ7_fill_d0a16_l6c K t v 60 z.1 z.2) n (sL g 31 t f, nI k) = some (sL g 31 t (fun j => if k ≤ j ∧ j < 60 then v else f j)) := by
  intro n
  induction n with
  | zero => intro k f h1 h2; omega
  | succ n ih =>
    intro k f h1 h2
    rw [iterO_succ]
    generalize iterO (fun K z => fJ7_fill_d0a16_l6c K t v 60 z.1 z.2) n = K at ih ⊢
    show fJ7_fill_d0a16_l6c K t v 60 (sL g 31 t f) (nI k) = _
    unfold fJ7_fill_d0a16_l6c
    by_cases c : k = 60
    · subst c
      rw [if_pos (show (60 : Int32) ≤ nI 60 by decide)]
      congr 2
      funext j
      rw [if_neg (by omega)]
    · rw [if_neg (show ¬ (60 : Int32) ≤ nI k from nI_ge (b := 60) (by omega) (by omega)), if_pos (inB_nI (by omega) (by omega)), nI_c (by omega), nI_1, sL1_sL, ih (k + 1) _ (by omega) (by omega)]
      congr 2
      funext j
      by_cases e : j = k
      · subst e; rw [if_neg (by omega), if_pos (by omega), pk_uLs]
      · rw [pk_uLn e]
        by_cases e2 : k ≤ j ∧ j < 60
        · rw [if_pos e2, if_pos (by omega)]
        · rw [if_neg e2, if_neg (by omega)]
theorem ix60 (t k : Nat) : (60 : Int32) * nI t + nI k = nI (60 * t + k) := by
  rw [show (60 : Int32) = nI 60 from rfl, pk_mul, nI_add]
theorem fill_M (m : STt) (t N : Nat) (ht : t < 6) (hN : N ≤ 60) : ∀ (n k : Nat) (f : Nat → Int64), k ≤ N → N - k < n → iterO (fun K z => fX11_tape_l68c K (nI t) (nI N) z.1 z.2) n (sL m 76 0 f, nI k) = some (sL m 76 0 (fun j => if 60 * t + k ≤ j ∧ j < 60 * t + N then 0 else f j), 1) := by
  intro n
  induction n with
  | zero => intro k f h1 h2; omega
  | succ n ih =>
    intro k f h1 h2
    rw [iterO_succ]
    generalize iterO (fun K z => fX11_tape_l68c K (nI t) (nI N) z.1 z.2) n = K at ih ⊢
    show fX11_tape_l68c K (nI t) (nI N) (sL m 76 0 f) (nI k) = _
    unfold fX11_tape_l68c
    by_cases c : k = N
    · subst c
      rw [if_pos (nI_le (Nat.le_refl k) (by omega))]
      congr 3
      funext j
      rw [if_neg (by omega)]
    · rw [if_neg (nI_ge (by omega) (by omega)), ix60, if_pos (inB_nI (by omega) (by omega)), nI_c (by omega), nI_1, sL1_sL, ih (k + 1) _ (by omega) (by omega)]
      congr 3
      funext j
      by_cases e : j = 60 * t + k
      · subst e; rw [if_neg (by omega), if_pos (by omega), pk_uLs]
      · rw [pk_uLn e]
        by_cases e2 : 60 * t + k ≤ j ∧ j < 60 * t + N
        · rw [if_pos e2, if_pos (by omega)]
        · rw [if_neg e2, if_neg (by omega)]
theorem eX6_renew (g : STt) (t : Nat) (x : Int32) (N : Nat) (hN : N ≤ 60) : fX6_renew g t x (nI N) = some (sL (sS (sS g 29 t x) 30 t (nI N)) 31 t (fun j => if j < 60 then 0 else g.2.2.1 31 t j)) := by
  have e1 : (if nI N < (60 : Int32) then nI N else (60 : Int32)) = nI N := by
    by_cases h : N = 60
    · subst h; rfl
    · rw [if_pos (show nI N < 60 from nI_lt (b := 60) (by omega) (by omega))]
  have e2 : (if (0 : Int32) < nI N then nI N else (0 : Int32)) = nI N := by
    by_cases h : N = 0
    · subst h; rfl
    · rw [if_pos (show (0 : Int32) < nI N from nI_lt (a := 0) (by omega) (by omega))]
  unfold fX6_renew fJ7_fill_d0a16 fJ7_fill_d0a16_l6
  rw [e1, e2]
  have h := fill_C (sS (sS g 29 t x) 30 t (nI N)) t 0 fuelN 0 ((sS (sS g 29 t x) 30 t (nI N)).2.2.1 31 t) (by omega) (by show 60 - 0 < 5000; omega)
  rw [sL_id] at h
  refine (congrArg (fun q => bnd1 q _) h).trans ?_
  rw [bnd1_e]
  refine congrArg (fun f => some (sL (sS (sS g 29 t x) 30 t (nI N)) 31 t f)) (funext fun j => ?_)
  by_cases e : j < 60
  · rw [if_pos e, if_pos ⟨by omega, e⟩]
  · rw [if_neg e, if_neg (by omega)]; rfl
theorem rtp_renew {g m : STt} (hTp : RTp g m) {t : Nat} {y : Int32} {N' : Nat} {f : Nat → Int64} {m' : STt} (hy : inR y (-1) 4) (hN : N' ≤ 60) (hN0 : y = -1 → N' = 0)
    (e1 : m'.2.1 74 0 = upd (m.2.1 74 0) t y) (e2 : y ≠ -1 → m'.2.1 75 0 t = nI N') (e3 : ∀ t', t' ≠ t → m'.2.1 75 0 t' = m.2.1 75 0 t') (e4 : ∀ j, j < N' → m'.2.2.1 76 0 (60 * t + j) = f j) (e5 : ∀ t' j, t' ≠ t → j < 60 → m'.2.2.1 76 0 (60 * t' + j) = m.2.2.1 76 0 (60 * t' + j)) :
    RTp (sL (sS (sS g 29 t y) 30 t (nI N')) 31 t f) m' := fun t' ht' => by
  by_cases e : t' = t
  · subst e
    have a1 : (sL (sS (sS g 29 t' y) 30 t' (nI N')) 31 t' f).1 29 t' = y := by
      rw [sL_1, sS_n _ _ (by omega), sS_s]
    have a2 : (sL (sS (sS g 29 t' y) 30 t' (nI N')) 31 t' f).1 30 t' = nI N' := by
      rw [sL_1, sS_s]
    rw [a1, a2, e1, upd_s, sL_s]
    refine ⟨rfl, hy, fun hh => by rw [hN0 hh]; rfl, fun hh => ⟨N', hN, rfl, e2 hh, fun k hk => (e4 k hk).symm⟩⟩
  · have a1 : (sL (sS (sS g 29 t y) 30 t (nI N')) 31 t f).1 29 t' = g.1 29 t' := by
      rw [sL_1, sS_n _ _ (by omega), sS_n _ _ (by omega)]
    have a2 : (sL (sS (sS g 29 t y) 30 t (nI N')) 31 t f).1 30 t' = g.1 30 t' := by
      rw [sL_1, sS_n _ _ (by omega), sS_n _ _ (by omega)]
    have a3 : (sL (sS (sS g 29 t y) 30 t (nI N')) 31 t f).2.2.1 31 t' = g.2.2.1 31 t' := by
      rw [sL_n _ _ (by omega)]; rfl
    rw [a1, a2, a3, e1, upd_n _ _ e, e3 t' e]
    obtain ⟨b1, b2, b3, b4⟩ := hTp t' ht'
    refine ⟨b1, b2, b3, fun hh => ?_⟩
    obtain ⟨n, n1, n2, n3, n4⟩ := b4 hh
    exact ⟨n, n1, n2, n3, fun k hk => by rw [e5 t' k e (by omega)]; exact n4 k hk⟩
theorem q_tape {g m : STt} {P N : Nat} (h : RelE g m P N) (x y z : Int32) : ∃ g' m' r, fX10_tape g x y z = some (g', r) ∧ fX11_tape m x y z = some (m', r) ∧ RelE g' m' P N := by
  obtain ⟨hPl, hDo, h0, h1, h2, h3, hTp, hOd, hBo, hCo, hIm, hHo⟩ := id h
  unfold fX10_tape fX11_tape fX11_tape_l68
  rw [eX10_tapeOf, eX11_isTape, b_if, bnd1_e, eX11_in, b_if]
  by_cases c : inB x 6 = true
  · simp only [if_pos c]
    obtain ⟨t, ht, rfl⟩ := inB_of c (by omega)
    rw [nI_c (by omega)]
    show ∃ g' m' r, (if t < 6 then _ else none) = some (g', r) ∧ _
    rw [if_pos ht]
    by_cases c0 : y = -1
    · subst c0
      rw [if_pos (show (-1 : Int32) = -1 from rfl), if_pos (show (-1 : Int32) = -1 from rfl), if_pos (show (-1 : Int32).toInt ≤ (-1 : Int32).toInt ∧ (-1 : Int32).toInt ≤ (4 : Int32).toInt by decide), show (0 : Int32) = nI 0 from rfl, eX6_renew g t (-1) 0 (by omega), bnd1_e]
      refine ⟨_, sA1 m 74 0 t (-1), _, rfl, rfl, hPl, hDo, h0, h1, h2, h3, rtp_renew hTp ⟨by decide, by decide⟩ (by omega) (fun _ => rfl) (sA1_s m 74 0 t (-1)) (fun hh => absurd rfl hh) (fun t' e => rfl) (fun j hj => by omega) (fun t' j _ _ => rfl), hOd, hBo, hCo, hIm, hHo⟩
    · rw [if_neg c0, if_neg c0]
      by_cases c1 : inR y (-1) 4
      · obtain ⟨c2, c3⟩ := id c1
        have c4 : 0 ≤ y.toInt := by
          have : ¬ y.toInt = -1 := fun hh => c0 (Int32.toInt_inj.mp (hh.trans (by decide)))
          omega
        rw [if_neg (c := y < 0) (by (simp only [Int32.lt_iff_toInt_lt, Int32.le_iff_toInt_le, ← Int32.toInt_inj, Int32.reduceToInt] at *; omega)), if_neg (c := (4 : Int32) < y) (by (simp only [Int32.lt_iff_toInt_lt, Int32.le_iff_toInt_le, ← Int32.toInt_inj, Int32.reduceToInt] at *; omega)), if_pos (c := (-1 : Int32).toInt ≤ y.toInt ∧ _) (by (simp only [Int32.lt_iff_toInt_lt, Int32.le_iff_toInt_le, ← Int32.toInt_inj, Int32.reduceToInt] at *; omega))]
        by_cases cz : z ≤ 60
        · rw [if_pos cz, if_pos cz]
          by_cases cz0 : 0 ≤ z
          · obtain ⟨N', hN', rfl⟩ := inB_of (x := z) (n := 61) (inB_iff.mpr (by (simp only [Int32.lt_iff_toInt_lt, Int32.le_iff_toInt_le, ← Int32.toInt_inj, Int32.reduceToInt] at *; omega))) (by omega)
            rw [if_pos cz0, if_pos cz0, eX6_renew g t y N' (by omega), bnd1_e]
            have hM := fill_M (sA1 (sA1 m 74 0 t y) 75 0 t (nI N')) t N' ht (by omega) fuelN 0 (m.2.2.1 76 0) (by omega) (by show N' - 0 < 5000; omega)
            rw [show sL (sA1 (sA1 m 74 0 t y) 75 0 t (nI N')) 76 0 (m.2.2.1 76 0) = sA1 (sA1 m 74 0 t y) 75 0 t (nI N') from sL_id _ 76 0] at hM
            refine ⟨_, _, 1, rfl, hM, hPl, hDo, h0, h1, h2, h3, rtp_renew hTp c1 (by omega) (fun hh => absurd hh c0) rfl (fun _ => ?_) (fun t' e => ?_) (fun j hj => ?_) (fun t' j e hj => ?_), hOd, hBo, hCo, hIm, hHo⟩
            · show upd (m.2.1 75 0) t (nI N') t = _
              rw [upd_s]
            · show upd (m.2.1 75 0) t (nI N') t' = _
              rw [upd_n _ _ e]
            · rw [sL_s, if_pos (by omega), if_pos (by omega)]
            · rw [sL_s, if_neg (by omega)]
          · rw [if_neg cz0, if_neg cz0]; exact ⟨_, _, _, rfl, rfl, h⟩
        · rw [if_neg cz, if_neg cz]; exact ⟨_, _, _, rfl, rfl, h⟩
      · have c1' : ¬ (-1 ≤ y.toInt ∧ y.toInt ≤ 4) := c1
        clear c1
        rw [if_neg (c := (-1 : Int32).toInt ≤ y.toInt ∧ _) (by (simp only [Int32.lt_iff_toInt_lt, Int32.le_iff_toInt_le, ← Int32.toInt_inj, Int32.reduceToInt] at *; omega))]
        by_cases c2 : y < 0
        · rw [if_pos c2]; exact ⟨_, _, _, rfl, rfl, h⟩
        · rw [if_neg c2, if_pos (by (simp only [Int32.lt_iff_toInt_lt, Int32.le_iff_toInt_le, ← Int32.toInt_inj, Int32.reduceToInt] at *; omega))]; exact ⟨_, _, _, rfl, rfl, h⟩
  · simp only [if_neg c]
    exact ⟨_, _, _, rfl, rfl, h⟩
theorem eX6_has {g : STt} {t n : Nat} (hn : g.1 30 t = nI n) (hn2 : n ≤ 60) (x : Int32) : fX6_has g t x = some (if inB x n = true then 1 else 0) := by
  unfold fX6_has
  have e : (g.1 30 t).toInt = n := by rw [hn]; exact nI_toInt (by omega)
  by_cases h : inB x n = true
  · have h1 := inB_iff.mp h
    rw [if_pos h, if_neg (by (simp only [Int32.lt_iff_toInt_lt, Int32.le_iff_toInt_le, ← Int32.toInt_inj, Int32.reduceToInt] at *; omega)), if_neg (by (simp only [Int32.lt_iff_toInt_lt, Int32.le_iff_toInt_le, ← Int32.toInt_inj, Int32.reduceToInt] at *; omega)), if_neg (by (simp only [Int32.lt_iff_toInt_lt, Int32.le_iff_toInt_le, ← Int32.toInt_inj, Int32.reduceToInt] at *; omega))]
  · have h1 := inB_f.mp h
    rw [if_neg h]
    by_cases h2 : x < 0
    · rw [if_pos h2]
    · rw [if_neg h2, if_pos (by (simp only [Int32.lt_iff_toInt_lt, Int32.le_iff_toInt_le, ← Int32.toInt_inj, Int32.reduceToInt] at *; omega))]
theorem in01 {m : STt} {n : Nat} (hn : n ≤ 60) (x : Int32) : fX11_in m x 0 (nI n - 1) = some (if inB x n = true then 1 else 0) := by
  rw [eX11_in]
  have e1 : (nI n - 1).toInt = (n : Int) - 1 := pk_sub_toInt (a := n) (b := 1) (by omega) (by omega)
  have e0 : (0 : Int32).toInt = 0 := by decide
  by_cases h : inB x n = true
  · have h1 := inB_iff.mp h
    rw [if_pos h, if_pos (by omega)]
  · have h1 := inB_f.mp h
    rw [if_neg h, if_neg (by omega)]
theorem eX6_holds (g : STt) (t : Nat) : fX6_holdsSomething g t = some (if g.1 29 t = -1 then 0 else 1) := by
  unfold fX6_holdsSomething
  by_cases h : g.1 29 t = -1
  · rw [if_pos h, if_pos h]
  · rw [if_neg h, if_neg h]
theorem b_if2 {α : Type} (p : Prop) [Decidable p] (A B : Option α) : (bnd1 (some (if p then (0 : Int32) else 1)) fun r => if r = 0 then A else B) = if p then A else B := by
  by_cases h : p <;> simp only [h, if_true, if_false, bnd1_e] <;> rfl
theorem q_read {g m : STt} {P N : Nat} (h : RelE g m P N) (x y : Int32) : ∃ r, fX10_read g x y = some r ∧ fX11_read m x y = some r := by
  obtain ⟨hPl, hDo, h0, h1, h2, h3, hTp, hOd, hBo, hCo, hIm, hHo⟩ := id h
  unfold fX10_read fX11_read
  rw [eX10_tapeOf, eX11_isTape, b_if, bnd1_e]
  by_cases c : inB x 6 = true
  · simp only [if_pos c]
    obtain ⟨t, ht, rfl⟩ := inB_of c (by omega)
    rw [nI_c (by omega)]
    show ∃ r, (if t < 6 then _ else none) = some r ∧ _
    rw [if_pos ht]
    obtain ⟨b1, b2, b3, b4⟩ := hTp t ht
    rw [← b1]
    by_cases c1 : g.1 29 t = -1
    · rw [eX6_has (n := 0) (b3 c1) (by omega), b_if, if_neg (c := inB y 0 = true) (by rw [inB_iff]; omega), c1, if_pos (c := (-1 : Int32) < 0) (by decide)]
      exact ⟨_, rfl, rfl⟩
    · have c2 : 0 ≤ (g.1 29 t).toInt := by
        have : ¬ (g.1 29 t).toInt = -1 := fun hh => c1 (Int32.toInt_inj.mp (hh.trans (by decide)))
        have := b2.1
        omega
      obtain ⟨n, n1, n2, n3, n4⟩ := b4 c1
      rw [eX6_has n2 n1, b_if, if_neg (c := g.1 29 t < 0) (by (simp only [Int32.lt_iff_toInt_lt, Int32.le_iff_toInt_le, ← Int32.toInt_inj, Int32.reduceToInt] at *; omega)), n3, in01 n1, b_if]
      by_cases c3 : inB y n = true
      · obtain ⟨k, hk, rfl⟩ := inB_of c3 (by omega)
        unfold fX6_get
        rw [if_pos c3, if_pos c3, eX6_has n2 n1, b_if, if_pos c3, ix60, if_pos (inB_nI (show k < 60 by omega) (by omega)), if_pos (inB_nI (show 60 * t + k < 360 by omega) (by omega)), nI_c (by omega), nI_c (by omega), bnd1_e, n4 k hk]
        exact ⟨_, rfl, rfl⟩
      · rw [if_neg c3, if_neg c3]
        exact ⟨_, rfl, rfl⟩
  · simp only [if_neg c]
    exact ⟨_, rfl, rfl⟩
theorem c5 {z : Int32} (h : 0 ≤ z.toInt) (h2 : z.toInt ≤ 4) : z = 0 ∨ z = 1 ∨ z = 2 ∨ z = 3 ∨ z = 4 := by (simp only [Int32.lt_iff_toInt_lt, Int32.le_iff_toInt_le, ← Int32.toInt_inj, Int32.reduceToInt] at *; omega)
theorem e_cut {g m : STt} {t : Nat} (h : 0 ≤ (g.1 29 t).toInt) (h2 : (g.1 29 t).toInt ≤ 4) (z : Int64) : ∃ v, fX6_cut g t z = some v ∧ fX11_as m (g.1 29 t) z = some v := by
  unfold fX6_cut fX11_as
  generalize g.1 29 t = s at h h2 ⊢
  rcases c5 h h2 with rfl | rfl | rfl | rfl | rfl
  · exact ⟨_, rfl, rfl⟩
  · exact ⟨_, rfl, rfl⟩
  · exact ⟨_, rfl, rfl⟩
  · exact ⟨_, rfl, rfl⟩
  · by_cases c : lg_cmp z 0 = 0
    · exact ⟨0, by rw [if_neg (by decide), if_neg (by decide), if_neg (by decide), if_neg (by decide), if_pos rfl, if_pos c], by rw [if_neg (by decide), if_neg (by decide), if_neg (by decide), if_neg (by decide), if_pos c]⟩
    · exact ⟨1, by rw [if_neg (by decide), if_neg (by decide), if_neg (by decide), if_neg (by decide), if_pos rfl, if_neg c], by rw [if_neg (by decide), if_neg (by decide), if_neg (by decide), if_neg (by decide), if_neg c]⟩
theorem q_item {g m : STt} {P N : Nat} (h : RelE g m P N) (x y : Int32) (z : Int64) : ∃ g' m' r, fX10_item g x y z = some (g', r) ∧ fX11_item m x y z = some (m', r) ∧ RelE g' m' P N := by
  obtain ⟨hPl, hDo, h0, h1, h2, h3, hTp, hOd, hBo, hCo, hIm, hHo⟩ := id h
  unfold fX10_item fX11_item
  rw [eX10_tapeOf, eX11_isTape, b_if, bnd1_e]
  by_cases c : inB x 6 = true
  · simp only [if_pos c]
    obtain ⟨t, ht, rfl⟩ := inB_of c (by omega)
    rw [nI_c (by omega)]
    show ∃ g' m' r, (if t < 6 then _ else none) = some (g', r) ∧ _
    rw [if_pos ht]
    obtain ⟨b1, b2, b3, b4⟩ := hTp t ht
    rw [← b1, eX6_holds, b_if2]
    by_cases c1 : g.1 29 t = -1
    · rw [if_pos c1, c1, if_neg (c := (0 : Int32) ≤ -1) (by decide)]
      exact ⟨_, _, _, rfl, rfl, h⟩
    · have c2 : 0 ≤ (g.1 29 t).toInt := by
        have : ¬ (g.1 29 t).toInt = -1 := fun hh => c1 (Int32.toInt_inj.mp (hh.trans (by decide)))
        have := b2.1
        omega
      obtain ⟨n, n1, n2, n3, n4⟩ := b4 c1
      rw [if_neg c1, if_pos (c := (0 : Int32) ≤ g.1 29 t) (by (simp only [Int32.lt_iff_toInt_lt, Int32.le_iff_toInt_le, ← Int32.toInt_inj, Int32.reduceToInt] at *; omega)), eX6_has n2 n1, b_if, n3, in01 n1, b_if]
      by_cases c3 : inB y n = true
      · obtain ⟨k, hk, rfl⟩ := inB_of c3 (by omega)
        obtain ⟨v, v1, v2⟩ := e_cut (m := m) c2 b2.2 z
        unfold fX6_put
        rw [if_pos c3, if_pos c3, eX6_has n2 n1, b_if, if_pos c3, v1, v2, bnd1_e, bnd1_e, ix60, if_pos (inB_nI (show k < 60 by omega) (by omega)), if_pos (inB_nI (show 60 * t + k < 360 by omega) (by omega)), nI_c (by omega), nI_c (by omega), bnd1_e]
        refine ⟨_, sL1 m 76 0 (60 * t + k) v, _, rfl, rfl, hPl, hDo, h0, h1, h2, h3, fun t' ht' => ?_, hOd, hBo, hCo, hIm, hHo⟩
        obtain ⟨b1', b2', b3', b4'⟩ := hTp t' ht'
        refine ⟨b1', b2', b3', fun hh => ?_⟩
        obtain ⟨n', n1', n2', n3', n4'⟩ := b4' hh
        refine ⟨n', n1', n2', n3', fun j hj => ?_⟩
        show (sL g 31 t (vp_updL (g.2.2.1 31 t) k v)).2.2.1 31 t' j = (sL m 76 0 (vp_updL (m.2.2.1 76 0) (60 * t + k) v)).2.2.1 76 0 (60 * t' + j)
        rw [sL_s]
        by_cases e : t' = t
        · subst e
          rw [sL_s]
          by_cases e2 : j = k
          · subst e2; rw [pk_uLs, pk_uLs]
          · rw [pk_uLn e2, pk_uLn (by omega)]; exact n4' j hj
        · rw [sL_n _ _ (by omega), pk_uLn (by omega)]; exact n4' j hj
      · rw [if_neg c3, if_neg c3]
        exact ⟨_, _, _, rfl, rfl, h⟩
  · simp only [if_neg c]
    exact ⟨_, _, _, rfl, rfl, h⟩
