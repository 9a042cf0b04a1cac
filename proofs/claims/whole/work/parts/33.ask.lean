/-! PURE: what asking may change; a trial begins; the row -/
def FC (g g' : STt) : Prop := (∀ c i, c ≠ 9 → c ≠ 10 → c ≠ 11 → g'.1 c i = g.1 c i) ∧ (∀ c i, c ≠ 7 → c ≠ 8 → c ≠ 12 → c ≠ 13 → ¬ (c = 22 ∧ 2 ≤ i) → g'.2.1 c i = g.2.1 c i) ∧ g'.2.2 = g.2.2
def FM (m m' : STt) : Prop := (∀ c i, c ≠ 43 → m'.1 c i = m.1 c i) ∧ (∀ c i, c ≠ 57 → c ≠ 69 → c ≠ 71 → m'.2.1 c i = m.2.1 c i) ∧ IsX (m'.2.1 57 0) (m.2.1 57 0) ∧ m'.2.2 = m.2.2
theorem FC.rfl' (g : STt) : FC g g := ⟨fun _ _ _ _ _ => rfl, fun _ _ _ _ _ _ _ => rfl, rfl⟩
theorem FM.rfl' (m : STt) : FM m m := ⟨fun _ _ _ => rfl, fun _ _ _ _ _ => rfl, fun _ _ => rfl, rfl⟩
theorem FC.tr {g g' g'' : STt} (h : FC g g') (h' : FC g' g'') : FC g g'' := ⟨fun c i a b d => (h'.1 c i a b d).trans (h.1 c i a b d), fun c i a b d e f => (h'.2.1 c i a b d e f).trans (h.2.1 c i a b d e f), h'.2.2.trans h.2.2⟩
theorem FM.tr {g g' g'' : STt} (h : FM g g') (h' : FM g' g'') : FM g g'' := ⟨fun c i a => (h'.1 c i a).trans (h.1 c i a), fun c i a b d => (h'.2.1 c i a b d).trans (h.2.1 c i a b d), fun k hk => (h'.2.2.1 k hk).trans (h.2.2.1 k hk), h'.2.2.2.trans h.2.2.2⟩
theorem FC_cs (g : STt) {d : Nat} (hd : 2 ≤ d) (F L Y : Nat → Int32) : FC g (cs g d F L Y) := ⟨fun _ _ _ _ _ => rfl, fun c i h1 h2 _ _ h5 => by
  show (sA (sA (sA g 7 0 F) 8 0 L) 22 d Y).2.1 c i = _
  rw [sA_n _ _ (by omega), sA_n _ _ (by omega), sA_n _ _ (by omega)], rfl⟩
theorem FC_cs0 (g : STt) (d : Nat) (F L : Nat → Int32) : FC g (cs g d F L (g.2.1 22 d)) := ⟨fun _ _ _ _ _ => rfl, fun c i h1 h2 _ _ h5 => by
  by_cases e : c = 22 ∧ i = d
  · obtain ⟨rfl, rfl⟩ := e
    rw [cs_22]
  · show (sA (sA (sA g 7 0 F) 8 0 L) 22 d _).2.1 c i = _
    rw [sA_n _ _ e, sA_n _ _ (by omega), sA_n _ _ (by omega)], rfl⟩
theorem FM_ms (m : STt) (p : Nat → Int32) {Y : Nat → Int32} (h : IsX Y (m.2.1 57 0)) : FM m (ms m p Y) := ⟨fun _ _ _ => rfl, fun c i h1 h2 _ => ms_n _ _ _ h1 h2, h, rfl⟩
theorem FC_11 (g : STt) (v : Int32) : FC g (sS g 11 0 v) := ⟨fun c i _ _ h => sS_n _ _ (by omega), fun _ _ _ _ _ _ _ => rfl, rfl⟩
theorem FC_9 (g : STt) (v : Int32) : FC g (sS g 9 0 v) := ⟨fun c i h _ _ => sS_n _ _ (by omega), fun _ _ _ _ _ _ _ => rfl, rfl⟩
theorem FC_10 (g : STt) (v : Int32) : FC g (sS g 10 0 v) := ⟨fun c i _ h _ => sS_n _ _ (by omega), fun _ _ _ _ _ _ _ => rfl, rfl⟩
theorem FM_43 (g : STt) (v : Int32) : FM g (sS g 43 0 v) := ⟨fun c i h => sS_n _ _ (by omega), fun _ _ _ _ _ => rfl, fun _ _ => rfl, rfl⟩
theorem rel_F {g m g' m' : STt} {P N : Nat} (h : RelE g m P N) (hC : FC g g') (hM : FM m m') : RelE g' m' P N := by
  obtain ⟨hPl, hDo, h0, h1, h2, h3, hTp, hOd, hBo, hCo, hIm, hHo⟩ := h
  obtain ⟨c1, c2, c3⟩ := hC
  obtain ⟨m1, m2, m3, m4⟩ := hM
  have w1 : g'.2.2.1 = g.2.2.1 := by rw [c3]
  have w2 : g'.2.2.2 = g.2.2.2 := by rw [c3]
  have w3 : m'.2.2.1 = m.2.2.1 := by rw [m4]
  have s0 : g'.1 0 = g.1 0 := funext fun i => c1 0 i (by omega) (by omega) (by omega)
  have s1 : g'.1 1 = g.1 1 := funext fun i => c1 1 i (by omega) (by omega) (by omega)
  have s2 : g'.1 2 = g.1 2 := funext fun i => c1 2 i (by omega) (by omega) (by omega)
  have s14 : g'.1 14 = g.1 14 := funext fun i => c1 14 i (by omega) (by omega) (by omega)
  have s18 : g'.1 18 = g.1 18 := funext fun i => c1 18 i (by omega) (by omega) (by omega)
  have s19 : g'.1 19 = g.1 19 := funext fun i => c1 19 i (by omega) (by omega) (by omega)
  have s20 : g'.1 20 = g.1 20 := funext fun i => c1 20 i (by omega) (by omega) (by omega)
  have s23 : g'.1 23 = g.1 23 := funext fun i => c1 23 i (by omega) (by omega) (by omega)
  have s24 : g'.1 24 = g.1 24 := funext fun i => c1 24 i (by omega) (by omega) (by omega)
  have s29 : g'.1 29 = g.1 29 := funext fun i => c1 29 i (by omega) (by omega) (by omega)
  have s30 : g'.1 30 = g.1 30 := funext fun i => c1 30 i (by omega) (by omega) (by omega)
  have a3 : g'.2.1 3 = g.2.1 3 := funext fun i => c2 3 i (by omega) (by omega) (by omega) (by omega) (by omega)
  have a4 : g'.2.1 4 = g.2.1 4 := funext fun i => c2 4 i (by omega) (by omega) (by omega) (by omega) (by omega)
  have a5 : g'.2.1 5 = g.2.1 5 := funext fun i => c2 5 i (by omega) (by omega) (by omega) (by omega) (by omega)
  have a21 : g'.2.1 21 = g.2.1 21 := funext fun i => c2 21 i (by omega) (by omega) (by omega) (by omega) (by omega)
  have a25 : g'.2.1 25 = g.2.1 25 := funext fun i => c2 25 i (by omega) (by omega) (by omega) (by omega) (by omega)
  have a26 : g'.2.1 26 = g.2.1 26 := funext fun i => c2 26 i (by omega) (by omega) (by omega) (by omega) (by omega)
  have a27 : g'.2.1 27 = g.2.1 27 := funext fun i => c2 27 i (by omega) (by omega) (by omega) (by omega) (by omega)
  have a28 : g'.2.1 28 = g.2.1 28 := funext fun i => c2 28 i (by omega) (by omega) (by omega) (by omega) (by omega)
  have a220 : g'.2.1 22 0 = g.2.1 22 0 := c2 22 0 (by omega) (by omega) (by omega) (by omega) (by omega)
  have a221 : g'.2.1 22 1 = g.2.1 22 1 := c2 22 1 (by omega) (by omega) (by omega) (by omega) (by omega)
  have s33 : m'.1 33 = m.1 33 := funext fun i => m1 33 i (by omega)
  have s34 : m'.1 34 = m.1 34 := funext fun i => m1 34 i (by omega)
  have s35 : m'.1 35 = m.1 35 := funext fun i => m1 35 i (by omega)
  have s36 : m'.1 36 = m.1 36 := funext fun i => m1 36 i (by omega)
  have s40 : m'.1 40 = m.1 40 := funext fun i => m1 40 i (by omega)
  have s41 : m'.1 41 = m.1 41 := funext fun i => m1 41 i (by omega)
  have s42 : m'.1 42 = m.1 42 := funext fun i => m1 42 i (by omega)
  have s44 : m'.1 44 = m.1 44 := funext fun i => m1 44 i (by omega)
  have s45 : m'.1 45 = m.1 45 := funext fun i => m1 45 i (by omega)
  have s46 : m'.1 46 = m.1 46 := funext fun i => m1 46 i (by omega)
  have s47 : m'.1 47 = m.1 47 := funext fun i => m1 47 i (by omega)
  have s48 : m'.1 48 = m.1 48 := funext fun i => m1 48 i (by omega)
  have s49 : m'.1 49 = m.1 49 := funext fun i => m1 49 i (by omega)
  have s50 : m'.1 50 = m.1 50 := funext fun i => m1 50 i (by omega)
  have s51 : m'.1 51 = m.1 51 := funext fun i => m1 51 i (by omega)
  have s52 : m'.1 52 = m.1 52 := funext fun i => m1 52 i (by omega)
  have s53 : m'.1 53 = m.1 53 := funext fun i => m1 53 i (by omega)
  have a54 : m'.2.1 54 = m.2.1 54 := funext fun i => m2 54 i (by omega) (by omega) (by omega)
  have a55 : m'.2.1 55 = m.2.1 55 := funext fun i => m2 55 i (by omega) (by omega) (by omega)
  have a56 : m'.2.1 56 = m.2.1 56 := funext fun i => m2 56 i (by omega) (by omega) (by omega)
  have a58 : m'.2.1 58 = m.2.1 58 := funext fun i => m2 58 i (by omega) (by omega) (by omega)
  have a59 : m'.2.1 59 = m.2.1 59 := funext fun i => m2 59 i (by omega) (by omega) (by omega)
  have a60 : m'.2.1 60 = m.2.1 60 := funext fun i => m2 60 i (by omega) (by omega) (by omega)
  have a61 : m'.2.1 61 = m.2.1 61 := funext fun i => m2 61 i (by omega) (by omega) (by omega)
  have a62 : m'.2.1 62 = m.2.1 62 := funext fun i => m2 62 i (by omega) (by omega) (by omega)
  have a63 : m'.2.1 63 = m.2.1 63 := funext fun i => m2 63 i (by omega) (by omega) (by omega)
  have a64 : m'.2.1 64 = m.2.1 64 := funext fun i => m2 64 i (by omega) (by omega) (by omega)
  have a65 : m'.2.1 65 = m.2.1 65 := funext fun i => m2 65 i (by omega) (by omega) (by omega)
  have a66 : m'.2.1 66 = m.2.1 66 := funext fun i => m2 66 i (by omega) (by omega) (by omega)
  have a67 : m'.2.1 67 = m.2.1 67 := funext fun i => m2 67 i (by omega) (by omega) (by omega)
  have a68 : m'.2.1 68 = m.2.1 68 := funext fun i => m2 68 i (by omega) (by omega) (by omega)
  have a70 : m'.2.1 70 = m.2.1 70 := funext fun i => m2 70 i (by omega) (by omega) (by omega)
  have a72 : m'.2.1 72 = m.2.1 72 := funext fun i => m2 72 i (by omega) (by omega) (by omega)
  have a73 : m'.2.1 73 = m.2.1 73 := funext fun i => m2 73 i (by omega) (by omega) (by omega)
  have a74 : m'.2.1 74 = m.2.1 74 := funext fun i => m2 74 i (by omega) (by omega) (by omega)
  have a75 : m'.2.1 75 = m.2.1 75 := funext fun i => m2 75 i (by omega) (by omega) (by omega)
  have a78 : m'.2.1 78 = m.2.1 78 := funext fun i => m2 78 i (by omega) (by omega) (by omega)
  have a79 : m'.2.1 79 = m.2.1 79 := funext fun i => m2 79 i (by omega) (by omega) (by omega)
  have a80 : m'.2.1 80 = m.2.1 80 := funext fun i => m2 80 i (by omega) (by omega) (by omega)
  have a81 : m'.2.1 81 = m.2.1 81 := funext fun i => m2 81 i (by omega) (by omega) (by omega)
  have a82 : m'.2.1 82 = m.2.1 82 := funext fun i => m2 82 i (by omega) (by omega) (by omega)
  have hPl' : RPl g' m' P := by
    unfold RPl at hPl ⊢
    simp only [s2, s33, a3, a4, a5, a54, a55, a56]
    exact hPl
  have hDo' : RDo g' m' P := ⟨fun k hk => by rw [a220, m3 k hk]; exact hDo.1 k hk, by rw [a220]; exact hDo.2⟩
  have h0' := h0
  unfold RSt at h0'
  rw [← s20, ← a21, ← s34, ← a58] at h0'
  have h1' := h1
  unfold RSt at h1'
  rw [← s20, ← a21, ← s42, ← a70] at h1'
  have h2' := h2
  unfold RSt at h2'
  rw [← s20, ← a21, ← s46, ← a73] at h2'
  have h3' := h3
  unfold RSt at h3'
  rw [← s20, ← a21, ← s45, ← a72] at h3'
  have hTp' : RTp g' m' := by
    unfold RTp at hTp ⊢
    simp only [s29, s30, a74, a75, w1, w3]
    exact hTp
  have hOd' : ROd g' m' := by
    unfold ROd at hOd ⊢
    simp only [s18, s44]
    exact hOd
  have hBo' : RBo g' m' := by
    unfold RBo at hBo ⊢
    simp only [s14, s53, s20, a21, a82]
    exact hBo
  have hCo' : RCo m' := by
    unfold RCo at hCo ⊢
    simp only [s40, s41, a68]
    exact hCo
  have hIm' : RIm g' m' P N := by
    unfold RIm RSt at hIm ⊢
    simp only [s1, s47, a221, a78, s20, a21, s50, s51, s52, a79, a80, a81, s18, s49, s19, s48]
    exact hIm
  have hHo' : RHo g' m' N := by
    unfold RHo RLw LwC LwMr at hHo ⊢
    simp only [s0, s35, s19, s36, w2, s23, s24, a25, a26, a27, a28, a59, a60, a61, a62, a63, a64, a65, a66, a67]
    exact hHo
  exact ⟨hPl', hDo', h0', h1', h2', h3', hTp', hOd', hBo', hCo', hIm', hHo'⟩
theorem sA_id (g : STt) (c i : Nat) : sA g c i (g.2.1 c i) = g := by
  refine st_ext rfl (fun c' i' => ?_) rfl
  by_cases h : c' = c ∧ i' = i
  · obtain ⟨rfl, rfl⟩ := h
    rw [sA_s]
  · rw [sA_n _ _ h]
theorem lw_m1 (m : STt) : LwMj m (-1) tog0 last0 := by
  intro m' e1 _ _ _ _ _ _ _ _ _
  refine ⟨fun w _ F _ => ⟨m'.2.1 69 0, ?_⟩, fun w h3 h7 => ?_⟩
  · unfold fX11_sumOf
    rw [e1, if_neg (by decide), sA_id]
    rfl
  · unfold fX11_lastOf fX11_lastOf_j29
    simp only [e1, if_neg (show ¬ (0 : Int32) ≤ -1 by decide)]
    have e : w = 3 ∨ w = 4 ∨ w = 5 ∨ w = 6 := by omega
    rcases e with rfl | rfl | rfl | rfl <;> rfl
theorem lwok0 : LwOK tog0 last0 := ⟨fun _ _ _ _ => rfl, fun _ _ => ⟨by show (0 : Int) ≤ (0 : Int32).toInt; decide, by show (0 : Int32).toInt ≤ 990; decide⟩, fun w => by
  unfold last0
  by_cases h3 : w = 3
  · rw [if_pos h3]; exact ⟨by decide, by decide⟩
  · rw [if_neg h3]
    by_cases h4 : w = 4
    · rw [if_pos h4]; exact ⟨by decide, by decide⟩
    · rw [if_neg h4]
      by_cases h5 : w = 5
      · rw [if_pos h5]; exact ⟨by decide, by decide⟩
      · rw [if_neg h5]; exact ⟨by decide, by decide⟩⟩
theorem env_of {g m : STt} {P N : Nat} (h : RelE g m P N) : ∃ E : EVt, E.1 = P ∧ EOK E ∧ EnC g E ∧ EnM m E := by
  obtain ⟨⟨p1, p2, p3, p4⟩, hDo, h0, h1, h2, h3, hTp, hOd, hBo, hCo, hIm, hHo⟩ := h
  obtain ⟨n1, n2, n3, n4, n5, l1, l2⟩ := hHo
  have key : ∃ tog last, LwOK tog last ∧ g.2.2.2 < 7 ∧ LwC g g.2.2.2 tog last ∧ LwM m tog last := by
    rcases n5 with ⟨a1, a2⟩ | ⟨j, j1, j2, j3⟩
    · refine ⟨tog0, last0, lwok0, by omega, by rw [a2]; exact l1, ?_⟩
      unfold LwM
      rw [← n4, a1]
      exact lw_m1 m
    · obtain ⟨tog, last, b1, b2, b3⟩ := l2 j j1
      refine ⟨tog, last, b1, by omega, by rw [j3]; exact b2, ?_⟩
      unfold LwM
      rw [← n4, j2]
      exact b3.mj
  obtain ⟨tog, last, b1, b2, b3, b4⟩ := key
  refine ⟨(P, g.2.1 3 0, g.2.1 4 0, g.2.1 5 0, tog, last), rfl, ⟨p1, fun k hk => ?_, b1⟩, ⟨p2, fun k hk => ⟨rfl, rfl, rfl⟩, b2, b3⟩, ⟨p3, fun k hk => ?_, b4⟩⟩
  · obtain ⟨q1, q2, q3⟩ := p4 k hk
    exact ⟨q1.2, q2.2, q3.2⟩
  · obtain ⟨q1, q2, q3⟩ := p4 k hk
    exact ⟨q1.1.symm, q2.1.symm, q3.1.symm⟩
/-! bounds with a number of half minutes to come -/
def DKn (P n : Nat) (X : Nat → Int32) : Prop := DOK P (1000000 - 99 * (n : Int)) X
theorem dkn_of {P : Nat} {X : Nat → Int32} (h : DOK P 9999 X) {n : Nat} (hn : n ≤ 9000) : DKn P n X := h.mono (Nat.le_refl _) (by omega)
theorem dkn_le {P n n' : Nat} {X : Nat → Int32} (h : DKn P n X) (hn : n' ≤ n) : DKn P n' X := DOK.mono h (Nat.le_refl _) (by omega)
theorem dkn_12 {P n : Nat} {X : Nat → Int32} (h : DKn P n X) : inR (X 12) 0 P := h 12 (by omega)
theorem dkn_st {E : EVt} {n : Nat} {X : Nat → Int32} (hO : EOK E) (h : DKn E.1 (n + 1) X) (act w : Int32) : DKn E.1 n (stX E X act w).1 :=
  (dok_st hO h (by omega) act w).mono (Nat.le_refl _) (by omega)
theorem dok_is {P : Nat} {hb : Int} {A B : Nat → Int32} (h : DOK P hb B) (e : IsX A B) : DOK P hb A := fun k hk => by rw [e k hk]; exact h k hk
theorem is_rf (A : Nat → Int32) : IsX A A := fun _ _ => rfl
theorem is_sy {A B : Nat → Int32} (h : IsX A B) : IsX B A := fun k hk => (h k hk).symm
theorem is_tr {A B C : Nat → Int32} (h : IsX A B) (h' : IsX B C) : IsX A C := fun k hk => (h k hk).trans (h' k hk)
/-! the class's trial begins -/
theorem e_stage (g : STt) {i : Nat} (hi : i < 7) : fX8_stage g (nI i) = some (2 + i) := by
  unfold fX8_stage fX8_stage_j26
  rw [if_neg (nI_pos (by omega)), if_neg (show ¬ (7 : Int32) ≤ nI i from nI_ge (b := 7) hi (by omega)), if_pos (inB_nI hi (by omega)), nI_c (by omega)]
theorem cs_sS (g : STt) (d : Nat) (F L Y : Nat → Int32) (c i : Nat) (v : Int32) : sS (cs g d F L Y) c i v = cs (sS g c i v) d F L Y := rfl
theorem cs_A (g : STt) (d : Nat) (Y : Nat → Int32) : sA g 22 d Y = cs g d (g.2.1 7 0) (g.2.1 8 0) Y := by
  refine st_ext rfl (fun c i => ?_) rfl
  show (if c = 22 ∧ i = d then Y else g.2.1 c i) = (if c = 22 ∧ i = d then Y else if c = 8 ∧ i = 0 then g.2.1 8 0 else if c = 7 ∧ i = 0 then g.2.1 7 0 else g.2.1 c i)
  by_cases h1 : c = 22 ∧ i = d
  · rw [if_pos h1, if_pos h1]
  · rw [if_neg h1, if_neg h1]
    by_cases h2 : c = 8 ∧ i = 0
    · rw [if_pos h2, h2.1, h2.2]
    · rw [if_neg h2]
      by_cases h3 : c = 7 ∧ i = 0
      · rw [if_pos h3, h3.1, h3.2]
      · rw [if_neg h3]
def cpY (A B : Nat → Int32) : Nat → Int32 := va_cpy A B 0 0 15
theorem cpY_is (A B : Nat → Int32) : IsX (cpY A B) A := fun k hk => by
  unfold cpY
  rw [pk_cpy_in (by omega) (by omega)]
  exact congrArg A (by omega)
theorem e_become (g : STt) (d e : Nat) : fX1_become g d e = some (sA g 22 d (cpY (g.2.1 22 e) (g.2.1 22 d))) := by
  unfold fX1_become
  rw [if_pos (by decide)]
  rfl
theorem e_begin (g : STt) : fX8_begin g = some (cs (sS g 11 0 (g.2.1 22 0 12 + 1)) 2 (g.2.1 7 0) (g.2.1 8 0) (cpY (g.2.1 22 0) (g.2.1 22 2)), 2) := by
  unfold fX8_begin
  rw [show (0 : Int32) = nI 0 from rfl, e_stage g (by omega), bnd1_e, if_pos (by decide), e_become, bnd1_e, cs_A, c_get12, bnd1_e, cpY_is _ _ 12 (by omega), cs_sS]
theorem EnC_F {g g' : STt} {E : EVt} (h : EnC g E) (hF : FC g g') : EnC g' E := by
  obtain ⟨h1, h2, h3, h4⟩ := h
  obtain ⟨f1, f2, f3⟩ := hF
  have w2 : g'.2.2.2 = g.2.2.2 := by rw [f3]
  refine ⟨by rw [f1 2 0 (by omega) (by omega) (by omega)]; exact h1, fun k hk => ?_, by rw [w2]; exact h3, ?_⟩
  · rw [f2 3 0 (by omega) (by omega) (by omega) (by omega) (by omega), f2 4 0 (by omega) (by omega) (by omega) (by omega) (by omega), f2 5 0 (by omega) (by omega) (by omega) (by omega) (by omega)]
    exact h2 k hk
  · rw [w2]
    intro g'' e1 e2 e3 e4 e5 e6
    exact h4 g'' (e1.trans (f1 _ _ (by omega) (by omega) (by omega))) (e2.trans (f1 _ _ (by omega) (by omega) (by omega))) (e3.trans (f2 _ _ (by omega) (by omega) (by omega) (by omega) (by omega))) (e4.trans (f2 _ _ (by omega) (by omega) (by omega) (by omega) (by omega))) (e5.trans (f2 _ _ (by omega) (by omega) (by omega) (by omega) (by omega))) (e6.trans (f2 _ _ (by omega) (by omega) (by omega) (by omega) (by omega)))
theorem EnM_F {m m' : STt} {E : EVt} (h : EnM m E) (hF : FM m m') : EnM m' E := by
  obtain ⟨h1, h2, h4⟩ := h
  obtain ⟨f1, f2, f3, f4⟩ := hF
  refine ⟨by rw [f1 33 0 (by omega)]; exact h1, fun k hk => ?_, ?_⟩
  · rw [f2 54 0 (by omega) (by omega) (by omega), f2 55 0 (by omega) (by omega) (by omega), f2 56 0 (by omega) (by omega) (by omega)]
    exact h2 k hk
  · unfold LwM at h4 ⊢
    rw [f1 36 0 (by omega)]
    unfold LwMj at h4 ⊢
    rw [f2 59 0 (by omega) (by omega) (by omega), f2 60 0 (by omega) (by omega) (by omega), f2 61 0 (by omega) (by omega) (by omega), f2 62 0 (by omega) (by omega) (by omega), f2 63 0 (by omega) (by omega) (by omega), f2 64 0 (by omega) (by omega) (by omega), f2 65 0 (by omega) (by omega) (by omega), f2 66 0 (by omega) (by omega) (by omega), f2 67 0 (by omega) (by omega) (by omega)]
    exact h4
/-! the model keeps and lays back -/
def cpN (A B : Nat → Int32) (n : Nat) : Nat → Int32 := fun j => if j < n then A j else B j
theorem cpN_up (A B : Nat → Int32) (n : Nat) : upd (cpN A B n) n (A n) = cpN A B (n + 1) := by
  funext j
  unfold cpN
  by_cases e : j = n
  · subst e; rw [upd_s, if_pos (by omega)]
  · rw [upd_n _ _ e]
    by_cases h : j < n
    · rw [if_pos h, if_pos (by omega)]
    · rw [if_neg h, if_neg (by omega)]
theorem e_keepL (m : STt) (B : Nat → Int32) : ∀ (n k : Nat), k ≤ 15 → 15 - k < n → iterO (fun K z => fX11_keepNow_l2c K z.1 z.2) n (sA m 71 0 (cpN (m.2.1 57 0) B k), nI k) = some (sA m 71 0 (cpN (m.2.1 57 0) B 15)) := by
  intro n
  induction n with
  | zero => intro k h1 h2; omega
  | succ n ih =>
    intro k h1 h2
    rw [iterO_succ]
    generalize iterO (fun K z => fX11_keepNow_l2c K z.1 z.2) n = K at ih ⊢
    show fX11_keepNow_l2c K (sA m 71 0 (cpN (m.2.1 57 0) B k)) (nI k) = _
    unfold fX11_keepNow_l2c
    by_cases c : k = 15
    · subst c; rw [if_pos (by decide)]
    · rw [if_neg (show ¬ (15 : Int32) ≤ nI k from nI_ge (b := 15) (by omega) (by omega)), if_pos (inB_nI (by omega) (by omega)), if_pos (inB_nI (by omega) (by omega)), nI_c (by omega), nI_1, sA1_sA, ← ih (k + 1) (by omega) (by omega)]
      show K (sA m 71 0 (upd (cpN (m.2.1 57 0) B k) k (m.2.1 57 0 k)), nI (k + 1)) = _
      rw [cpN_up]
theorem e_keep (m : STt) : ∃ W, fX11_keepNow m = some (sA m 71 0 W) ∧ IsX W (m.2.1 57 0) := by
  have h := e_keepL m (m.2.1 71 0) fuelN 0 (by omega) (by show 15 - 0 < 5000; omega)
  rw [show cpN (m.2.1 57 0) (m.2.1 71 0) 0 = m.2.1 71 0 from funext fun j => if_neg (by omega), sA_id] at h
  exact ⟨_, h, fun k hk => if_pos hk⟩
theorem e_layL (m : STt) (p W : Nat → Int32) (hW : m.2.1 71 0 = W) (B : Nat → Int32) : ∀ (n k : Nat), k ≤ 15 → 15 - k < n → iterO (fun K z => fX11_layBack_l2c K z.1 z.2) n (ms m p (cpN W B k), nI k) = some (ms m p (cpN W B 15)) := by
  intro n
  induction n with
  | zero => intro k h1 h2; omega
  | succ n ih =>
    intro k h1 h2
    rw [iterO_succ]
    generalize iterO (fun K z => fX11_layBack_l2c K z.1 z.2) n = K at ih ⊢
    show fX11_layBack_l2c K (ms m p (cpN W B k)) (nI k) = _
    unfold fX11_layBack_l2c
    by_cases c : k = 15
    · subst c; rw [if_pos (by decide)]
    · rw [if_neg (show ¬ (15 : Int32) ≤ nI k from nI_ge (b := 15) (by omega) (by omega)), if_pos (inB_nI (by omega) (by omega)), if_pos (inB_nI (by omega) (by omega)), nI_c (by omega), nI_1, ms_u57, ms_n _ _ _ (by omega) (by omega), hW, cpN_up]
      exact ih (k + 1) (by omega) (by omega)
theorem e_lay (m : STt) (p Y : Nat → Int32) : ∃ Y', fX11_layBack (ms m p Y) = some (ms m p Y') ∧ IsX Y' (m.2.1 71 0) := by
  have h := e_layL m p (m.2.1 71 0) rfl Y fuelN 0 (by omega) (by show 15 - 0 < 5000; omega)
  rw [show cpN (m.2.1 71 0) Y 0 = Y from funext fun j => if_neg (by omega)] at h
  exact ⟨_, h, fun k hk => if_pos hk⟩
theorem FM_71 (g : STt) (W : Nat → Int32) : FM g (sA g 71 0 W) := ⟨fun _ _ _ => rfl, fun c i _ _ h => sA_n _ _ (by omega), fun _ _ => rfl, rfl⟩
/-- kept, gone on with in thought, laid back -/
theorem FM_kept (m : STt) (W p : Nat → Int32) {Y : Nat → Int32} (hW : IsX W (m.2.1 57 0)) (hY : IsX Y W) : FM m (ms (sA m 71 0 W) p Y) :=
  (FM_71 m W).tr (FM_ms _ p (is_tr hY hW))
