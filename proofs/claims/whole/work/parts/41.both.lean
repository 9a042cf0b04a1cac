/-! PURE: image, undo, both sides -/
theorem rel_im {g m g' m' : STt} {P N : Nat} (h : RelE g m P N) (cS : ∀ c i, c ≠ 1 → ¬ (c = 20 ∧ 4 ≤ i ∧ i ≤ 6) → ¬ ((c = 18 ∨ c = 19) ∧ i = 1) → g'.1 c i = g.1 c i) (cA : ∀ c i, ¬ (c = 21 ∧ 4 ≤ i ∧ i ≤ 6) → ¬ (c = 22 ∧ i = 1) → g'.2.1 c i = g.2.1 c i) (cW : g'.2.2 = g.2.2) (mS : ∀ c i, ¬ (47 ≤ c ∧ c ≤ 52) → m'.1 c i = m.1 c i) (mA : ∀ c i, ¬ (78 ≤ c ∧ c ≤ 81) → m'.2.1 c i = m.2.1 c i) (mW : m'.2.2 = m.2.2) (hIm' : RIm g' m' P N) : RelE g' m' P N := by
  obtain ⟨hPl, hDo, h0, h1, h2, h3, hTp, hOd, hBo, hCo, hIm, hHo⟩ := h
  have w1 : g'.2.2.1 = g.2.2.1 := by rw [cW]
  have w2 : g'.2.2.2 = g.2.2.2 := by rw [cW]
  have w3 : m'.2.2.1 = m.2.2.1 := by rw [mW]
  have s0 : g'.1 0 = g.1 0 := funext fun i => cS 0 i (by omega) (by omega) (by omega)
  have s2 : g'.1 2 = g.1 2 := funext fun i => cS 2 i (by omega) (by omega) (by omega)
  have s14 : g'.1 14 = g.1 14 := funext fun i => cS 14 i (by omega) (by omega) (by omega)
  have s23 : g'.1 23 = g.1 23 := funext fun i => cS 23 i (by omega) (by omega) (by omega)
  have s24 : g'.1 24 = g.1 24 := funext fun i => cS 24 i (by omega) (by omega) (by omega)
  have s29 : g'.1 29 = g.1 29 := funext fun i => cS 29 i (by omega) (by omega) (by omega)
  have s30 : g'.1 30 = g.1 30 := funext fun i => cS 30 i (by omega) (by omega) (by omega)
  have s18_0 : g'.1 18 0 = g.1 18 0 := cS 18 0 (by omega) (by omega) (by omega)
  have s19_0 : g'.1 19 0 = g.1 19 0 := cS 19 0 (by omega) (by omega) (by omega)
  have s20_0 : g'.1 20 0 = g.1 20 0 := cS 20 0 (by omega) (by omega) (by omega)
  have s20_1 : g'.1 20 1 = g.1 20 1 := cS 20 1 (by omega) (by omega) (by omega)
  have s20_2 : g'.1 20 2 = g.1 20 2 := cS 20 2 (by omega) (by omega) (by omega)
  have s20_3 : g'.1 20 3 = g.1 20 3 := cS 20 3 (by omega) (by omega) (by omega)
  have s20_7 : g'.1 20 7 = g.1 20 7 := cS 20 7 (by omega) (by omega) (by omega)
  have a3 : g'.2.1 3 = g.2.1 3 := funext fun i => cA 3 i (by omega) (by omega)
  have a4 : g'.2.1 4 = g.2.1 4 := funext fun i => cA 4 i (by omega) (by omega)
  have a5 : g'.2.1 5 = g.2.1 5 := funext fun i => cA 5 i (by omega) (by omega)
  have a25 : g'.2.1 25 = g.2.1 25 := funext fun i => cA 25 i (by omega) (by omega)
  have a26 : g'.2.1 26 = g.2.1 26 := funext fun i => cA 26 i (by omega) (by omega)
  have a27 : g'.2.1 27 = g.2.1 27 := funext fun i => cA 27 i (by omega) (by omega)
  have a28 : g'.2.1 28 = g.2.1 28 := funext fun i => cA 28 i (by omega) (by omega)
  have a22_0 : g'.2.1 22 0 = g.2.1 22 0 := cA 22 0 (by omega) (by omega)
  have a21_0 : g'.2.1 21 0 = g.2.1 21 0 := cA 21 0 (by omega) (by omega)
  have a21_1 : g'.2.1 21 1 = g.2.1 21 1 := cA 21 1 (by omega) (by omega)
  have a21_2 : g'.2.1 21 2 = g.2.1 21 2 := cA 21 2 (by omega) (by omega)
  have a21_3 : g'.2.1 21 3 = g.2.1 21 3 := cA 21 3 (by omega) (by omega)
  have a21_7 : g'.2.1 21 7 = g.2.1 21 7 := cA 21 7 (by omega) (by omega)
  have s33 : m'.1 33 = m.1 33 := funext fun i => mS 33 i (by omega)
  have s34 : m'.1 34 = m.1 34 := funext fun i => mS 34 i (by omega)
  have s35 : m'.1 35 = m.1 35 := funext fun i => mS 35 i (by omega)
  have s36 : m'.1 36 = m.1 36 := funext fun i => mS 36 i (by omega)
  have s40 : m'.1 40 = m.1 40 := funext fun i => mS 40 i (by omega)
  have s41 : m'.1 41 = m.1 41 := funext fun i => mS 41 i (by omega)
  have s42 : m'.1 42 = m.1 42 := funext fun i => mS 42 i (by omega)
  have s44 : m'.1 44 = m.1 44 := funext fun i => mS 44 i (by omega)
  have s45 : m'.1 45 = m.1 45 := funext fun i => mS 45 i (by omega)
  have s46 : m'.1 46 = m.1 46 := funext fun i => mS 46 i (by omega)
  have s53 : m'.1 53 = m.1 53 := funext fun i => mS 53 i (by omega)
  have a54 : m'.2.1 54 = m.2.1 54 := funext fun i => mA 54 i (by omega)
  have a55 : m'.2.1 55 = m.2.1 55 := funext fun i => mA 55 i (by omega)
  have a56 : m'.2.1 56 = m.2.1 56 := funext fun i => mA 56 i (by omega)
  have a57 : m'.2.1 57 = m.2.1 57 := funext fun i => mA 57 i (by omega)
  have a58 : m'.2.1 58 = m.2.1 58 := funext fun i => mA 58 i (by omega)
  have a59 : m'.2.1 59 = m.2.1 59 := funext fun i => mA 59 i (by omega)
  have a60 : m'.2.1 60 = m.2.1 60 := funext fun i => mA 60 i (by omega)
  have a61 : m'.2.1 61 = m.2.1 61 := funext fun i => mA 61 i (by omega)
  have a62 : m'.2.1 62 = m.2.1 62 := funext fun i => mA 62 i (by omega)
  have a63 : m'.2.1 63 = m.2.1 63 := funext fun i => mA 63 i (by omega)
  have a64 : m'.2.1 64 = m.2.1 64 := funext fun i => mA 64 i (by omega)
  have a65 : m'.2.1 65 = m.2.1 65 := funext fun i => mA 65 i (by omega)
  have a66 : m'.2.1 66 = m.2.1 66 := funext fun i => mA 66 i (by omega)
  have a67 : m'.2.1 67 = m.2.1 67 := funext fun i => mA 67 i (by omega)
  have a68 : m'.2.1 68 = m.2.1 68 := funext fun i => mA 68 i (by omega)
  have a70 : m'.2.1 70 = m.2.1 70 := funext fun i => mA 70 i (by omega)
  have a72 : m'.2.1 72 = m.2.1 72 := funext fun i => mA 72 i (by omega)
  have a73 : m'.2.1 73 = m.2.1 73 := funext fun i => mA 73 i (by omega)
  have a74 : m'.2.1 74 = m.2.1 74 := funext fun i => mA 74 i (by omega)
  have a75 : m'.2.1 75 = m.2.1 75 := funext fun i => mA 75 i (by omega)
  have a82 : m'.2.1 82 = m.2.1 82 := funext fun i => mA 82 i (by omega)
  have hPl' : RPl g' m' P := by
    unfold RPl at hPl ⊢
    simp only [s2, s33, a3, a4, a5, a54, a55, a56]
    exact hPl
  have hDo' : RDo g' m' P := by
    unfold RDo at hDo ⊢
    simp only [a22_0, a57]
    exact hDo
  have h0' : RSt g' m' 0 34 58 100 0 127 := by
    unfold RSt at h0 ⊢
    simp only [s20_0, a21_0, s34, a58]
    exact h0
  have h1' : RSt g' m' 1 42 70 12 0 7 := by
    unfold RSt at h1 ⊢
    simp only [s20_1, a21_1, s42, a70]
    exact h1
  have h2' : RSt g' m' 2 46 73 12 0 3 := by
    unfold RSt at h2 ⊢
    simp only [s20_2, a21_2, s46, a73]
    exact h2
  have h3' : RSt g' m' 3 45 72 4 0 99 := by
    unfold RSt at h3 ⊢
    simp only [s20_3, a21_3, s45, a72]
    exact h3
  have hTp' : RTp g' m' := by
    unfold RTp at hTp ⊢
    simp only [s29, s30, a74, a75, w1, w3]
    exact hTp
  have hOd' : ROd g' m' := by
    unfold ROd at hOd ⊢
    simp only [s18_0, s44]
    exact hOd
  have hBo' : RBo g' m' := by
    unfold RBo at hBo ⊢
    simp only [s14, s53, s20_7, a21_7, a82]
    exact hBo
  have hCo' : RCo m' := by
    unfold RCo at hCo ⊢
    simp only [s40, s41, a68]
    exact hCo
  have hHo' : RHo g' m' N := by
    unfold RHo RLw LwC LwMr at hHo ⊢
    simp only [s0, s35, s19_0, s36, w2, s23, s24, a25, a26, a27, a28, a59, a60, a61, a62, a63, a64, a65, a66, a67]
    exact hHo
  exact ⟨hPl', hDo', h0', h1', h2', h3', hTp', hOd', hBo', hCo', hIm', hHo'⟩
theorem rel_un {g m g' m' : STt} {P N : Nat} (h : RelE g m P N) (cS : ∀ c i, ¬ (c = 20 ∧ 1 ≤ i ∧ i ≤ 3) → ¬ ((c = 18 ∨ c = 19) ∧ i = 0) → g'.1 c i = g.1 c i) (cA : ∀ c i, ¬ (c = 21 ∧ 1 ≤ i ∧ i ≤ 3) → ¬ (c = 22 ∧ i = 0) → g'.2.1 c i = g.2.1 c i) (cW : g'.2.2.1 = g.2.2.1) (mS : ∀ c i, c ≠ 36 → c ≠ 42 → c ≠ 44 → c ≠ 45 → c ≠ 46 → m'.1 c i = m.1 c i) (mA : ∀ c i, c ≠ 57 → c ≠ 70 → c ≠ 72 → c ≠ 73 → m'.2.1 c i = m.2.1 c i) (mW : m'.2.2 = m.2.2) (hDo' : RDo g' m' P) (h1' : RSt g' m' 1 42 70 12 0 7) (h2' : RSt g' m' 2 46 73 12 0 3) (h3' : RSt g' m' 3 45 72 4 0 99) (hOd' : ROd g' m') (hx : g'.1 19 0 = m'.1 36 0) (hy : (g'.1 19 0 = -1 ∧ g'.2.2.2 = 6) ∨ ∃ j, j < N ∧ g'.1 19 0 = nI j ∧ g'.2.2.2 = j) : RelE g' m' P N := by
  obtain ⟨hPl, hDo, h0, h1, h2, h3, hTp, hOd, hBo, hCo, hIm, hHo⟩ := h
  have w3 : m'.2.2.1 = m.2.2.1 := by rw [mW]
  have s0 : g'.1 0 = g.1 0 := funext fun i => cS 0 i (by omega) (by omega)
  have s1 : g'.1 1 = g.1 1 := funext fun i => cS 1 i (by omega) (by omega)
  have s2 : g'.1 2 = g.1 2 := funext fun i => cS 2 i (by omega) (by omega)
  have s14 : g'.1 14 = g.1 14 := funext fun i => cS 14 i (by omega) (by omega)
  have s23 : g'.1 23 = g.1 23 := funext fun i => cS 23 i (by omega) (by omega)
  have s24 : g'.1 24 = g.1 24 := funext fun i => cS 24 i (by omega) (by omega)
  have s29 : g'.1 29 = g.1 29 := funext fun i => cS 29 i (by omega) (by omega)
  have s30 : g'.1 30 = g.1 30 := funext fun i => cS 30 i (by omega) (by omega)
  have s18_1 : g'.1 18 1 = g.1 18 1 := cS 18 1 (by omega) (by omega)
  have s19_1 : g'.1 19 1 = g.1 19 1 := cS 19 1 (by omega) (by omega)
  have s20_0 : g'.1 20 0 = g.1 20 0 := cS 20 0 (by omega) (by omega)
  have s20_4 : g'.1 20 4 = g.1 20 4 := cS 20 4 (by omega) (by omega)
  have s20_5 : g'.1 20 5 = g.1 20 5 := cS 20 5 (by omega) (by omega)
  have s20_6 : g'.1 20 6 = g.1 20 6 := cS 20 6 (by omega) (by omega)
  have s20_7 : g'.1 20 7 = g.1 20 7 := cS 20 7 (by omega) (by omega)
  have a3 : g'.2.1 3 = g.2.1 3 := funext fun i => cA 3 i (by omega) (by omega)
  have a4 : g'.2.1 4 = g.2.1 4 := funext fun i => cA 4 i (by omega) (by omega)
  have a5 : g'.2.1 5 = g.2.1 5 := funext fun i => cA 5 i (by omega) (by omega)
  have a25 : g'.2.1 25 = g.2.1 25 := funext fun i => cA 25 i (by omega) (by omega)
  have a26 : g'.2.1 26 = g.2.1 26 := funext fun i => cA 26 i (by omega) (by omega)
  have a27 : g'.2.1 27 = g.2.1 27 := funext fun i => cA 27 i (by omega) (by omega)
  have a28 : g'.2.1 28 = g.2.1 28 := funext fun i => cA 28 i (by omega) (by omega)
  have a22_1 : g'.2.1 22 1 = g.2.1 22 1 := cA 22 1 (by omega) (by omega)
  have a21_0 : g'.2.1 21 0 = g.2.1 21 0 := cA 21 0 (by omega) (by omega)
  have a21_4 : g'.2.1 21 4 = g.2.1 21 4 := cA 21 4 (by omega) (by omega)
  have a21_5 : g'.2.1 21 5 = g.2.1 21 5 := cA 21 5 (by omega) (by omega)
  have a21_6 : g'.2.1 21 6 = g.2.1 21 6 := cA 21 6 (by omega) (by omega)
  have a21_7 : g'.2.1 21 7 = g.2.1 21 7 := cA 21 7 (by omega) (by omega)
  have s33 : m'.1 33 = m.1 33 := funext fun i => mS 33 i (by omega) (by omega) (by omega) (by omega) (by omega)
  have s34 : m'.1 34 = m.1 34 := funext fun i => mS 34 i (by omega) (by omega) (by omega) (by omega) (by omega)
  have s35 : m'.1 35 = m.1 35 := funext fun i => mS 35 i (by omega) (by omega) (by omega) (by omega) (by omega)
  have s40 : m'.1 40 = m.1 40 := funext fun i => mS 40 i (by omega) (by omega) (by omega) (by omega) (by omega)
  have s41 : m'.1 41 = m.1 41 := funext fun i => mS 41 i (by omega) (by omega) (by omega) (by omega) (by omega)
  have s47 : m'.1 47 = m.1 47 := funext fun i => mS 47 i (by omega) (by omega) (by omega) (by omega) (by omega)
  have s48 : m'.1 48 = m.1 48 := funext fun i => mS 48 i (by omega) (by omega) (by omega) (by omega) (by omega)
  have s49 : m'.1 49 = m.1 49 := funext fun i => mS 49 i (by omega) (by omega) (by omega) (by omega) (by omega)
  have s50 : m'.1 50 = m.1 50 := funext fun i => mS 50 i (by omega) (by omega) (by omega) (by omega) (by omega)
  have s51 : m'.1 51 = m.1 51 := funext fun i => mS 51 i (by omega) (by omega) (by omega) (by omega) (by omega)
  have s52 : m'.1 52 = m.1 52 := funext fun i => mS 52 i (by omega) (by omega) (by omega) (by omega) (by omega)
  have s53 : m'.1 53 = m.1 53 := funext fun i => mS 53 i (by omega) (by omega) (by omega) (by omega) (by omega)
  have a54 : m'.2.1 54 = m.2.1 54 := funext fun i => mA 54 i (by omega) (by omega) (by omega) (by omega)
  have a55 : m'.2.1 55 = m.2.1 55 := funext fun i => mA 55 i (by omega) (by omega) (by omega) (by omega)
  have a56 : m'.2.1 56 = m.2.1 56 := funext fun i => mA 56 i (by omega) (by omega) (by omega) (by omega)
  have a58 : m'.2.1 58 = m.2.1 58 := funext fun i => mA 58 i (by omega) (by omega) (by omega) (by omega)
  have a59 : m'.2.1 59 = m.2.1 59 := funext fun i => mA 59 i (by omega) (by omega) (by omega) (by omega)
  have a60 : m'.2.1 60 = m.2.1 60 := funext fun i => mA 60 i (by omega) (by omega) (by omega) (by omega)
  have a61 : m'.2.1 61 = m.2.1 61 := funext fun i => mA 61 i (by omega) (by omega) (by omega) (by omega)
  have a62 : m'.2.1 62 = m.2.1 62 := funext fun i => mA 62 i (by omega) (by omega) (by omega) (by omega)
  have a63 : m'.2.1 63 = m.2.1 63 := funext fun i => mA 63 i (by omega) (by omega) (by omega) (by omega)
  have a64 : m'.2.1 64 = m.2.1 64 := funext fun i => mA 64 i (by omega) (by omega) (by omega) (by omega)
  have a65 : m'.2.1 65 = m.2.1 65 := funext fun i => mA 65 i (by omega) (by omega) (by omega) (by omega)
  have a66 : m'.2.1 66 = m.2.1 66 := funext fun i => mA 66 i (by omega) (by omega) (by omega) (by omega)
  have a67 : m'.2.1 67 = m.2.1 67 := funext fun i => mA 67 i (by omega) (by omega) (by omega) (by omega)
  have a68 : m'.2.1 68 = m.2.1 68 := funext fun i => mA 68 i (by omega) (by omega) (by omega) (by omega)
  have a74 : m'.2.1 74 = m.2.1 74 := funext fun i => mA 74 i (by omega) (by omega) (by omega) (by omega)
  have a75 : m'.2.1 75 = m.2.1 75 := funext fun i => mA 75 i (by omega) (by omega) (by omega) (by omega)
  have a78 : m'.2.1 78 = m.2.1 78 := funext fun i => mA 78 i (by omega) (by omega) (by omega) (by omega)
  have a79 : m'.2.1 79 = m.2.1 79 := funext fun i => mA 79 i (by omega) (by omega) (by omega) (by omega)
  have a80 : m'.2.1 80 = m.2.1 80 := funext fun i => mA 80 i (by omega) (by omega) (by omega) (by omega)
  have a81 : m'.2.1 81 = m.2.1 81 := funext fun i => mA 81 i (by omega) (by omega) (by omega) (by omega)
  have a82 : m'.2.1 82 = m.2.1 82 := funext fun i => mA 82 i (by omega) (by omega) (by omega) (by omega)
  have hPl' : RPl g' m' P := by
    unfold RPl at hPl ⊢
    simp only [s2, s33, a3, a4, a5, a54, a55, a56]
    exact hPl
  have h0' : RSt g' m' 0 34 58 100 0 127 := by
    unfold RSt at h0 ⊢
    simp only [s20_0, a21_0, s34, a58]
    exact h0
  have hTp' : RTp g' m' := by
    unfold RTp at hTp ⊢
    simp only [s29, s30, a74, a75, cW, w3]
    exact hTp
  have hBo' : RBo g' m' := by
    unfold RBo at hBo ⊢
    simp only [s14, s53, s20_7, a21_7, a82]
    exact hBo
  have hCo' : RCo m' := by
    unfold RCo at hCo ⊢
    simp only [s40, s41, a68]
    exact hCo
  have hIm' : RIm g' m' P N := by
    unfold RIm RSt at hIm ⊢
    simp only [s1, s47, a22_1, a78, s20_4, s20_5, s20_6, a21_4, a21_5, a21_6, s50, s51, s52, a79, a80, a81, s18_1, s49, s19_1, s48]
    exact hIm
  obtain ⟨n1, n2, n3, n4, n5, n6⟩ := hHo
  have n6' : RLw g' m' N := by
    unfold RLw LwC LwMr at n6 ⊢
    simp only [s23, s24, a25, a26, a27, a28, a59, a60, a61, a62, a63, a64, a65, a66, a67]
    exact n6
  exact ⟨hPl', hDo', h0', h1', h2', h3', hTp', hOd', hBo', hCo', hIm', ⟨n1, by rw [s0]; exact n2, by rw [s35]; exact n3, hx, hy, n6'⟩⟩
theorem q_image {g m : STt} {P N : Nat} (h : RelE g m P N) : ∃ g' m' r, fX10_image g = some (g', r) ∧ fX11_image m = some (m', r) ∧ RelE g' m' P N := by
  obtain ⟨hPl, hDo, h0, h1, h2, h3, hTp, hOd, hBo, hCo, hIm, hHo⟩ := id h
  obtain ⟨K1, u1, u2, u3, u4⟩ := h1
  obtain ⟨K2, v1, v2, v3, v4⟩ := h2
  obtain ⟨K3, x1, x2, x3, x4⟩ := h3
  obtain ⟨g2, e1, t1, t2, t3, t4, t5, t6, t7, t8, t9, t10, t11, t12⟩ := c_moment (g := g) (a := 1) (b := 0) (Or.inr ⟨rfl, rfl⟩) u2 v2 x2 u1 v1 x1
  have e2 := image_all (sS (sS (sS (sS (sS (sS m 47 0 1) 48 0 (m.1 36 0)) 49 0 (m.1 44 0)) 50 0 (m.1 42 0)) 51 0 (m.1 46 0)) 52 0 (m.1 45 0))
  have g22 : g2.2.1 22 0 = g.2.1 22 0 := t11 22 0 (by omega) (by omega)
  unfold fX10_image
  rw [e1, bnd1_e, eX1_getk (sS g2 1 0 1) 0 12 12 (by omega) rfl, bnd1_e, show (sS g2 1 0 1).2.1 22 0 12 = m.2.1 57 0 12 from (congrFun g22 12).trans (hDo.1 12 (by omega))]
  refine ⟨_, _, _, rfl, e2, rel_im h (fun c i c1 c2 c3 => ?_) (fun c i c1 c2 => ?_) t12 (fun c i c1 => ?_) (fun c i c1 => ?_) rfl ?_⟩
  · rw [sS_n _ _ (by omega)]; exact t10 c i (by omega) (by omega)
  · exact t11 c i (by omega) (by omega)
  · show (sS (sS (sS (sS (sS (sS m 47 0 1) 48 0 (m.1 36 0)) 49 0 (m.1 44 0)) 50 0 (m.1 42 0)) 51 0 (m.1 46 0)) 52 0 (m.1 45 0)).1 c i = _
    rw [sS_n _ _ (by omega), sS_n _ _ (by omega), sS_n _ _ (by omega), sS_n _ _ (by omega), sS_n _ _ (by omega), sS_n _ _ (by omega)]
  · rw [sA_n _ _ (by omega), sA_n _ _ (by omega), sA_n _ _ (by omega), sA_n _ _ (by omega)]
    rfl
  · refine ⟨rfl, Or.inr ⟨rfl, fun k hk => ?_, dok_is hDo.2 t1, ⟨K1, u1, t2, u3, fun k hk => ?_⟩, ⟨K2, v1, t3, v3, fun k hk => ?_⟩, ⟨K3, x1, t4, x3, fun k hk => ?_⟩, ⟨t8.trans hOd.1, by show inR (g2.1 18 1) 0 10; rw [t8]; exact hOd.2⟩, t9.trans hHo.2.2.2.1, ?_⟩⟩
    · show g2.2.1 22 1 k = cpN (m.2.1 57 0) (m.2.1 78 0) 15 k
      rw [cpN_in _ _ hk, t1 k hk]; exact hDo.1 k hk
    · show g2.2.1 21 4 k = cpN (m.2.1 70 0) (m.2.1 79 0) 12 k ∧ inR (g2.2.1 21 4 k) 0 7
      rw [cpN_in _ _ (by omega), t5 k hk]; exact u4 k hk
    · show g2.2.1 21 5 k = cpN (m.2.1 73 0) (m.2.1 80 0) 12 k ∧ inR (g2.2.1 21 5 k) 0 3
      rw [cpN_in _ _ (by omega), t6 k hk]; exact v4 k hk
    · show g2.2.1 21 6 k = cpN (m.2.1 72 0) (m.2.1 81 0) 4 k ∧ inR (g2.2.1 21 6 k) 0 99
      rw [cpN_in _ _ (by omega), t7 k hk]; exact x4 k hk
    · show RHd (g2.1 19 1) N
      rw [t9]
      rcases hHo.2.2.2.2.1 with ⟨a1, -⟩ | ⟨j, j1, j2, -⟩
      · exact Or.inl a1
      · exact Or.inr ⟨j, j1, j2⟩
theorem q_undo {g m : STt} {P N : Nat} (h : RelE g m P N) : ∃ g' m' r, fX10_undo g = some (g', r) ∧ fX11_undo m = some (m', r) ∧ RelE g' m' P N := by
  obtain ⟨hPl, hDo, h0, h1, h2, h3, hTp, hOd, hBo, hCo, ⟨i0, i1⟩, hHo⟩ := id h
  have hN := hHo.1
  unfold fX10_undo fX11_undo
  rw [← i0]
  by_cases c : g.1 1 0 = 0
  · rw [if_pos c, if_pos c]; exact ⟨_, _, _, rfl, rfl, h⟩
  · rcases i1 with i1 | ⟨-, d1, d2, ⟨K1, u1, u2, u3, u4⟩, ⟨K2, v1, v2, v3, v4⟩, ⟨K3, x1, x2, x3, x4⟩, ⟨o1, o2⟩, l1, l2⟩
    · exact absurd i1 c
    · obtain ⟨g2, e1, t1, t2, t3, t4, t5, t6, t7, t8, t9, t10, t11, t12⟩ := c_moment (g := g) (a := 0) (b := 1) (Or.inl ⟨rfl, rfl⟩) u2 v2 x2 u1 v1 x1
      have e2 := undo_all (sS (sS (sS (sS (sS m 36 0 (m.1 48 0)) 44 0 (m.1 49 0)) 42 0 (m.1 50 0)) 46 0 (m.1 51 0)) 45 0 (m.1 52 0))
      have held : ∃ w, fX10_heldLaw g2 = some w ∧ w < 7 ∧ ((g.1 19 1 = -1 ∧ w = 6) ∨ ∃ j, j < N ∧ g.1 19 1 = nI j ∧ w = j) := by
        unfold fX10_heldLaw fX10_heldLaw_j30 fX10_heldLaw_j34
        rw [t9]
        rcases l2 with l2 | ⟨j, j1, j2⟩
        · rw [l2, if_pos (by decide)]; exact ⟨6, rfl, by omega, Or.inl ⟨rfl, rfl⟩⟩
        · rw [j2, if_neg (nI_pos (by omega)), if_neg (show ¬ (6 : Int32) ≤ nI j from nI_ge (b := 6) (by omega) (by omega)), if_pos (inB_nI (by omega) (by omega)), nI_c (by omega)]
          exact ⟨j, rfl, by omega, Or.inr ⟨j, j1, rfl, rfl⟩⟩
      obtain ⟨w, w1, w2, w3⟩ := held
      unfold fX9_obey
      rw [if_neg c, if_neg c, e1, bnd1_e, w1, bnd1_e, if_pos w2, bnd1_e, eX1_getk (sW g2 w) 0 12 12 (by omega) rfl, bnd1_e]
      have r12 : g2.2.1 22 0 12 = cpN (m.2.1 78 0) (m.2.1 57 0) 15 12 := by
        rw [cpN_in _ _ (by omega), t1 12 (by omega)]; exact d1 12 (by omega)
      rw [show (sW g2 w).2.1 22 0 12 = cpN (m.2.1 78 0) (m.2.1 57 0) 15 12 from r12]
      refine ⟨_, _, _, rfl, e2, rel_un h (fun c i c1 c2 => t10 c i (by omega) (by omega)) (fun c i c1 c2 => t11 c i (by omega) (by omega)) (by show g2.2.2.1 = _; rw [t12]) (fun c i c1 c2 c3 c4 c5 => ?_) (fun c i c1 c2 c3 c4 => ?_) rfl ⟨fun k hk => ?_, dok_is d2 t1⟩ ⟨K1, u1, t2, u3, fun k hk => ?_⟩ ⟨K2, v1, t3, v3, fun k hk => ?_⟩ ⟨K3, x1, t4, x3, fun k hk => ?_⟩ ⟨t8.trans o1, by show inR (g2.1 18 0) 0 10; rw [t8]; exact o2⟩ (t9.trans l1) ?_⟩
      · show (sS (sS (sS (sS (sS m 36 0 (m.1 48 0)) 44 0 (m.1 49 0)) 42 0 (m.1 50 0)) 46 0 (m.1 51 0)) 45 0 (m.1 52 0)).1 c i = _
        rw [sS_n _ _ (by omega), sS_n _ _ (by omega), sS_n _ _ (by omega), sS_n _ _ (by omega), sS_n _ _ (by omega)]
      · rw [sA_n _ _ (by omega), sA_n _ _ (by omega), sA_n _ _ (by omega), sA_n _ _ (by omega)]
        rfl
      · show g2.2.1 22 0 k = cpN (m.2.1 78 0) (m.2.1 57 0) 15 k
        rw [cpN_in _ _ hk, t1 k hk]; exact d1 k hk
      · show g2.2.1 21 1 k = cpN (m.2.1 79 0) (m.2.1 70 0) 12 k ∧ inR (g2.2.1 21 1 k) 0 7
        rw [cpN_in _ _ (by omega), t5 k hk]; exact u4 k hk
      · show g2.2.1 21 2 k = cpN (m.2.1 80 0) (m.2.1 73 0) 12 k ∧ inR (g2.2.1 21 2 k) 0 3
        rw [cpN_in _ _ (by omega), t6 k hk]; exact v4 k hk
      · show g2.2.1 21 3 k = cpN (m.2.1 81 0) (m.2.1 72 0) 4 k ∧ inR (g2.2.1 21 3 k) 0 99
        rw [cpN_in _ _ (by omega), t7 k hk]; exact x4 k hk
      · show (g2.1 19 0 = -1 ∧ w = 6) ∨ ∃ j, j < N ∧ g2.1 19 0 = nI j ∧ w = j
        rw [t9]; exact w3
