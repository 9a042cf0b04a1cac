/-! PURE: law() -/
theorem HdM_r {m m' : STt} {h : Nat} (b : ∀ k, 100 * h ≤ k → k < 100 * h + 100 → m'.2.1 64 0 k = m.2.1 64 0 k ∧ m'.2.1 65 0 k = m.2.1 65 0 k ∧ m'.2.1 66 0 k = m.2.1 66 0 k ∧ m'.2.1 67 0 k = m.2.1 67 0 k) : ∀ (l : List TkT) (e : Nat), 100 * h ≤ e → e + l.length ≤ 100 * h + 100 → HdM m e l → HdM m' e l
  | [], _, _, _, _ => trivial
  | t :: l, e, h1, h2, hd => by
    rw [List.length_cons] at h2
    obtain ⟨e1, e2, e3, e4⟩ := b e h1 (by omega)
    refine ⟨?_, HdM_r b l (e + 1) (by omega) (by omega) hd.2⟩
    rw [e1, e2, e3, e4]
    exact hd.1
theorem RmL_r {m m' : STt} {h : Nat} (a : ∀ k, 10 * h ≤ k → k < 10 * h + 10 → m'.2.1 60 0 k = m.2.1 60 0 k ∧ m'.2.1 61 0 k = m.2.1 61 0 k ∧ m'.2.1 62 0 k = m.2.1 62 0 k ∧ m'.2.1 63 0 k = m.2.1 63 0 k) (b : ∀ k, 100 * h ≤ k → k < 100 * h + 100 → m'.2.1 64 0 k = m.2.1 64 0 k ∧ m'.2.1 65 0 k = m.2.1 65 0 k ∧ m'.2.1 66 0 k = m.2.1 66 0 k ∧ m'.2.1 67 0 k = m.2.1 67 0 k) : ∀ (xs : List ClT) (k c e : Nat), 10 * h ≤ k → k + xs.length ≤ 10 * h + 10 → RmL m h k c xs e → RmL m' h k c xs e
  | [], _, _, _, _, _, hr => hr
  | x :: xs, k, c, e, h1, h2, hr => by
    rw [List.length_cons] at h2
    obtain ⟨l, w7, n100, e60, e61, e62, e63, hl, hx, hr⟩ := hr
    obtain ⟨a1, a2, a3, a4⟩ := a k h1 (by omega)
    exact ⟨l, w7, n100, a1.trans e60, a2.trans e61, a3.trans e62, a4.trans e63, hl, fun hw => ⟨HdM_r b l _ (by omega) (by omega) (hx hw).1, (hx hw).2⟩, RmL_r a b xs _ _ _ (by omega) (by omega) hr⟩
theorem lwMr_rows {m : STt} {h e : Nat} {xs : List ClT} (h6 : h < 6) (hr : RmL m h (10 * h) 0 xs e) (h10 : xs.length ≤ 10) (h59 : m.2.1 59 0 h = nI xs.length) : LwMr m h (fun w F => nI (tgN w F xs)) (fun w => ltN w xs (last0 w)) := by
  intro m' h36 a59 a b
  have hr' := RmL_r a b xs _ _ _ (Nat.le_refl _) (by omega) hr
  exact lwM_rows h6 hr' h10 (a59.trans h59) m' h36 rfl rfl rfl rfl rfl rfl rfl rfl rfl
theorem LwMr_t {m m' : STt} {j N : Nat} {tog : Nat → (Nat → Int32) → Int32} {last : Nat → Int32} (h : LwMr m j tog last) (hj : j < N) (m59 : ∀ j, j ≠ N → m'.2.1 59 0 j = m.2.1 59 0 j) (m60 : ∀ a k, 60 ≤ a → a ≤ 63 → k < 10 * N + 0 → m'.2.1 a 0 k = m.2.1 a 0 k) (m64 : ∀ a k, 64 ≤ a → a ≤ 67 → k < 100 * N + 0 → m'.2.1 a 0 k = m.2.1 a 0 k) : LwMr m' j tog last := fun m'' h36 h59 a b => h m'' h36 (h59.trans (m59 j (by omega))) (fun k k1 k2 => ⟨(a k k1 k2).1.trans (m60 60 k (by omega) (by omega) (by omega)), (a k k1 k2).2.1.trans (m60 61 k (by omega) (by omega) (by omega)), (a k k1 k2).2.2.1.trans (m60 62 k (by omega) (by omega) (by omega)), (a k k1 k2).2.2.2.trans (m60 63 k (by omega) (by omega) (by omega))⟩) (fun k k1 k2 => ⟨(b k k1 k2).1.trans (m64 64 k (by omega) (by omega) (by omega)), (b k k1 k2).2.1.trans (m64 65 k (by omega) (by omega) (by omega)), (b k k1 k2).2.2.1.trans (m64 66 k (by omega) (by omega) (by omega)), (b k k1 k2).2.2.2.trans (m64 67 k (by omega) (by omega) (by omega))⟩)
theorem LwC_t {g g' : STt} {L : Nat} {tog : Nat → (Nat → Int32) → Int32} {last : Nat → Int32} (h : LwC g L tog last) (e1 : g'.1 23 L = g.1 23 L) (e2 : g'.1 24 L = g.1 24 L) (e3 : ∀ a, g'.2.1 a L = g.2.1 a L) : LwC g' L tog last := fun g'' a b c d e f => h g'' (a.trans e1) (b.trans e2) (c.trans (e3 25)) (d.trans (e3 26)) (e.trans (e3 27)) (f.trans (e3 28))
theorem RLw_t {g m g' m' : STt} {N : Nat} (h : RLw g m N) (hN : N < 6) (c23 : ∀ i, i ≠ N → g'.1 23 i = g.1 23 i) (c24 : ∀ i, i ≠ N → g'.1 24 i = g.1 24 i) (cA : ∀ a i, i ≠ N → g'.2.1 a i = g.2.1 a i) (m59 : ∀ j, j ≠ N → m'.2.1 59 0 j = m.2.1 59 0 j) (m60 : ∀ a k, 60 ≤ a → a ≤ 63 → k < 10 * N + 0 → m'.2.1 a 0 k = m.2.1 a 0 k) (m64 : ∀ a k, 64 ≤ a → a ≤ 67 → k < 100 * N + 0 → m'.2.1 a 0 k = m.2.1 a 0 k) : RLw g' m' N := by
  obtain ⟨l1, l2⟩ := h
  refine ⟨LwC_t l1 (c23 6 (by omega)) (c24 6 (by omega)) (fun a => cA a 6 (by omega)), fun j hj => ?_⟩
  obtain ⟨tog, last, b1, b2, b3⟩ := l2 j hj
  exact ⟨tog, last, b1, LwC_t b2 (c23 j (by omega)) (c24 j (by omega)) (fun a => cA a j (by omega)), LwMr_t b3 hj m59 m60 m64⟩
theorem RIm_mono {g m : STt} {P N N' : Nat} (h : RIm g m P N) (hN : N ≤ N') : RIm g m P N' := by
  obtain ⟨i0, i1⟩ := h
  refine ⟨i0, ?_⟩
  rcases i1 with i1 | ⟨a, b, c, d, e, f, k, l1, l2⟩
  · exact Or.inl i1
  · refine Or.inr ⟨a, b, c, d, e, f, k, l1, ?_⟩
    rcases l2 with l2 | ⟨j, j1, j2⟩
    · exact Or.inl l2
    · exact Or.inr ⟨j, by omega, j2⟩
theorem rel_law {g m g' m' : STt} {P N N' : Nat} (h : RelE g m P N) (cS : ∀ a i, a ≠ 6 → a ≠ 23 → a ≠ 24 → ¬ (a = 20 ∧ i = 0) → ¬ (a = 19 ∧ i = 0) → ¬ (a = 0 ∧ i = 0) → g'.1 a i = g.1 a i) (cA : ∀ a i, a < 25 ∨ 28 < a → g'.2.1 a i = g.2.1 a i) (cW : g'.2.2.1 = g.2.2.1) (mS : ∀ a i, a < 34 ∨ 39 < a → m'.1 a i = m.1 a i) (mA : ∀ a i, a < 59 ∨ 67 < a → m'.2.1 a i = m.2.1 a i) (mW : m'.2.2 = m.2.2) (h20 : g'.1 20 0 = nI 0) (h34 : m'.1 34 0 = nI 0) (hN : N ≤ N') (hHo' : RHo g' m' N') : RelE g' m' P N' := by
  obtain ⟨hPl, hDo, h0, h1, h2, h3, hTp, hOd, hBo, hCo, hIm, hHo⟩ := h
  have w3 : m'.2.2.1 = m.2.2.1 := by rw [mW]
  have s1 : g'.1 1 = g.1 1 := funext fun i => cS 1 i (by omega) (by omega) (by omega) (by omega) (by omega) (by omega)
  have s2 : g'.1 2 = g.1 2 := funext fun i => cS 2 i (by omega) (by omega) (by omega) (by omega) (by omega) (by omega)
  have s14 : g'.1 14 = g.1 14 := funext fun i => cS 14 i (by omega) (by omega) (by omega) (by omega) (by omega) (by omega)
  have s18 : g'.1 18 = g.1 18 := funext fun i => cS 18 i (by omega) (by omega) (by omega) (by omega) (by omega) (by omega)
  have s29 : g'.1 29 = g.1 29 := funext fun i => cS 29 i (by omega) (by omega) (by omega) (by omega) (by omega) (by omega)
  have s30 : g'.1 30 = g.1 30 := funext fun i => cS 30 i (by omega) (by omega) (by omega) (by omega) (by omega) (by omega)
  have s19_1 : g'.1 19 1 = g.1 19 1 := cS 19 1 (by omega) (by omega) (by omega) (by omega) (by omega) (by omega)
  have s20_1 : g'.1 20 1 = g.1 20 1 := cS 20 1 (by omega) (by omega) (by omega) (by omega) (by omega) (by omega)
  have s20_2 : g'.1 20 2 = g.1 20 2 := cS 20 2 (by omega) (by omega) (by omega) (by omega) (by omega) (by omega)
  have s20_3 : g'.1 20 3 = g.1 20 3 := cS 20 3 (by omega) (by omega) (by omega) (by omega) (by omega) (by omega)
  have s20_4 : g'.1 20 4 = g.1 20 4 := cS 20 4 (by omega) (by omega) (by omega) (by omega) (by omega) (by omega)
  have s20_5 : g'.1 20 5 = g.1 20 5 := cS 20 5 (by omega) (by omega) (by omega) (by omega) (by omega) (by omega)
  have s20_6 : g'.1 20 6 = g.1 20 6 := cS 20 6 (by omega) (by omega) (by omega) (by omega) (by omega) (by omega)
  have s20_7 : g'.1 20 7 = g.1 20 7 := cS 20 7 (by omega) (by omega) (by omega) (by omega) (by omega) (by omega)
  have a3 : g'.2.1 3 = g.2.1 3 := funext fun i => cA 3 i (by omega)
  have a4 : g'.2.1 4 = g.2.1 4 := funext fun i => cA 4 i (by omega)
  have a5 : g'.2.1 5 = g.2.1 5 := funext fun i => cA 5 i (by omega)
  have a21 : g'.2.1 21 = g.2.1 21 := funext fun i => cA 21 i (by omega)
  have a22 : g'.2.1 22 = g.2.1 22 := funext fun i => cA 22 i (by omega)
  have s33 : m'.1 33 = m.1 33 := funext fun i => mS 33 i (by omega)
  have s40 : m'.1 40 = m.1 40 := funext fun i => mS 40 i (by omega)
  have s41 : m'.1 41 = m.1 41 := funext fun i => mS 41 i (by omega)
  have s42 : m'.1 42 = m.1 42 := funext fun i => mS 42 i (by omega)
  have s44 : m'.1 44 = m.1 44 := funext fun i => mS 44 i (by omega)
  have s45 : m'.1 45 = m.1 45 := funext fun i => mS 45 i (by omega)
  have s46 : m'.1 46 = m.1 46 := funext fun i => mS 46 i (by omega)
  have s47 : m'.1 47 = m.1 47 := funext fun i => mS 47 i (by omega)
  have s48 : m'.1 48 = m.1 48 := funext fun i => mS 48 i (by omega)
  have s49 : m'.1 49 = m.1 49 := funext fun i => mS 49 i (by omega)
  have s50 : m'.1 50 = m.1 50 := funext fun i => mS 50 i (by omega)
  have s51 : m'.1 51 = m.1 51 := funext fun i => mS 51 i (by omega)
  have s52 : m'.1 52 = m.1 52 := funext fun i => mS 52 i (by omega)
  have s53 : m'.1 53 = m.1 53 := funext fun i => mS 53 i (by omega)
  have a54 : m'.2.1 54 = m.2.1 54 := funext fun i => mA 54 i (by omega)
  have a55 : m'.2.1 55 = m.2.1 55 := funext fun i => mA 55 i (by omega)
  have a56 : m'.2.1 56 = m.2.1 56 := funext fun i => mA 56 i (by omega)
  have a57 : m'.2.1 57 = m.2.1 57 := funext fun i => mA 57 i (by omega)
  have a58 : m'.2.1 58 = m.2.1 58 := funext fun i => mA 58 i (by omega)
  have a68 : m'.2.1 68 = m.2.1 68 := funext fun i => mA 68 i (by omega)
  have a70 : m'.2.1 70 = m.2.1 70 := funext fun i => mA 70 i (by omega)
  have a72 : m'.2.1 72 = m.2.1 72 := funext fun i => mA 72 i (by omega)
  have a73 : m'.2.1 73 = m.2.1 73 := funext fun i => mA 73 i (by omega)
  have a74 : m'.2.1 74 = m.2.1 74 := funext fun i => mA 74 i (by omega)
  have a75 : m'.2.1 75 = m.2.1 75 := funext fun i => mA 75 i (by omega)
  have a78 : m'.2.1 78 = m.2.1 78 := funext fun i => mA 78 i (by omega)
  have a79 : m'.2.1 79 = m.2.1 79 := funext fun i => mA 79 i (by omega)
  have a80 : m'.2.1 80 = m.2.1 80 := funext fun i => mA 80 i (by omega)
  have a81 : m'.2.1 81 = m.2.1 81 := funext fun i => mA 81 i (by omega)
  have a82 : m'.2.1 82 = m.2.1 82 := funext fun i => mA 82 i (by omega)
  have hPl' : RPl g' m' P := by
    unfold RPl at hPl ⊢
    simp only [s2, s33, a3, a4, a5, a54, a55, a56]
    exact hPl
  have hDo' : RDo g' m' P := by
    unfold RDo at hDo ⊢
    simp only [a22, a57]
    exact hDo
  have h1' : RSt g' m' 1 42 70 12 0 7 := by
    unfold RSt at h1 ⊢
    simp only [s20_1, a21, s42, a70]
    exact h1
  have h2' : RSt g' m' 2 46 73 12 0 3 := by
    unfold RSt at h2 ⊢
    simp only [s20_2, a21, s46, a73]
    exact h2
  have h3' : RSt g' m' 3 45 72 4 0 99 := by
    unfold RSt at h3 ⊢
    simp only [s20_3, a21, s45, a72]
    exact h3
  have hTp' : RTp g' m' := by
    unfold RTp at hTp ⊢
    simp only [s29, s30, a74, a75, cW, w3]
    exact hTp
  have hOd' : ROd g' m' := by
    unfold ROd at hOd ⊢
    simp only [s18, s44]
    exact hOd
  have hBo' : RBo g' m' := by
    unfold RBo at hBo ⊢
    simp only [s14, s53, s20_7, a21, a82]
    exact hBo
  have hCo' : RCo m' := by
    unfold RCo at hCo ⊢
    simp only [s40, s41, a68]
    exact hCo
  have hIm' : RIm g' m' P N := by
    unfold RIm RSt at hIm ⊢
    simp only [s1, s47, a22, a78, s20_4, s20_5, s20_6, a21, s50, s51, s52, a79, a80, a81, s18, s49, s19_1, s48]
    exact hIm
  exact ⟨hPl', hDo', ⟨0, by omega, h20, h34, fun k hk => by omega⟩, h1', h2', h3', hTp', hOd', hBo', hCo', RIm_mono hIm' hN, hHo'⟩
theorem q_law {g m : STt} {P N : Nat} (h : RelE g m P N) : ∃ g' m' r N', fX10_law g = some (g', r) ∧ fX11_law m = some (m', r) ∧ RelE g' m' P N' := by
  obtain ⟨hPl, hDo, ⟨K, k1, k2, k3, k4⟩, h1, h2, h3, hTp, hOd, hBo, hCo, hIm, n1, n2, n3, n4, n5, l⟩ := id h
  rcases Nat.lt_or_ge N 6 with hN | hN
  · obtain ⟨C, hC⟩ : ∃ C : Nat → Int32, C = fun i => if i < K then g.2.1 21 0 i else -1 := ⟨_, rfl⟩
    have cp : ∀ i, i < K → C i = g.2.1 21 0 i := fun i hi => by rw [hC]; exact if_pos hi
    have cn : ∀ i, K ≤ i → C i = -1 := fun i hi => by rw [hC]; exact if_neg (by omega)
    have hE : TxE C K := ⟨k1, fun i hi => by rw [cp i hi]; exact (k4 i hi).2, cn⟩
    have hTC : TxC g K C := ⟨hE, k2, fun i hi => (cp i hi).symm⟩
    have hTM : TxM m K N C := ⟨hE, k3, fun i hi => by rw [cp i hi]; exact (k4 i hi).1.symm, n3, hN⟩
    obtain ⟨wb1, wb2⟩ := pLw_b hE 10 0 (by omega)
    have wl := pLw_loc (C := C) (K := K) 10 0
    obtain ⟨c1, c2⟩ := c_law (L := N) hTC
    obtain ⟨m1, m2⟩ := m_law hTM hCo.2.2
    have run : fX10_law g = bnd (fX7_readLaw g N) fun g_2 r_3 => (bnd1 (fX7_clear g_2) fun g_5 => (if r_3 < 0 then (bnd1 (fX9_obey (sS (sS g_5 19 0 (g_5.1 0 0)) 0 0 (((sS g_5 19 0 (g_5.1 0 0)).1 0 0) + 1)) N) fun g_8 => (some (g_8, g_8.1 19 0))) else (some (g_5, (-10) - r_3)))) := by
      unfold fX10_law
      rw [n2, if_neg (nI_pos (show N < 2 ^ 31 by omega)), if_neg (show ¬ (6 : Int32) ≤ nI N from nI_ge (b := 6) hN (by omega)), if_pos (inB_nI hN (by omega)), nI_c (by omega)]
      show (if N < 7 then _ else none) = _
      rw [if_pos (by omega)]
    cases hp : pLw C K 10 0 with
    | mk j o =>
      rw [hp] at c1 c2 m1 m2 wb1 wb2 wl
      have wb1 : j ≤ K := wb1
      cases o with
      | none =>
        obtain ⟨g', a1, a2⟩ := c1 rfl
        obtain ⟨m', b1, b2⟩ := m1 rfl
        have a1 : fX7_readLaw g N = some (g', nI j) := a1
        have b1 : fX11_law m = some (sS m' 34 0 0, -10 - nI j) := b1
        refine ⟨sS g' 20 0 0, sS m' 34 0 0, -10 - nI j, N, ?_, b1, ?_⟩
        · rw [run, a1, bnd_e]
          show (if nI j < 0 then _ else some (sS g' 20 0 0, -10 - nI j)) = _
          rw [if_neg (nI_pos (show j < 2 ^ 31 by omega))]
        · have cS : ∀ a i, a ≠ 6 → ¬ (a = 23 ∧ i = N) → ¬ (a = 24 ∧ i = N) → ¬ (a = 20 ∧ i = 0) → (sS g' 20 0 0).1 a i = g.1 a i := fun a i p q r s => (sS_n _ _ s).trans (a2.1 a i p q r)
          have mS : ∀ a i, a ≠ 34 → a ≠ 37 → a ≠ 38 → a ≠ 39 → (sS m' 34 0 0).1 a i = m.1 a i := fun a i p q r s => (sS_n _ _ (by omega)).trans (b2.1 a i q r s)
          have e22 : (sS g' 20 0 0).2.2 = g.2.2 := a2.2.2.2.2
          refine rel_law h (fun a i p q r s _ _ => cS a i p (by omega) (by omega) s) (fun a i p => a2.2.1 a i (by omega)) (by rw [e22]) (fun a i p => mS a i (by omega) (by omega) (by omega) (by omega)) (fun a i p => b2.2.1 a i p) b2.2.2.2.2.2 (sS_s _ _ _ _) (sS_s _ _ _ _) (Nat.le_refl N) ⟨n1, (cS 0 0 (by omega) (by omega) (by omega) (by omega)).trans n2, (mS 35 0 (by omega) (by omega) (by omega) (by omega)).trans n3, ?_, ?_, ?_⟩
          · rw [cS 19 0 (by omega) (by omega) (by omega) (by omega), mS 36 0 (by omega) (by omega) (by omega) (by omega)]; exact n4
          · rw [cS 19 0 (by omega) (by omega) (by omega) (by omega), e22]; exact n5
          · exact RLw_t l hN (fun i hi => cS 23 i (by omega) (by omega) (by omega) (by omega)) (fun i hi => cS 24 i (by omega) (by omega) (by omega) (by omega)) (fun a i hi => a2.2.1 a i (by omega)) b2.2.2.1 b2.2.2.2.1 b2.2.2.2.2.1
      | some xs =>
        obtain ⟨g', e, a1, a2, a23, a24, a100, ar⟩ := c2 xs rfl
        obtain ⟨m', e', b1, b2, b59, br, b100⟩ := m2 xs rfl
        obtain ⟨x10, xb⟩ := wb2 xs rfl
        have wl := wl xs rfl
        have e00 : (sS g' 20 0 0).1 0 0 = nI N := (sS_n _ _ (by omega)).trans ((a2.1 0 0 (by omega) (by omega) (by omega)).trans n2)
        refine ⟨sW (sS (sS (sS g' 20 0 0) 19 0 (nI N)) 0 0 (nI (N + 1))) N, sS (sS (sS m' 34 0 0) 36 0 (nI N)) 35 0 (nI (N + 1)), nI N, N + 1, ?_, b1, ?_⟩
        · rw [run, a1, bnd_e]
          show (if (-1 : Int32) < 0 then (bnd1 (fX9_obey (sS (sS (sS g' 20 0 0) 19 0 ((sS g' 20 0 0).1 0 0)) 0 0 (((sS (sS g' 20 0 0) 19 0 ((sS g' 20 0 0).1 0 0)).1 0 0) + 1)) N) fun g_8 => (some (g_8, g_8.1 19 0))) else some (sS g' 20 0 0, (-10) - (-1))) = _
          rw [if_pos (by decide), e00, show (sS (sS g' 20 0 0) 19 0 (nI N)).1 0 0 = nI N from (sS_n _ _ (by omega)).trans e00, nI_1]
          show some (sW (sS (sS (sS g' 20 0 0) 19 0 (nI N)) 0 0 (nI (N + 1))) N, (sS (sS (sS g' 20 0 0) 19 0 (nI N)) 0 0 (nI (N + 1))).1 19 0) = _
          rw [sS_n _ _ (by omega), sS_s]
        · have cS : ∀ a i, a ≠ 6 → ¬ (a = 23 ∧ i = N) → ¬ (a = 24 ∧ i = N) → ¬ (a = 20 ∧ i = 0) → ¬ (a = 19 ∧ i = 0) → ¬ (a = 0 ∧ i = 0) → (sS (sS (sS g' 20 0 0) 19 0 (nI N)) 0 0 (nI (N + 1))).1 a i = g.1 a i := fun a i p q r s t u => (sS_n _ _ u).trans ((sS_n _ _ t).trans ((sS_n _ _ s).trans (a2.1 a i p q r)))
          have mS : ∀ a i, a < 34 ∨ 39 < a → (sS (sS (sS m' 34 0 0) 36 0 (nI N)) 35 0 (nI (N + 1))).1 a i = m.1 a i := fun a i p => (sS_n _ _ (by omega)).trans ((sS_n _ _ (by omega)).trans ((sS_n _ _ (by omega)).trans (b2.1 a i (by omega) (by omega) (by omega))))
          have e22 : g'.2.2.1 = g.2.2.1 := by rw [a2.2.2.2.2]
          have tail : RLw (sW (sS (sS (sS g' 20 0 0) 19 0 (nI N)) 0 0 (nI (N + 1))) N) (sS (sS (sS m' 34 0 0) 36 0 (nI N)) 35 0 (nI (N + 1))) N := RLw_t l hN (fun i hi => cS 23 i (by omega) (by omega) (by omega) (by omega) (by omega) (by omega)) (fun i hi => cS 24 i (by omega) (by omega) (by omega) (by omega) (by omega) (by omega)) (fun a i hi => a2.2.1 a i (by omega)) b2.2.2.1 b2.2.2.2.1 b2.2.2.2.2.1
          refine rel_law h (fun a i p q r s t u => cS a i p (by omega) (by omega) s t u) (fun a i p => a2.2.1 a i (by omega)) e22 mS (fun a i p => b2.2.1 a i p) b2.2.2.2.2.2 ?_ ?_ (Nat.le_succ N) ⟨by omega, (show (sS (sS (sS g' 20 0 0) 19 0 (nI N)) 0 0 (nI (N + 1))).1 0 0 = nI (N + 1) from sS_s _ _ _ _), sS_s _ _ _ _, ?_, Or.inr ⟨N, by omega, ?_, rfl⟩, tail.1, fun j hj => ?_⟩
          · show (sS (sS (sS g' 20 0 0) 19 0 (nI N)) 0 0 (nI (N + 1))).1 20 0 = nI 0
            rw [sS_n _ _ (by omega), sS_n _ _ (by omega), sS_s]; rfl
          · rw [sS_n _ _ (by omega), sS_n _ _ (by omega), sS_s]; rfl
          · show (sS (sS (sS g' 20 0 0) 19 0 (nI N)) 0 0 (nI (N + 1))).1 19 0 = (sS (sS (sS m' 34 0 0) 36 0 (nI N)) 35 0 (nI (N + 1))).1 36 0
            rw [sS_n _ _ (by omega), sS_s, sS_n _ _ (by omega), sS_s]
          · show (sS (sS (sS g' 20 0 0) 19 0 (nI N)) 0 0 (nI (N + 1))).1 19 0 = nI N
            rw [sS_n _ _ (by omega), sS_s]
          · rcases Nat.lt_or_ge j N with q | q
            · exact tail.2 j q
            · have q : j = N := by omega
              subst q
              refine ⟨_, _, lwOK_of (xs := xs) x10 (fun x hx => (xb x hx).2) wl, lwC_rows (e := e) ar x10 ?_ ?_ a100, lwMr_rows (e := e') hN (RmL_c (m := m') (m' := sS (sS (sS m' 34 0 0) 36 0 (nI j)) 35 0 (nI (j + 1))) rfl rfl rfl rfl rfl rfl rfl rfl xs _ _ _ br) x10 b59⟩
              · show (sS (sS (sS g' 20 0 0) 19 0 (nI j)) 0 0 (nI (j + 1))).1 23 j = _
                rw [sS_n _ _ (by omega), sS_n _ _ (by omega), sS_n _ _ (by omega)]; exact a23
              · show (sS (sS (sS g' 20 0 0) 19 0 (nI j)) 0 0 (nI (j + 1))).1 24 j = _
                rw [sS_n _ _ (by omega), sS_n _ _ (by omega), sS_n _ _ (by omega)]; exact a24
  · have e : N = 6 := by omega
    subst e
    refine ⟨g, m, -4, 6, ?_, ?_, h⟩
    · unfold fX10_law
      rw [n2, if_neg (by decide), if_pos (by decide)]
      rfl
    · unfold fX11_law
      rw [n3, if_pos (by rfl)]
