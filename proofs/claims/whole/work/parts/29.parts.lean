/-! PURE: taken, trace -/
theorem under_tab (g m : STt) {k x : Nat} (hk : k < 7) (hx : x < 7) : ∃ r : Int32, fX4_isUnder g (nI k) (nI x) = some r ∧ fX11_isUnder m (nI k) (nI x) = some r := by
  have e : ∀ j, j < 7 → j = 0 ∨ j = 1 ∨ j = 2 ∨ j = 3 ∨ j = 4 ∨ j = 5 ∨ j = 6 := by omega
  rcases e k hk with rfl | rfl | rfl | rfl | rfl | rfl | rfl <;> rcases e x hx with rfl | rfl | rfl | rfl | rfl | rfl | rfl
  all_goals first | exact ⟨0, rfl, rfl⟩ | exact ⟨1, rfl, rfl⟩
theorem q_taken {g m : STt} {P N : Nat} (h : RelE g m P N) (x y : Int32) : ∃ r, fX10_taken g x y = some r ∧ fX11_taken m x y = some r := by
  obtain ⟨⟨p1, p2, p3, p4⟩, -⟩ := id h
  have hP : (g.1 2 0).toInt = P := by rw [p2]; exact nI_toInt (by omega)
  unfold fX10_taken fX11_taken
  rw [rng2, eX11_in, b_if, eX4_has hP, b_if, eX11_isPlace p3 p1, b_if, eX4_kindOf hP p1]
  by_cases c1 : (0 : Int32).toInt ≤ y.toInt ∧ y.toInt ≤ (6 : Int32).toInt
  · rw [if_pos c1, if_pos c1]
    have e6 : (6 : Int32).toInt = 6 := by decide
    have e0 : (0 : Int32).toInt = 0 := by decide
    obtain ⟨w, hw, rfl⟩ := inB_of (x := y) (n := 7) (inB_iff.mpr (by omega)) (by omega)
    by_cases c : inB x P = true
    · obtain ⟨k, hk, rfl⟩ := inB_of c (by omega)
      obtain ⟨⟨q1, q2, q3⟩, -, -⟩ := p4 k hk
      have c10 : inB (nI k) 10 = true := inB_nI (by omega) (by omega)
      rw [if_pos c, if_pos c, if_pos c, if_pos c10, if_pos c10, nI_c (by omega), bnd1_e, ← q1]
      obtain ⟨j, hj, ej⟩ := inB_of (x := g.2.1 3 0 k) (n := 7) (inB_iff.mpr (by omega)) (by omega)
      rw [ej]
      obtain ⟨r, r1, r2⟩ := under_tab g m hj hw
      rw [r1, r2, bnd1_e]
      by_cases cr : r = 0
      · rw [if_pos cr]; exact ⟨_, rfl, rfl⟩
      · rw [if_neg cr]; exact ⟨_, rfl, rfl⟩
    · rw [if_neg c, if_neg c]; exact ⟨_, rfl, rfl⟩
  · rw [if_neg c1, if_neg c1]; exact ⟨_, rfl, rfl⟩
theorem eX5_get {g : STt} {s K n : Nat} (hn : lnS s = n) (hn2 : n ≤ 100) (hK : g.1 20 s = nI K) (hKn : K ≤ n) (x : Int32) : fX5_get g s x = some (if inB x K = true then g.2.1 21 s x.toNatClampNeg else -1) := by
  unfold fX5_get
  have e : (g.1 20 s).toInt = K := by rw [hK]; exact nI_toInt (by omega)
  have e2 : (Int32.ofNat (lnS s)).toInt = n := by rw [hn]; exact nI_toInt (by omega)
  by_cases h : inB x K = true
  · have h1 := inB_iff.mp h
    rw [if_pos h, if_neg (by (simp only [Int32.lt_iff_toInt_lt, Int32.le_iff_toInt_le, ← Int32.toInt_inj, Int32.reduceToInt] at *; omega)), if_neg (by (simp only [Int32.lt_iff_toInt_lt, Int32.le_iff_toInt_le, ← Int32.toInt_inj, Int32.reduceToInt] at *; omega)), if_neg (by (simp only [Int32.lt_iff_toInt_lt, Int32.le_iff_toInt_le, ← Int32.toInt_inj, Int32.reduceToInt] at *; omega)), hn, if_pos (inB_iff.mpr (by omega))]
  · have h1 := inB_f.mp h
    by_cases h2 : x < 0
    · rw [if_pos h2, if_neg h]
    · rw [if_neg h2, if_pos (by (simp only [Int32.lt_iff_toInt_lt, Int32.le_iff_toInt_le, ← Int32.toInt_inj, Int32.reduceToInt] at *; omega)), if_neg h]
theorem q_trace {g m : STt} {P N : Nat} (h : RelE g m P N) (x : Int32) : ∃ r, fX10_trace g x = some r ∧ fX11_trace m x = some r := by
  obtain ⟨hPl, hDo, h0, h1, h2, h3, hTp, hOd, ⟨n, b1, b2, b3, b4, b5⟩, hCo, hIm, hHo⟩ := id h
  unfold fX10_trace fX0_kept fX11_trace
  rw [eX5_get (n := 20) rfl (by omega) b4 (by omega), bnd1_e, bnd1_e, b3, eX11_in, b_if]
  have e1 : (nI n - 1).toInt = (n : Int) - 1 := pk_sub_toInt (a := n) (b := 1) (by omega) (by omega)
  have e0 : (0 : Int32).toInt = 0 := by decide
  by_cases c : inB x (min n 20) = true
  · obtain ⟨k, hk, rfl⟩ := inB_of c (by omega)
    have e2 : (nI k).toInt = k := nI_toInt (by omega)
    rw [if_pos c, if_pos (by omega), if_neg (show ¬ (20 : Int32) ≤ nI k from nI_ge (b := 20) (by omega) (by omega)), if_pos (inB_nI (by omega) (by omega)), nI_c (by omega), b5 k hk]
    exact ⟨_, rfl, rfl⟩
  · rw [if_neg c]
    have h1 := inB_f.mp c
    by_cases c2 : (0 : Int32).toInt ≤ x.toInt ∧ x.toInt ≤ (nI n - 1).toInt
    · rw [if_pos c2, if_pos (by (simp only [Int32.lt_iff_toInt_lt, Int32.le_iff_toInt_le, ← Int32.toInt_inj, Int32.reduceToInt] at *; omega))]; exact ⟨_, rfl, rfl⟩
    · rw [if_neg c2]; exact ⟨_, rfl, rfl⟩
