/-! PURE: the easy calls -/
def RelE (g m : STt) (P N : Nat) : Prop := RPl g m P ∧ RDo g m P ∧ RSt g m 0 34 58 100 0 127 ∧ RSt g m 1 42 70 12 0 7 ∧ RSt g m 2 46 73 12 0 3 ∧ RSt g m 3 45 72 4 0 99 ∧ RTp g m ∧ ROd g m ∧ RBo g m ∧ RCo m ∧ RIm g m P N ∧ RHo g m N
theorem q_wander {g m : STt} {P N : Nat} (h : RelE g m P N) (x : Int32) : ∃ g' m' r, fX10_wander g x = some (g', r) ∧ fX11_wander m x = some (m', r) ∧ RelE g' m' P N := by
  obtain ⟨hPl, hDo, h0, h1, h2, h3, hTp, hOd, hBo, hCo, hIm, hHo⟩ := id h
  unfold fX10_wander fX11_wander
  rw [eX11_in, b_if]
  by_cases c : inR x 0 10
  · obtain ⟨c1, c2⟩ := id c
    rw [if_neg (by (simp only [Int32.lt_iff_toInt_lt, Int32.le_iff_toInt_le, ← Int32.toInt_inj, Int32.reduceToInt] at *; omega)), if_pos (by (simp only [Int32.lt_iff_toInt_lt, Int32.le_iff_toInt_le, ← Int32.toInt_inj, Int32.reduceToInt] at *; omega)), if_pos (by (simp only [Int32.lt_iff_toInt_lt, Int32.le_iff_toInt_le, ← Int32.toInt_inj, Int32.reduceToInt] at *; omega))]
    exact ⟨_, sS m 44 0 x, _, rfl, by rw [hOd.1], hPl, hDo, h0, h1, h2, h3, hTp, ⟨rfl, c⟩, hBo, hCo, hIm, hHo⟩
  · have c1 : ¬ (0 ≤ x.toInt ∧ x.toInt ≤ 10) := c
    clear c
    rw [if_neg (c := (0 : Int32).toInt ≤ x.toInt ∧ _) (by (simp only [Int32.lt_iff_toInt_lt, Int32.le_iff_toInt_le, ← Int32.toInt_inj, Int32.reduceToInt] at *; omega))]
    by_cases c2 : x < 0
    · rw [if_pos c2]; exact ⟨_, _, _, rfl, rfl, h⟩
    · rw [if_neg c2, if_neg (by (simp only [Int32.lt_iff_toInt_lt, Int32.le_iff_toInt_le, ← Int32.toInt_inj, Int32.reduceToInt] at *; omega))]; exact ⟨_, _, _, rfl, rfl, h⟩
theorem upd_s (f : Nat → Int32) (k : Nat) (x : Int32) : upd f k x k = x := pk_us
theorem upd_n (f : Nat → Int32) {k j : Nat} (x : Int32) (h : j ≠ k) : upd f k x j = f j := pk_un h
theorem rst_push {g m : STt} {s cs ca n K : Nat} {lo hi : Int} {x : Int32} (hK : K < n) (hx : inR x lo hi) (h : ∀ k, k < K → g.2.1 21 s k = m.2.1 ca 0 k ∧ inR (g.2.1 21 s k) lo hi) : RSt (sS (sA1 g 21 s K x) 20 s (nI (K + 1))) (sS (sA1 m ca 0 K x) cs 0 (nI (K + 1))) s cs ca n lo hi := by
  refine ⟨K + 1, hK, ?_, ?_, fun k hk => ?_⟩
  · rw [sS_1, if_pos ⟨rfl, rfl⟩]
  · rw [sS_1, if_pos ⟨rfl, rfl⟩]
  · rw [sS_2, sS_2, sA1_2, sA1_2, if_pos ⟨rfl, rfl⟩, if_pos ⟨rfl, rfl⟩]
    by_cases e : k = K
    · rw [e, upd_s, upd_s]; exact ⟨rfl, hx⟩
    · rw [upd_n _ _ e, upd_n _ _ e]; exact h k (by omega)
theorem eX5_add {g : STt} {s K n : Nat} (hn : lnS s = n) (hn2 : n ≤ 100) (hK : g.1 20 s = nI K) (hKn : K ≤ n) (x : Int32) : fX5_add g s x = if K < n then some (sS (sA1 g 21 s K x) 20 s (nI (K + 1)), 1) else some (g, 0) := by
  unfold fX5_add
  rw [sA1_1, hK, hn, if_neg (nI_pos (by omega)), show Int32.ofNat n = nI n from rfl]
  by_cases c : K < n
  · rw [if_pos c, if_pos (nI_lt c (by omega)), if_pos (inB_nI c (by omega)), nI_c (by omega), nI_1]
  · rw [if_neg c, if_neg (nI_nlt (by omega) (by omega))]
theorem eX10_addOrClear {g : STt} {s K n : Nat} (hn : lnS s = n) (hn2 : n ≤ 100) (hK : g.1 20 s = nI K) (hKn : K ≤ n) {x : Int32} (hx : ¬ x = -1) : fX10_addOrClear g s x = if K < n then some (sS (sA1 g 21 s K x) 20 s (nI (K + 1)), nI (K + 1)) else some (g, -4) := by
  unfold fX10_addOrClear
  rw [if_neg hx, eX5_add hn hn2 hK hKn]
  by_cases c : K < n
  · rw [if_pos c, if_pos c, bnd_e, if_neg (by decide)]
    show bnd1 (some _) _ = _
    rw [bnd1_e, sS_1, if_pos ⟨rfl, rfl⟩]
  · rw [if_neg c, if_neg c, bnd_e, if_pos rfl]
theorem eX10_clear (g : STt) (s : Nat) : fX10_addOrClear g s (-1) = some (sS g 20 s 0, 0) := rfl
theorem q_row {g m : STt} {P N : Nat} (h : RelE g m P N) (x : Int32) : ∃ g' m' r, fX10_row g x = some (g', r) ∧ fX11_row m x = some (m', r) ∧ RelE g' m' P N := by
  obtain ⟨hPl, hDo, h0, h1, h2, h3, hTp, hOd, hBo, hCo, hIm, hHo⟩ := id h
  unfold fX10_row fX11_row
  by_cases c0 : x = -1
  · rw [if_pos c0, if_pos c0, c0]
    exact ⟨_, sS m 42 0 0, _, rfl, rfl, hPl, hDo, h0, ⟨0, by omega, rfl, rfl, fun k hk => by omega⟩, h2, h3, hTp, hOd, hBo, hCo, hIm, hHo⟩
  · rw [if_neg c0, if_neg c0, eX10_isAct, eX11_isAct, b_if, b_if]
    by_cases c : inB x 8 = true
    · have c1 := inB_iff.mp c
      obtain ⟨K, k1, k2, k3, k4⟩ := h1
      rw [if_pos c, if_pos c, k3]
      unfold fX10_row_j14
      rw [eX10_addOrClear (n := 12) rfl (by omega) k2 k1 c0, sA1_1, k3]
      by_cases cK : K < 12
      · rw [if_pos cK, bnd_e, if_neg (by rw [show (12 : Int32) = nI 12 from rfl, nI_eq (by omega) (by omega)]; omega), if_pos (inB_nI cK (by omega)), nI_c (by omega), nI_1]
        exact ⟨_, sS (sA1 m 70 0 K x) 42 0 (nI (K + 1)), _, rfl, by rw [sS_1, if_pos ⟨rfl, rfl⟩], hPl, hDo, h0, rst_push cK ⟨c1.1, by omega⟩ k4, h2, h3, hTp, hOd, hBo, hCo, hIm, hHo⟩
      · rw [if_neg cK, bnd_e, if_pos (by rw [show K = 12 by omega]; rfl)]
        exact ⟨_, _, _, rfl, rfl, h⟩
    · rw [if_neg c, if_neg c]; exact ⟨_, _, _, rfl, rfl, h⟩
theorem q_film {g m : STt} {P N : Nat} (h : RelE g m P N) (x : Int32) : ∃ g' m' r, fX10_film g x = some (g', r) ∧ fX11_film m x = some (m', r) ∧ RelE g' m' P N := by
  obtain ⟨hPl, hDo, h0, h1, h2, h3, hTp, hOd, hBo, hCo, hIm, hHo⟩ := id h
  unfold fX10_film fX11_film
  by_cases c0 : x = -1
  · rw [if_pos c0, c0]
    exact ⟨_, sS m 46 0 0, _, rfl, rfl, hPl, hDo, h0, h1, ⟨0, by omega, rfl, rfl, fun k hk => by omega⟩, h3, hTp, hOd, hBo, hCo, hIm, hHo⟩
  · rw [if_neg c0, eX11_in, b_if]
    by_cases c : inR x 0 3
    · obtain ⟨c1, c2⟩ := id c
      obtain ⟨K, k1, k2, k3, k4⟩ := h2
      rw [if_neg (by (simp only [Int32.lt_iff_toInt_lt, Int32.le_iff_toInt_le, ← Int32.toInt_inj, Int32.reduceToInt] at *; omega)), if_pos (by (simp only [Int32.lt_iff_toInt_lt, Int32.le_iff_toInt_le, ← Int32.toInt_inj, Int32.reduceToInt] at *; omega)), if_pos (by (simp only [Int32.lt_iff_toInt_lt, Int32.le_iff_toInt_le, ← Int32.toInt_inj, Int32.reduceToInt] at *; omega)), k3]
      rw [eX10_addOrClear (n := 12) rfl (by omega) k2 k1 c0, sA1_1, k3]
      by_cases cK : K < 12
      · rw [if_pos cK, bnd_e, if_neg (by rw [show (12 : Int32) = nI 12 from rfl, nI_eq (by omega) (by omega)]; omega), if_pos (inB_nI cK (by omega)), nI_c (by omega), nI_1]
        exact ⟨_, sS (sA1 m 73 0 K x) 46 0 (nI (K + 1)), _, rfl, by rw [sS_1, if_pos ⟨rfl, rfl⟩], hPl, hDo, h0, h1, rst_push cK c k4, h3, hTp, hOd, hBo, hCo, hIm, hHo⟩
      · rw [if_neg cK, bnd_e, if_pos (by rw [show K = 12 by omega]; rfl)]
        exact ⟨_, _, _, rfl, rfl, h⟩
    · have c1 : ¬ (0 ≤ x.toInt ∧ x.toInt ≤ 3) := c
      clear c
      rw [if_neg (c := (0 : Int32).toInt ≤ x.toInt ∧ _) (by (simp only [Int32.lt_iff_toInt_lt, Int32.le_iff_toInt_le, ← Int32.toInt_inj, Int32.reduceToInt] at *; omega))]
      by_cases c2 : x < -1
      · rw [if_pos c2]; exact ⟨_, _, _, rfl, rfl, h⟩
      · rw [if_neg c2, if_neg (by (simp only [Int32.lt_iff_toInt_lt, Int32.le_iff_toInt_le, ← Int32.toInt_inj, Int32.reduceToInt] at *; omega))]; exact ⟨_, _, _, rfl, rfl, h⟩
theorem q_beast {g m : STt} {P N : Nat} (h : RelE g m P N) (x : Int32) : ∃ g' m' r, fX10_beast g x = some (g', r) ∧ fX11_beast m x = some (m', r) ∧ RelE g' m' P N := by
  obtain ⟨hPl, hDo, h0, h1, h2, h3, hTp, hOd, hBo, hCo, hIm, hHo⟩ := id h
  unfold fX10_beast fX11_beast
  by_cases c0 : x = -1
  · rw [if_pos c0, c0]
    exact ⟨_, sS m 45 0 0, _, rfl, rfl, hPl, hDo, h0, h1, h2, ⟨0, by omega, rfl, rfl, fun k hk => by omega⟩, hTp, hOd, hBo, hCo, hIm, hHo⟩
  · rw [if_neg c0, eX11_in, b_if]
    by_cases c : inR x 0 99
    · obtain ⟨c1, c2⟩ := id c
      obtain ⟨K, k1, k2, k3, k4⟩ := h3
      rw [if_neg (by (simp only [Int32.lt_iff_toInt_lt, Int32.le_iff_toInt_le, ← Int32.toInt_inj, Int32.reduceToInt] at *; omega)), if_pos (by (simp only [Int32.lt_iff_toInt_lt, Int32.le_iff_toInt_le, ← Int32.toInt_inj, Int32.reduceToInt] at *; omega)), if_pos (by (simp only [Int32.lt_iff_toInt_lt, Int32.le_iff_toInt_le, ← Int32.toInt_inj, Int32.reduceToInt] at *; omega)), k3]
      rw [eX10_addOrClear (n := 4) rfl (by omega) k2 k1 c0, sA1_1, k3]
      by_cases cK : K < 4
      · rw [if_pos cK, bnd_e, if_neg (by rw [show (4 : Int32) = nI 4 from rfl, nI_eq (by omega) (by omega)]; omega), if_pos (inB_nI cK (by omega)), nI_c (by omega), nI_1]
        exact ⟨_, sS (sA1 m 72 0 K x) 45 0 (nI (K + 1)), _, rfl, by rw [sS_1, if_pos ⟨rfl, rfl⟩], hPl, hDo, h0, h1, h2, rst_push cK c k4, hTp, hOd, hBo, hCo, hIm, hHo⟩
      · rw [if_neg cK, bnd_e, if_pos (by rw [show K = 4 by omega]; rfl)]
        exact ⟨_, _, _, rfl, rfl, h⟩
    · have c1 : ¬ (0 ≤ x.toInt ∧ x.toInt ≤ 99) := c
      clear c
      rw [if_neg (c := (0 : Int32).toInt ≤ x.toInt ∧ _) (by (simp only [Int32.lt_iff_toInt_lt, Int32.le_iff_toInt_le, ← Int32.toInt_inj, Int32.reduceToInt] at *; omega))]
      by_cases c2 : x < -1
      · rw [if_pos c2]; exact ⟨_, _, _, rfl, rfl, h⟩
      · rw [if_neg c2, if_neg (by (simp only [Int32.lt_iff_toInt_lt, Int32.le_iff_toInt_le, ← Int32.toInt_inj, Int32.reduceToInt] at *; omega))]; exact ⟨_, _, _, rfl, rfl, h⟩
theorem q_count {g m : STt} {P N : Nat} (h : RelE g m P N) (x : Int32) : ∃ r, fX10_count g x = some r ∧ fX11_count m x = some r := by
  obtain ⟨hPl, hDo, h0, h1, h2, h3, hTp, hOd, hBo, hCo, hIm, hHo⟩ := id h
  obtain ⟨K0, -, k0, k0', -⟩ := h0
  obtain ⟨K1, -, k1, k1', -⟩ := h1
  obtain ⟨K2, -, k2, k2', -⟩ := h2
  obtain ⟨K3, -, k3, k3', -⟩ := h3
  obtain ⟨n, -, b1, b2, -⟩ := hBo
  unfold fX10_count fX11_count fX4_size fX5_size fX7_size fX5_size fX0_ran
  rw [hPl.2.1, hPl.2.2.1, hHo.2.1, hHo.2.2.1, k0', k1, k1', k2, k2', k3, k3', b1, b2]
  simp only [bnd1_e, k0]
  repeat' split
  all_goals exact ⟨_, rfl, rfl⟩
theorem q_of {g m : STt} {P N : Nat} (h : RelE g m P N) (x y : Int32) : ∃ r, fX10_of g x y = some r ∧ fX11_of m x y = some r := by
  obtain ⟨⟨p1, p2, p3, p4⟩, -⟩ := id h
  have hP : (g.1 2 0).toInt = P := by rw [p2]; exact nI_toInt (by omega)
  unfold fX10_of fX11_of
  rw [eX4_has hP, eX11_isPlace p3 p1, b_if, b_if, eX4_kindOf hP p1, eX4_numberOf hP p1, eX4_thingOf hP p1]
  by_cases c : inB x P = true
  · obtain ⟨k, hk, rfl⟩ := inB_of c (by omega)
    obtain ⟨⟨q1, -⟩, ⟨q2, -⟩, ⟨q3, -⟩⟩ := p4 k hk
    have c10 : inB (nI k) 10 = true := inB_nI (by omega) (by omega)
    simp only [c, c10, if_true, nI_c (show k < 2 ^ 31 by omega), bnd1_e, q1, q2, q3]
    repeat' split
    all_goals exact ⟨_, rfl, rfl⟩
  · rw [if_neg c, if_neg c]
    exact ⟨_, rfl, rfl⟩
theorem eX4_add {g : STt} {P : Nat} (hP : g.1 2 0 = nI P) (hp : P < 10) (x y z : Int32) : fX4_add g x y z = some (sS (sA1 (sA1 (sA1 g 3 0 P x) 4 0 P y) 5 0 P z) 2 0 (nI (P + 1)), nI P) := by
  unfold fX4_add
  simp only [sA1_1, sS_1, hP, nI_1, nI_c (show P < 2 ^ 31 by omega), and_self, if_true]
  rw [if_neg (nI_pos (by omega)), if_pos (show nI P < 10 from nI_lt (b := 10) hp (by omega)), if_pos (inB_nI hp (by omega)), if_pos (inB_nI hp (by omega)), if_pos (inB_nI hp (by omega)), nI_pred]
theorem q_place {g m : STt} {P N : Nat} (h : RelE g m P N) (x y z : Int32) : ∃ g' m' r P', fX10_place g x y z = some (g', r) ∧ fX11_place m x y z = some (m', r) ∧ RelE g' m' P' N ∧ P ≤ P' := by
  obtain ⟨hPl, hDo, h0, h1, h2, h3, hTp, hOd, hBo, hCo, hIm, hHo⟩ := id h
  obtain ⟨p1, p2, p3, p4⟩ := hPl
  unfold fX10_place fX11_place
  rw [rng1, rng2, rng2, eX11_in, b_if, eX11_in, b_if, eX11_in, b_if]
  by_cases c1 : (0 : Int32).toInt ≤ x.toInt ∧ x.toInt ≤ (6 : Int32).toInt
  · rw [if_pos c1, if_pos c1]
    by_cases c2 : (0 : Int32).toInt ≤ z.toInt ∧ z.toInt ≤ (5 : Int32).toInt
    · rw [if_pos c2, if_pos c2]
      by_cases c3 : (0 : Int32).toInt ≤ y.toInt ∧ y.toInt ≤ (9 : Int32).toInt
      · rw [if_pos c3, if_pos c3]
        unfold fX4_size
        rw [bnd1_e, p2]
        by_cases c4 : P < 10
        · rw [if_pos (show nI P < 10 from nI_lt (b := 10) c4 (by omega)), eX4_add p2 c4, bnd_e]
          simp only [sA1_1, sS_1, p3, nI_1, nI_c (show P < 2 ^ 31 by omega), and_self, if_true]
          rw [if_neg (by rw [show (10 : Int32) = nI 10 from rfl, nI_eq (by omega) (by omega)]; omega), if_pos (inB_nI c4 (by omega)), if_pos (inB_nI c4 (by omega)), if_pos (inB_nI c4 (by omega)), nI_pred]
          refine ⟨_, sS (sA1 (sA1 (sA1 m 54 0 P x) 55 0 P y) 56 0 P z) 33 0 (nI (P + 1)), _, P + 1, rfl, rfl, ⟨?_, ⟨hDo.1, hDo.2.mono (by omega) (by omega)⟩, h0, h1, h2, h3, hTp, hOd, hBo, hCo, ?_, hHo⟩, by omega⟩
          · refine ⟨by omega, rfl, rfl, fun k hk => ?_⟩
            show (upd (g.2.1 3 0) P x k = upd (m.2.1 54 0) P x k ∧ _) ∧ (upd (g.2.1 4 0) P y k = upd (m.2.1 55 0) P y k ∧ _) ∧ (upd (g.2.1 5 0) P z k = upd (m.2.1 56 0) P z k ∧ _)
            by_cases e : k = P
            · subst e
              refine ⟨⟨by rw [upd_s, upd_s], ?_⟩, ⟨by rw [upd_s, upd_s], ?_⟩, ⟨by rw [upd_s, upd_s], ?_⟩⟩
              · show 0 ≤ (upd (g.2.1 3 0) k x k).toInt ∧ (upd (g.2.1 3 0) k x k).toInt ≤ 6
                rw [upd_s]; exact c1
              · show 0 ≤ (upd (g.2.1 4 0) k y k).toInt ∧ (upd (g.2.1 4 0) k y k).toInt ≤ 9
                rw [upd_s]; exact c3
              · show 0 ≤ (upd (g.2.1 5 0) k z k).toInt ∧ (upd (g.2.1 5 0) k z k).toInt ≤ 5
                rw [upd_s]; exact c2
            · obtain ⟨⟨a1, a2⟩, ⟨b1, b2⟩, ⟨d1, d2⟩⟩ := p4 k (by omega)
              refine ⟨⟨by rw [upd_n _ _ e, upd_n _ _ e]; exact a1, ?_⟩, ⟨by rw [upd_n _ _ e, upd_n _ _ e]; exact b1, ?_⟩, ⟨by rw [upd_n _ _ e, upd_n _ _ e]; exact d1, ?_⟩⟩
              · show 0 ≤ (upd (g.2.1 3 0) P x k).toInt ∧ (upd (g.2.1 3 0) P x k).toInt ≤ 6
                rw [upd_n _ _ e]; exact a2
              · show 0 ≤ (upd (g.2.1 4 0) P y k).toInt ∧ (upd (g.2.1 4 0) P y k).toInt ≤ 9
                rw [upd_n _ _ e]; exact b2
              · show 0 ≤ (upd (g.2.1 5 0) P z k).toInt ∧ (upd (g.2.1 5 0) P z k).toInt ≤ 5
                rw [upd_n _ _ e]; exact d2
          · refine ⟨hIm.1, hIm.2.imp id (fun q => ⟨q.1, q.2.1, q.2.2.1.mono (by omega) (by omega), q.2.2.2⟩)⟩
        · rw [if_neg (show ¬ nI P < 10 from nI_nlt (b := 10) (by omega) (by omega)), p3, if_pos (by rw [show P = 10 by omega]; rfl)]
          exact ⟨_, _, _, P, rfl, rfl, h, by omega⟩
      · rw [if_neg c3, if_neg c3]; exact ⟨_, _, _, P, rfl, rfl, h, by omega⟩
    · rw [if_neg c2, if_neg c2]; exact ⟨_, _, _, P, rfl, rfl, h, by omega⟩
  · rw [if_neg c1, if_neg c1]; exact ⟨_, _, _, P, rfl, rfl, h, by omega⟩
theorem c14 {w : Nat} (h : w < 14) : w = 0 ∨ w = 1 ∨ w = 2 ∨ w = 3 ∨ w = 4 ∨ w = 5 ∨ w = 6 ∨ w = 7 ∨ w = 8 ∨ w = 9 ∨ w = 10 ∨ w = 11 ∨ w = 12 ∨ w = 13 := by omega
theorem eX11_mostOf {m : STt} {P w : Nat} (hP : m.1 33 0 = nI P) (hp : P ≤ 10) (hw : w < 14) (hb : Int) : ∃ z : Int32, fX11_mostOf m (nI w) = some z ∧ z.toInt = mostN P hb w := by
  unfold fX11_mostOf
  rw [hP]
  have eP : (nI P).toInt = P := nI_toInt (by omega)
  rcases c14 hw with rfl | rfl | rfl | rfl | rfl | rfl | rfl | rfl | rfl | rfl | rfl | rfl | rfl | rfl
  all_goals first | exact ⟨99, rfl, rfl⟩ | exact ⟨9, rfl, rfl⟩ | exact ⟨1, rfl, rfl⟩ | exact ⟨nI P, rfl, eP⟩
theorem eX1_put {g : STt} {d w : Nat} (hw : w < 15) (x : Int32) : fX1_put g d (nI w) x = some (sA1 g 22 d w x) := by
  unfold fX1_put
  rw [if_neg (nI_pos (by omega)), if_neg (show ¬ (15 : Int32) ≤ nI w from nI_ge (b := 15) hw (by omega)), if_pos (inB_nI hw (by omega)), nI_c (by omega)]
theorem q_set {g m : STt} {P N : Nat} (h : RelE g m P N) (x y : Int32) : ∃ g' m' r, fX10_set g x y = some (g', r) ∧ fX11_set m x y = some (m', r) ∧ RelE g' m' P N := by
  obtain ⟨hPl, hDo, h0, h1, h2, h3, hTp, hOd, hBo, hCo, hIm, hHo⟩ := id h
  obtain ⟨p1, p2, p3, p4⟩ := id hPl
  unfold fX10_set fX11_set
  rw [rng2, eX11_in, b_if]
  by_cases c1 : (0 : Int32).toInt ≤ x.toInt ∧ x.toInt ≤ (13 : Int32).toInt
  · rw [if_pos c1, if_pos c1]
    have e13 : (13 : Int32).toInt = 13 := by decide
    have e0 : (0 : Int32).toInt = 0 := by decide
    obtain ⟨w, hw, rfl⟩ := inB_of (x := x) (n := 14) (inB_iff.mpr (by omega)) (by omega)
    obtain ⟨z, z1, z2⟩ := eX11_mostOf p3 p1 hw 9999
    have key : (if nI w = 12 then (bnd1 (fX4_size g) fun r_5 => (fX10_set_j32 g (nI w) y r_5)) else (bnd1 (fX1_mostOf g (nI w)) fun r_5 => (fX10_set_j32 g (nI w) y r_5))) = fX10_set_j32 g (nI w) y z := by
      have eP : (nI P).toInt = P := nI_toInt (by omega)
      have zz : ∀ z' : Int32, z'.toInt = mostN P 9999 w → z' = z := fun z' h' => Int32.toInt_inj.mp (h'.trans z2.symm)
      rcases c14 hw with rfl | rfl | rfl | rfl | rfl | rfl | rfl | rfl | rfl | rfl | rfl | rfl | rfl | rfl
      all_goals first
        | (rw [← zz 99 rfl]; rfl)
        | (rw [← zz 9 rfl]; rfl)
        | (rw [← zz 1 rfl]; rfl)
        | (rw [← zz (nI P) eP, if_pos (show nI 12 = 12 from rfl)]; unfold fX4_size; rw [bnd1_e, p2])
    rw [key, z1, bnd1_e, eX11_in, b_if]
    unfold fX10_set_j32
    rw [rng2, eX1_getk g 0 _ w (by omega) rfl, bnd1_e, eX1_put (by omega), bnd1_e, if_pos (inB_nI (show w < 15 by omega) (by omega)), if_pos (inB_nI (show w < 15 by omega) (by omega)), nI_c (by omega)]
    by_cases c2 : (0 : Int32).toInt ≤ y.toInt ∧ y.toInt ≤ z.toInt
    · rw [if_pos c2, if_pos c2]
      refine ⟨_, sA1 m 57 0 w y, _, rfl, by rw [hDo.1 w (by omega)], hPl, ⟨fun k hk => ?_, ?_⟩, h0, h1, h2, h3, hTp, hOd, hBo, hCo, hIm, hHo⟩
      · show upd (g.2.1 22 0) w y k = upd (m.2.1 57 0) w y k
        by_cases e : k = w
        · rw [e, upd_s, upd_s]
        · rw [upd_n _ _ e, upd_n _ _ e]; exact hDo.1 k hk
      · exact DOK.upd hDo.2 ⟨c2.1, by rw [← z2]; exact c2.2⟩
    · rw [if_neg c2, if_neg c2]; exact ⟨_, _, _, rfl, rfl, h⟩
  · rw [if_neg c1, if_neg c1]; exact ⟨_, _, _, rfl, rfl, h⟩
def lrn (D : Nat → Int32) : Int32 := D 0 + D 1 + D 2 + D 3 + D 4 + D 5 + D 6
theorem nI_lit0 : (0 : Int32) = nI 0 := rfl
theorem eX1_learnt (g : STt) (d : Nat) : fX1_learnt g d = some (lrn (g.2.1 22 d)) := by
  have key : ∀ (n k : Nat) (a : Int32), k ≤ 7 → 7 - k < n → iterO (fun K z => fX1_learnt_l4c K g d z.1 z.2) n (a, nI k) = some (((List.range (7 - k)).map (fun j => g.2.1 22 d (k + j))).foldl (· + ·) a) := by
    intro n
    induction n with
    | zero => intro k a h1 h2; omega
    | succ n ih =>
      intro k a h1 h2
      rw [iterO_succ]
      generalize iterO (fun K z => fX1_learnt_l4c K g d z.1 z.2) n = K at ih ⊢
      show fX1_learnt_l4c K g d a (nI k) = _
      unfold fX1_learnt_l4c
      by_cases c : k = 7
      · subst c; rw [if_pos (by decide)]; rfl
      · rw [if_neg (show ¬ (6 : Int32) < nI k from nI_nlt (a := 6) (b := k) (by omega) (by omega)) , if_neg (show ¬ (15 : Int32) ≤ nI k from nI_ge (b := 15) (by omega) (by omega)), if_pos (inB_nI (by omega) (by omega)), nI_c (by omega), nI_1, ih (k + 1) _ (by omega) (by omega)]
        rw [show 7 - k = (7 - (k + 1)) + 1 by omega, List.range_succ_eq_map, List.map_cons, List.foldl_cons, List.map_map]
        congr 2
        apply List.map_congr_left
        intro j _
        show g.2.1 22 d (k + 1 + j) = g.2.1 22 d (k + (j + 1))
        rw [show k + 1 + j = k + (j + 1) by omega]
  unfold fX1_learnt fX1_learnt_l4
  refine (key fuelN 0 0 (by omega) (by show 7 - 0 < 5000; omega)).trans ?_
  show some (0 + _ + _ + _ + _ + _ + _ + _) = _
  rw [Int32.zero_add]
  rfl
theorem eX11_learnt (m : STt) : fX11_learnt m = some (lrn (m.2.1 57 0)) := by
  have key : ∀ (n k : Nat) (a : Int32), k ≤ 6 → 6 - k < n → iterO (fun K z => fX11_learnt_l10c K m z.1 z.2) n (a, nI k) = some (((List.range (6 - k)).map (fun j => m.2.1 57 0 (k + j))).foldl (· + ·) a) := by
    intro n
    induction n with
    | zero => intro k a h1 h2; omega
    | succ n ih =>
      intro k a h1 h2
      rw [iterO_succ]
      generalize iterO (fun K z => fX11_learnt_l10c K m z.1 z.2) n = K at ih ⊢
      show fX11_learnt_l10c K m a (nI k) = _
      unfold fX11_learnt_l10c
      by_cases c : k = 6
      · subst c; rw [if_pos (by decide)]; rfl
      · rw [if_neg (show ¬ (6 : Int32) ≤ nI k from nI_ge (b := 6) (by omega) (by omega)), if_pos (inB_nI (by omega) (by omega)), nI_c (by omega), nI_1, ih (k + 1) _ (by omega) (by omega)]
        rw [show 6 - k = (6 - (k + 1)) + 1 by omega, List.range_succ_eq_map, List.map_cons, List.foldl_cons, List.map_map]
        congr 2
        apply List.map_congr_left
        intro j _
        show m.2.1 57 0 (k + 1 + j) = m.2.1 57 0 (k + (j + 1))
        rw [show k + 1 + j = k + (j + 1) by omega]
  unfold fX11_learnt fX11_learnt_l10
  rw [if_pos (by decide)]
  refine (key fuelN 0 _ (by omega) (by show 6 - 0 < 5000; omega)).trans ?_
  show some (m.2.1 57 0 6 + m.2.1 57 0 0 + m.2.1 57 0 1 + m.2.1 57 0 2 + m.2.1 57 0 3 + m.2.1 57 0 4 + m.2.1 57 0 5) = some (lrn _)
  unfold lrn
  congr 1
  grind
theorem lrn_c {D D' : Nat → Int32} (h : ∀ k, k < 15 → D k = D' k) : lrn D = lrn D' := by
  unfold lrn
  rw [h 0 (by omega), h 1 (by omega), h 2 (by omega), h 3 (by omega), h 4 (by omega), h 5 (by omega), h 6 (by omega)]
theorem eX1_tell (g : STt) (d : Nat) (w : Nat) (hw : w < 16) : fX1_tell g d (nI w) = some (if w = 15 then lrn (g.2.1 22 d) else g.2.1 22 d w) := by
  unfold fX1_tell
  by_cases c : w = 15
  · subst c; rw [if_pos (show nI 15 = 15 from rfl), eX1_learnt, bnd1_e, if_pos rfl]
  · rw [if_neg (show ¬ nI w = 15 from fun h => c ((nI_eq (b := 15) (by omega) (by omega)).mp h)), eX1_getk g d _ w (by omega) rfl, bnd1_e, if_neg c]
theorem eX11_nowOf (m : STt) (w : Nat) (hw : w < 16) : fX11_nowOf m (nI w) = some (if w = 15 then lrn (m.2.1 57 0) else m.2.1 57 0 w) := by
  unfold fX11_nowOf
  by_cases c : w = 15
  · subst c; rw [if_pos (show nI 15 = 15 from rfl), eX11_learnt, bnd1_e, if_pos rfl]
  · rw [if_neg (show ¬ nI w = 15 from fun h => c ((nI_eq (b := 15) (by omega) (by omega)).mp h)), if_pos (inB_nI (by omega) (by omega)), nI_c (by omega), if_neg c]
theorem q_now {g m : STt} {P N : Nat} (h : RelE g m P N) (x : Int32) : ∃ r, fX10_now g x = some r ∧ fX11_now m x = some r := by
  obtain ⟨hPl, hDo, -⟩ := id h
  unfold fX10_now fX11_now fX10_now_j10
  rw [rng2, eX11_in, b_if]
  by_cases c1 : (0 : Int32).toInt ≤ x.toInt ∧ x.toInt ≤ (15 : Int32).toInt
  · rw [if_pos c1, if_pos c1]
    have e13 : (15 : Int32).toInt = 15 := by decide
    have e0 : (0 : Int32).toInt = 0 := by decide
    obtain ⟨w, hw, rfl⟩ := inB_of (x := x) (n := 16) (inB_iff.mpr (by omega)) (by omega)
    rw [eX1_tell g 0 w hw, eX11_nowOf m w hw, lrn_c hDo.1, bnd1_e, bnd1_e]
    by_cases c : w = 15
    · rw [if_pos c, if_pos c]; exact ⟨_, rfl, rfl⟩
    · rw [if_neg c, if_neg c, hDo.1 w (by omega)]; exact ⟨_, rfl, rfl⟩
  · rw [if_neg c1, if_neg c1]; exact ⟨_, rfl, rfl⟩
theorem i8_id {x : Int32} (h : inR x 0 127) : x.toInt8.toInt32 = x := by
  apply Int32.toInt_inj.mp
  rw [Int8.toInt_toInt32, Int32.toInt_toInt8]
  obtain ⟨a, b⟩ := h
  exact Int.bmod_eq_of_le (by omega) (by omega)
theorem q_feed {g m : STt} {P N : Nat} (h : RelE g m P N) (x : Int32) : ∃ g' m' r, fX10_feed g x = some (g', r) ∧ fX11_feed m x = some (m', r) ∧ RelE g' m' P N := by
  obtain ⟨hPl, hDo, h0, h1, h2, h3, hTp, hOd, hBo, hCo, hIm, hHo⟩ := id h
  unfold fX10_feed fX11_feed
  rw [rng2, eX11_in, b_if]
  by_cases c1 : (0 : Int32).toInt ≤ x.toInt ∧ x.toInt ≤ (127 : Int32).toInt
  · rw [if_pos c1, if_pos c1]
    have cx : inR x 0 127 := c1
    obtain ⟨K, k1, k2, k3, k4⟩ := h0
    unfold fX7_add
    rw [eX5_add (n := 100) rfl (by omega) k2 k1, vp_nar_byte, i8_id cx, i8_id cx, sA1_1, k3]
    by_cases cK : K < 100
    · rw [if_pos cK, bnd_e, if_pos (by decide), bnd_e, if_neg (by decide)]
      unfold fX7_size fX5_size
      rw [bnd1_e, bnd1_e, if_neg (by rw [show (100 : Int32) = nI 100 from rfl, nI_eq (by omega) (by omega)]; omega), if_pos (inB_nI cK (by omega)), nI_c (by omega), nI_1]
      exact ⟨_, sS (sA1 m 58 0 K x) 34 0 (nI (K + 1)), _, rfl, by rw [sS_1, sS_1, if_pos ⟨rfl, rfl⟩, if_pos ⟨rfl, rfl⟩], hPl, hDo, rst_push cK cx k4, h1, h2, h3, hTp, hOd, hBo, hCo, hIm, hHo⟩
    · rw [if_neg cK, bnd_e, if_pos (by decide), bnd_e, if_pos rfl, if_pos (by rw [show K = 100 by omega]; rfl)]
      exact ⟨_, _, _, rfl, rfl, h⟩
  · rw [if_neg c1, if_neg c1]; exact ⟨_, _, _, rfl, rfl, h⟩
