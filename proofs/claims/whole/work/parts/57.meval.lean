/-! PURE: a law's rows in the model, and what they say -/
theorem nI_sub1 {h : Nat} (h1 : 1 ≤ h) : nI h - 1 = nI (h - 1) := by
  have : nI h = nI (h - 1) + 1 := by rw [nI_1]; exact congrArg nI (by omega)
  rw [this]; grind
theorem nI_subm {h : Nat} (h1 : 1 ≤ h) : nI h + (-1) = nI (h - 1) := by
  rw [← nI_sub1 h1]; grind
theorem fact_pile (m : STt) (p : Nat → Int32) (x : Int32) : fX11_factOf (sA m 69 0 p) x = fX11_factOf m x := rfl
theorem m_tst (g : STt) (y : Int32) {sg n : Nat} (s3 : sg < 3) (q : Nat) (F : Nat → Int32) (hF : F q = y) : fX11_test g y (nI (60 + sg)) (nI n) = some (bI (tsB F q sg n)) := by
  subst hF
  unfold fX11_test
  have e : sg = 0 ∨ sg = 1 ∨ sg = 2 := by omega
  rcases e with rfl | rfl | rfl
  · rw [if_pos (show nI (60 + 0) = 60 from rfl), show tsB F q 0 n = decide (F q < nI n) from rfl]
    by_cases c : nI n ≤ F q
    · rw [if_pos c, decide_eq_false (Int32.not_lt.mpr c)]; rfl
    · rw [if_neg c, decide_eq_true (Int32.not_le.mp c)]; rfl
  · rw [if_neg (show ¬ nI (60 + 1) = 60 by decide), if_pos (show nI (60 + 1) = 61 from rfl), show tsB F q 1 n = decide (F q = nI n) from rfl]
    by_cases c : F q = nI n
    · rw [if_pos c, decide_eq_true c]; rfl
    · rw [if_neg c, decide_eq_false c]; rfl
  · rw [if_neg (show ¬ nI (60 + 2) = 60 by decide), if_neg (show ¬ nI (60 + 2) = 61 by decide), show tsB F q 2 n = decide (nI n < F q) from rfl]
    by_cases c : F q ≤ nI n
    · rw [if_pos c, decide_eq_false (Int32.not_lt.mpr c)]; rfl
    · rw [if_neg c, decide_eq_true (Int32.not_le.mp c)]; rfl
theorem nar_bI (b : Bool) : vp_nar .boolean (bI b) = bI b := by cases b <;> decide
/-- what stays while a law is weighed: all but the pile -/
def PiM (m : STt) (p : Nat → Int32) : STt := sA m 69 0 p
theorem so_step {m : STt} {h j T e u : Nat} {F p p' : Nat → Int32} {n n' : Nat} (K : (STt × Int32 × Int32) → Option (STt × Int32)) (h36 : m.1 36 0 = nI h) (h6 : h < 7) (hj : j < 70) (h63 : m.2.1 63 0 j = nI u) (hu : 100 * h + u = T) (he : e < T) (hT : T ≤ 700) (hF : ∀ k, k < 9 → fX11_factOf m (ltF k) = some (F k)) (t : TkT) (hh : HdM m e [t]) (hs : stM F t p n = some (p', n')) (hn : n < 100) : fX11_isSo_l17c K (nI j) (sA m 69 0 p) (nI n) (nI e) = K (sA m 69 0 p', nI n', nI (e + 1)) := by
  obtain ⟨⟨t1, t3, t0⟩, -⟩ := hh
  obtain ⟨ty, q, sg, v⟩ := t
  have t1 : m.2.1 64 0 e = nI ty := t1
  have t3 : ty ≤ 3 := t3
  unfold fX11_isSo_l17c
  rw [if_pos (inB_nI hj (by omega)), show (sA m 69 0 p).1 36 0 = nI h from h36, show (sA m 69 0 p).2.1 63 0 = m.2.1 63 0 from sA_n _ _ (by omega), nI_c (k := j) (by omega), h63, show (100 : Int32) = nI 100 from rfl, pk_mul, nI_add, hu, if_neg (nI_ge he (by omega)), nI_c (k := e) (by omega), show (sA m 69 0 p).2.1 64 0 = m.2.1 64 0 from sA_n _ _ (by omega), t1]
  unfold stM at hs
  have e4 : ty = 0 ∨ ty = 1 ∨ ty = 2 ∨ ty = 3 := by omega
  rcases e4 with rfl | rfl | rfl | rfl
  · obtain ⟨q9, s3, v100, e65, e66, e67⟩ := t0 rfl
    have q9 : q < 9 := q9
    have e65 : m.2.1 65 0 e = ltF q := e65
    have e66 : m.2.1 66 0 e = nI (60 + sg) := e66
    have e67 : m.2.1 67 0 e = nI v := e67
    rw [if_pos rfl, if_pos hn] at hs
    cases hs
    rw [if_pos (inB_nI (n := 700) (k := e) (by omega) (by omega)), if_pos (show nI 0 = 0 from rfl), if_pos (inB_nI (n := 700) (k := e) (by omega) (by omega)), show (sA m 69 0 p).2.1 65 0 = m.2.1 65 0 from sA_n _ _ (by omega), show (sA m 69 0 p).2.1 66 0 = m.2.1 66 0 from sA_n _ _ (by omega), show (sA m 69 0 p).2.1 67 0 = m.2.1 67 0 from sA_n _ _ (by omega), e65, e66, e67, fact_pile, hF q q9, bnd1_e, if_pos (inB_nI (n := 700) (k := e) (by omega) (by omega)), if_pos (inB_nI (n := 700) (k := e) (by omega) (by omega)), m_tst _ (F q) s3 q F rfl, bnd1_e, if_pos (inB_nI (n := 100) (k := n) (by omega) (by omega)), nar_bI, nI_c (by omega), sA1_sA, nI_1]
    unfold fX11_isSo_j207
    rw [nI_1]
  · rw [if_neg (c := (1 : Nat) = 0) (by decide), if_pos rfl] at hs
    by_cases c : 1 ≤ n
    · rw [if_pos c] at hs
      cases hs
      rw [if_pos (inB_nI (n := 700) (k := e) (by omega) (by omega)), if_neg (show ¬ nI 1 = 0 by decide), if_pos (show nI 1 = 1 from rfl), nI_sub1 c, if_pos (inB_nI (n := 100) (k := n - 1) (by omega) (by omega)), nI_c (by omega), sA_s]
      unfold fX11_isSo_j128 fX11_isSo_j207
      rw [if_pos (inB_nI (n := 100) (k := n - 1) (by omega) (by omega)), if_pos (inB_nI (n := 100) (k := n - 1) (by omega) (by omega)), nI_c (by omega), sA1_sA, sA1_sA, nI_1]
      by_cases c0 : p (n - 1) = 0
      · rw [if_pos c0, if_pos c0]; rfl
      · rw [if_neg c0, if_neg c0]; rfl
    · rw [if_neg c] at hs; cases hs
  · rw [if_neg (c := (2 : Nat) = 0) (by decide), if_neg (c := (2 : Nat) = 1) (by decide), if_pos rfl] at hs
    by_cases c : 2 ≤ n
    · rw [if_pos c] at hs
      cases hs
      rw [if_pos (inB_nI (n := 700) (k := e) (by omega) (by omega)), if_neg (show ¬ nI 2 = 0 by decide), if_neg (show ¬ nI 2 = 1 by decide), if_pos (show nI 2 = 2 from rfl), nI_subm (show 1 ≤ n by omega), nI_sub1 (show 1 ≤ n - 1 by omega), show n - 1 - 1 = n - 2 by omega, if_pos (inB_nI (n := 100) (k := n - 2) (by omega) (by omega)), if_pos (inB_nI (n := 100) (k := n - 1) (by omega) (by omega)), nI_c (k := n - 2) (by omega), nI_c (k := n - 1) (by omega), sA_s]
      unfold fX11_isSo_j166 fX11_isSo_j167 fX11_isSo_j207
      rw [if_pos (inB_nI (n := 100) (k := n - 2) (by omega) (by omega)), if_pos (inB_nI (n := 100) (k := n - 2) (by omega) (by omega)), nI_c (k := n - 2) (by omega), sA1_sA, sA1_sA, nI_1]
      by_cases c0 : p (n - 2) = 0
      · rw [if_pos c0, if_pos c0]; rfl
      · rw [if_neg c0, if_neg c0]
        by_cases c1 : p (n - 1) = 0
        · rw [if_pos c1, if_pos c1]; rfl
        · rw [if_neg c1, if_neg c1]; rfl
    · rw [if_neg c] at hs; cases hs
  · rw [if_neg (c := (3 : Nat) = 0) (by decide), if_neg (c := (3 : Nat) = 1) (by decide), if_neg (c := (3 : Nat) = 2) (by decide)] at hs
    by_cases c : 2 ≤ n
    · rw [if_pos c] at hs
      cases hs
      rw [if_pos (inB_nI (n := 700) (k := e) (by omega) (by omega)), if_neg (show ¬ nI 3 = 0 by decide), if_neg (show ¬ nI 3 = 1 by decide), if_neg (show ¬ nI 3 = 2 by decide), nI_subm (show 1 ≤ n by omega), nI_sub1 (show 1 ≤ n - 1 by omega), show n - 1 - 1 = n - 2 by omega, if_pos (inB_nI (n := 100) (k := n - 2) (by omega) (by omega)), if_pos (inB_nI (n := 100) (k := n - 1) (by omega) (by omega)), nI_c (k := n - 2) (by omega), nI_c (k := n - 1) (by omega), sA_s]
      unfold fX11_isSo_j201 fX11_isSo_j206 fX11_isSo_j207
      rw [if_pos (inB_nI (n := 100) (k := n - 2) (by omega) (by omega)), if_pos (inB_nI (n := 100) (k := n - 2) (by omega) (by omega)), nI_c (k := n - 2) (by omega), sA1_sA, sA1_sA, nI_1]
      by_cases c0 : p (n - 2) = 0
      · rw [if_pos c0, if_pos c0]
        by_cases c1 : p (n - 1) = 0
        · rw [if_pos c1, if_pos c1]; rfl
        · rw [if_neg c1, if_neg c1]; rfl
      · rw [if_neg c0, if_neg c0]; rfl
    · rw [if_neg c] at hs; cases hs
theorem so_run {m : STt} {h j T u : Nat} {F : Nat → Int32} (h36 : m.1 36 0 = nI h) (h6 : h < 7) (hj : j < 70) (h63 : m.2.1 63 0 j = nI u) (hu : 100 * h + u = T) (hT : T ≤ 700) (hF : ∀ k, k < 9 → fX11_factOf m (ltF k) = some (F k)) (b : Bool) : ∀ (l : List TkT) (e n fu : Nat) (p p' : Nat → Int32), e + l.length = T → l.length < fu → HdM m e l → n + l.length ≤ 100 → rnM F l p n = some (p', 1) → p' 0 = bI b → iterO (fun K z => fX11_isSo_l17c K (nI j) z.1 z.2.1 z.2.2) fu (sA m 69 0 p, nI n, nI e) = some (sA m 69 0 p', bI b)
  | [], e, n, fu, p, p', he, hf, _, _, hr, hb => by
    cases hr
    obtain ⟨fu, rfl⟩ : ∃ j, fu = j + 1 := ⟨fu - 1, by omega⟩
    have he : e + 0 = T := he
    rw [iterO_succ]
    show fX11_isSo_l17c _ (nI j) (sA m 69 0 p) (nI 1) (nI e) = _
    unfold fX11_isSo_l17c
    rw [if_pos (inB_nI hj (by omega)), show (sA m 69 0 p).1 36 0 = nI h from h36, show (sA m 69 0 p).2.1 63 0 = m.2.1 63 0 from sA_n _ _ (by omega), nI_c (k := j) (by omega), h63, show (100 : Int32) = nI 100 from rfl, pk_mul, nI_add, hu, if_pos (nI_le (by omega) (by omega)), if_pos (by decide), sA_s, show ((0 : Int32).toNatClampNeg) = 0 from by decide, hb, if_pos (nar_bI b)]
  | t :: l, e, n, fu, p, p', he, hf, hh, hn, hr, hb => by
    obtain ⟨fu, rfl⟩ : ∃ j, fu = j + 1 := ⟨fu - 1, by omega⟩
    rw [List.length_cons] at he hf hn
    have hr : (match stM F t p n with
      | none => none
      | some (p1, n1) => rnM F l p1 n1) = some (p', 1) := hr
    rw [iterO_succ]
    cases hs : stM F t p n with
    | none => rw [hs] at hr; cases hr
    | some q =>
      obtain ⟨p1, n1⟩ := q
      rw [hs] at hr
      have hr : rnM F l p1 n1 = some (p', 1) := hr
      refine (so_step _ h36 h6 hj h63 hu (by omega) hT hF t ⟨hh.1, trivial⟩ hs (by omega)).trans ?_
      have n1n : n1 ≤ n + 1 := by
        unfold stM at hs
        by_cases c0 : t.1 = 0
        · rw [if_pos c0] at hs
          by_cases c : n < 100
          · rw [if_pos c] at hs; cases hs; omega
          · rw [if_neg c] at hs; cases hs
        · rw [if_neg c0] at hs
          by_cases c1 : t.1 = 1
          · rw [if_pos c1] at hs
            by_cases c : 1 ≤ n
            · rw [if_pos c] at hs; cases hs; omega
            · rw [if_neg c] at hs; cases hs
          · rw [if_neg c1] at hs
            by_cases c2 : t.1 = 2
            · rw [if_pos c2] at hs
              by_cases c : 2 ≤ n
              · rw [if_pos c] at hs; cases hs; omega
              · rw [if_neg c] at hs; cases hs
            · rw [if_neg c2] at hs
              by_cases c : 2 ≤ n
              · rw [if_pos c] at hs; cases hs; omega
              · rw [if_neg c] at hs; cases hs
      exact so_run h36 h6 hj h63 hu hT hF b l (e + 1) n1 fu p1 p' (by omega) (by omega) hh.2 (by omega) hr hb
def RmL (m : STt) (h : Nat) : Nat → Nat → List ClT → Nat → Prop
  | _, c, [], e => c = e
  | k, c, x :: xs, e => ∃ l : List TkT, x.1 < 7 ∧ x.2.1 < 100 ∧ m.2.1 60 0 k = nI x.1 ∧ m.2.1 61 0 k = nI x.2.1 ∧ m.2.1 62 0 k = nI c ∧ m.2.1 63 0 k = nI (c + l.length) ∧ c + l.length ≤ 100 ∧ (x.1 < 3 → HdM m (100 * h + c) l ∧ GdM l x.2.2) ∧ RmL m h (k + 1) (c + l.length) xs e
theorem m_so {m : STt} {h k c e : Nat} {x : ClT} {xs : List ClT} {F p : Nat → Int32} (h36 : m.1 36 0 = nI h) (h6 : h < 7) (hk : k < 70) (hr : RmL m h k c (x :: xs) e) (hw : x.1 < 3) (hF : ∀ k, k < 9 → fX11_factOf m (ltF k) = some (F k)) : ∃ p', fX11_isSo (sA m 69 0 p) (nI k) = some (sA m 69 0 p', if x.2.2 F = true then 1 else 0) := by
  obtain ⟨l, -, -, -, -, e62, e63, hl, hx, -⟩ := hr
  obtain ⟨hd, gd⟩ := hx hw
  obtain ⟨p', g1, g2, -⟩ := gd F p 0 (by omega)
  refine ⟨p', ?_⟩
  have run := so_run h36 h6 hk e63 rfl (by omega) hF (x.2.2 F) l (100 * h + c) 0 fuelN p p' (by omega) (by show _ < 5000; omega) hd (by omega) g1 g2
  unfold fX11_isSo
  rw [if_pos (inB_nI hk (by omega)), show (sA m 69 0 p).1 36 0 = nI h from h36, show (sA m 69 0 p).2.1 62 0 = m.2.1 62 0 from sA_n _ _ (by omega), nI_c (k := k) (by omega), e62, show (100 : Int32) = nI 100 from rfl, pk_mul, nI_add]
  exact run
theorem sum_run {m : STt} {h T e w : Nat} {F : Nat → Int32} (h36 : m.1 36 0 = nI h) (h6 : h < 6) (h59 : m.2.1 59 0 h = nI T) (hT : T ≤ 10) (hw : w < 3) (hF : ∀ k, k < 9 → fX11_factOf m (ltF k) = some (F k)) : ∀ (xs : List ClT) (k c a fu : Nat) (p : Nat → Int32), RmL m h k c xs e → k + xs.length = 10 * h + T → xs.length < fu → ∃ p', iterO (fun K z => fX11_sumOf_l19c K (nI w) z.1 z.2.1 z.2.2) fu (sA m 69 0 p, nI a, nI k) = some (sA m 69 0 p', nI (a + tgN w F xs))
  | [], k, c, a, fu, p, _, hk, hf => by
    obtain ⟨fu, rfl⟩ : ∃ j, fu = j + 1 := ⟨fu - 1, by omega⟩
    have hk : k + 0 = 10 * h + T := hk
    refine ⟨p, ?_⟩
    rw [iterO_succ]
    show fX11_sumOf_l19c _ (nI w) (sA m 69 0 p) (nI a) (nI k) = some (sA m 69 0 p, nI a)
    unfold fX11_sumOf_l19c
    rw [show (sA m 69 0 p).1 36 0 = nI h from h36, if_pos (inB_nI (by omega) (by omega)), nI_c (by omega), show (sA m 69 0 p).2.1 59 0 = m.2.1 59 0 from sA_n _ _ (by omega), h59, show (10 : Int32) = nI 10 from rfl, pk_mul, nI_add, if_pos (nI_le (by omega) (by omega))]
  | x :: xs, k, c, a, fu, p, hr, hk, hf => by
    obtain ⟨fu, rfl⟩ : ∃ j, fu = j + 1 := ⟨fu - 1, by omega⟩
    rw [List.length_cons] at hk hf
    have hso := fun hw => m_so (p := p) h36 (by omega) (show k < 70 by omega) hr hw hF
    obtain ⟨l, w7, n100, e60, e61, -, -, -, -, hr⟩ := hr
    have ih := fun a p => sum_run h36 h6 h59 hT hw hF xs (k + 1) (c + l.length) a fu p hr (by omega) (by omega)
    rw [iterO_succ]
    generalize iterO (fun K z => fX11_sumOf_l19c K (nI w) z.1 z.2.1 z.2.2) fu = Q at ih ⊢
    show ∃ p', fX11_sumOf_l19c Q (nI w) (sA m 69 0 p) (nI a) (nI k) = some (sA m 69 0 p', nI (a + ((if x.1 = w ∧ x.2.2 F = true then x.2.1 else 0) + tgN w F xs)))
    unfold fX11_sumOf_l19c fX11_sumOf_j67
    rw [show (sA m 69 0 p).1 36 0 = nI h from h36, if_pos (inB_nI (n := 7) (k := h) (by omega) (by omega)), nI_c (k := h) (by omega), show (sA m 69 0 p).2.1 59 0 = m.2.1 59 0 from sA_n _ _ (by omega), h59, show (10 : Int32) = nI 10 from rfl, pk_mul, nI_add, if_neg (nI_ge (by omega) (by omega)), if_pos (inB_nI (n := 70) (k := k) (by omega) (by omega)), nI_c (k := k) (by omega), show (sA m 69 0 p).2.1 60 0 = m.2.1 60 0 from sA_n _ _ (by omega), e60, nI_1]
    by_cases c1 : x.1 = w
    · obtain ⟨p1, hso⟩ := hso (by omega)
      rw [if_pos (by rw [c1]), hso, bnd_e]
      by_cases c2 : x.2.2 F = true
      · obtain ⟨p2, ih⟩ := ih (a + x.2.1) p1
        refine ⟨p2, ?_⟩
        rw [if_pos c2, if_neg (by decide), if_pos (inB_nI (n := 70) (k := k) (by omega) (by omega)), show (sA m 69 0 p1).2.1 61 0 = m.2.1 61 0 from sA_n _ _ (by omega), e61, nI_add, if_pos ⟨c1, c2⟩, ih, Nat.add_assoc]
      · obtain ⟨p2, ih⟩ := ih a p1
        refine ⟨p2, ?_⟩
        rw [if_neg c2, if_pos rfl, if_neg (fun q => c2 q.2), ih, Nat.zero_add]
    · obtain ⟨p2, ih⟩ := ih a p
      refine ⟨p2, ?_⟩
      rw [if_neg (fun q => c1 ((nI_eq (by omega) (by omega)).mp q)), if_neg (fun q => c1 q.1), ih, Nat.zero_add]
theorem mlast_run {m : STt} {h T e w : Nat} (h36 : m.1 36 0 = nI h) (h6 : h < 6) (h59 : m.2.1 59 0 h = nI T) (hT : T ≤ 10) (hw : w < 7) : ∀ (xs : List ClT) (k c : Nat) (a : Int32) (fu : Nat), RmL m h k c xs e → k + xs.length = 10 * h + T → xs.length < fu → iterO (fun K z => fX11_lastOf_l47c K m (nI w) z.1 z.2) fu (a, nI k) = some (ltN w xs a)
  | [], k, c, a, fu, _, hk, hf => by
    obtain ⟨fu, rfl⟩ : ∃ j, fu = j + 1 := ⟨fu - 1, by omega⟩
    have hk : k + 0 = 10 * h + T := hk
    rw [iterO_succ]
    show fX11_lastOf_l47c _ m (nI w) a (nI k) = some a
    unfold fX11_lastOf_l47c
    rw [h36, if_pos (inB_nI (by omega) (by omega)), nI_c (by omega), h59, show (10 : Int32) = nI 10 from rfl, pk_mul, nI_add, if_pos (nI_le (by omega) (by omega))]
  | x :: xs, k, c, a, fu, hr, hk, hf => by
    obtain ⟨fu, rfl⟩ : ∃ j, fu = j + 1 := ⟨fu - 1, by omega⟩
    rw [List.length_cons] at hk hf
    obtain ⟨l, w7, n100, e60, e61, -, -, -, -, hr⟩ := hr
    have ih := fun a => mlast_run h36 h6 h59 hT hw xs (k + 1) (c + l.length) a fu hr (by omega) (by omega)
    rw [iterO_succ]
    generalize iterO (fun K z => fX11_lastOf_l47c K m (nI w) z.1 z.2) fu = Q at ih ⊢
    show fX11_lastOf_l47c Q m (nI w) a (nI k) = some (ltN w xs (if x.1 = w then nI x.2.1 else a))
    unfold fX11_lastOf_l47c fX11_lastOf_j85
    rw [h36, if_pos (inB_nI (n := 7) (k := h) (by omega) (by omega)), nI_c (k := h) (by omega), h59, show (10 : Int32) = nI 10 from rfl, pk_mul, nI_add, if_neg (nI_ge (by omega) (by omega)), if_pos (inB_nI (n := 70) (k := k) (by omega) (by omega)), nI_c (k := k) (by omega), e60, nI_1]
    by_cases c1 : x.1 = w
    · rw [if_pos (by rw [c1]), if_pos (inB_nI (n := 70) (k := k) (by omega) (by omega)), e61, if_pos c1, ih]
    · rw [if_neg (fun q => c1 ((nI_eq (by omega) (by omega)).mp q)), if_neg c1, ih]
theorem RmL_c {m m' : STt} {h : Nat} (a60 : m'.2.1 60 0 = m.2.1 60 0) (a61 : m'.2.1 61 0 = m.2.1 61 0) (a62 : m'.2.1 62 0 = m.2.1 62 0) (a63 : m'.2.1 63 0 = m.2.1 63 0) (a64 : m'.2.1 64 0 = m.2.1 64 0) (a65 : m'.2.1 65 0 = m.2.1 65 0) (a66 : m'.2.1 66 0 = m.2.1 66 0) (a67 : m'.2.1 67 0 = m.2.1 67 0) : ∀ (xs : List ClT) (k c e : Nat), RmL m h k c xs e → RmL m' h k c xs e
  | [], _, _, _, hr => hr
  | x :: xs, k, c, e, hr => by
    obtain ⟨l, w7, n100, e60, e61, e62, e63, hl, hx, hr⟩ := hr
    have hd : ∀ (l : List TkT) (e : Nat), HdM m e l → HdM m' e l := by
      intro l
      induction l with
      | nil => intro e h; trivial
      | cons t l ih =>
        intro e h
        refine ⟨?_, ih (e + 1) h.2⟩
        rw [a64, a65, a66, a67]
        exact h.1
    exact ⟨l, w7, n100, by rw [a60]; exact e60, by rw [a61]; exact e61, by rw [a62]; exact e62, by rw [a63]; exact e63, hl, fun hw => ⟨hd _ _ (hx hw).1, (hx hw).2⟩, RmL_c a60 a61 a62 a63 a64 a65 a66 a67 xs _ _ _ hr⟩
theorem lwM_rows {m : STt} {h e : Nat} {xs : List ClT} (h6 : h < 6) (hr : RmL m h (10 * h) 0 xs e) (h10 : xs.length ≤ 10) (h59 : m.2.1 59 0 h = nI xs.length) : LwMj m (nI h) (fun w F => nI (tgN w F xs)) (fun w => ltN w xs (last0 w)) := by
  intro m' h36 a59 a60 a61 a62 a63 a64 a65 a66 a67
  have hr := RmL_c a60 a61 a62 a63 a64 a65 a66 a67 xs _ _ _ hr
  rw [← a59] at h59
  constructor
  · intro w hw F hF
    obtain ⟨p, hp⟩ := sum_run (e := e) h36 h6 h59 h10 hw hF xs (10 * h) 0 0 fuelN (m'.2.1 69 0) hr rfl (by show _ < 5000; omega)
    refine ⟨p, ?_⟩
    rw [sA_id, Nat.zero_add] at hp
    unfold fX11_sumOf
    rw [h36, if_pos (nI_pos' (by omega)), show (10 : Int32) = nI 10 from rfl, pk_mul]
    exact hp
  · intro w w3 w7
    have run := fun a => mlast_run (e := e) h36 h6 h59 h10 w7 xs (10 * h) 0 a fuelN hr rfl (by show _ < 5000; omega)
    have run : ∀ a, fX11_lastOf_j29 m' (nI w) a = some (ltN w xs a) := by
      intro a
      unfold fX11_lastOf_j29
      rw [h36, if_pos (nI_pos' (by omega)), show (10 : Int32) = nI 10 from rfl, pk_mul]
      exact run a
    unfold fX11_lastOf last0
    have e : w = 3 ∨ w = 4 ∨ w = 5 ∨ w = 6 := by omega
    rcases e with rfl | rfl | rfl | rfl
    · rw [if_pos (by rfl)]; exact run 3
    · rw [if_neg (by decide), if_pos (by rfl)]; exact run 5
    · rw [if_neg (by decide), if_neg (by decide), if_pos (by rfl)]; exact run 2
    · rw [if_neg (by decide), if_neg (by decide), if_neg (by decide)]; exact run 9
