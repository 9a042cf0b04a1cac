/-! PURE: a clause; the model reads one -/
def pCl (C : Nat → Int32) (i : Nat) : Nat × Option ClT := match pHd C i with
  | (k, none) => (k, none)
  | (k, some (w, n)) => if w < 3 then (if C k = 32 then match prs C 320 2 0 (k + 1) with
      | (j, none) => (j, none)
      | (j, some F) => (j, some (w, n, F)) else (k, none)) else (k, some (w, n, fun _ => false))
def FpK (N k c : Nat) (m m' : STt) : Prop := (∀ a i, a ≠ 37 → a ≠ 38 → a ≠ 39 → m'.1 a i = m.1 a i) ∧ (∀ a i, a < 59 ∨ 67 < a → m'.2.1 a i = m.2.1 a i) ∧ (∀ j, j ≠ N → m'.2.1 59 0 j = m.2.1 59 0 j) ∧ (∀ a j, 60 ≤ a → a ≤ 63 → j < 10 * N + k → m'.2.1 a 0 j = m.2.1 a 0 j) ∧ (∀ a j, 64 ≤ a → a ≤ 67 → j < 100 * N + c → m'.2.1 a 0 j = m.2.1 a 0 j) ∧ m'.2.2 = m.2.2
theorem FpK.tr {N k c k' c' : Nat} {m m' m'' : STt} (h : FpK N k c m m') (h' : FpK N k' c' m' m'') (hk : k ≤ k') (hc : c ≤ c') : FpK N k c m m'' := ⟨fun a i p q r => (h'.1 a i p q r).trans (h.1 a i p q r), fun a i p => (h'.2.1 a i p).trans (h.2.1 a i p), fun j p => (h'.2.2.1 j p).trans (h.2.2.1 j p), fun a j p q r => (h'.2.2.2.1 a j p q (by omega)).trans (h.2.2.2.1 a j p q r), fun a j p q r => (h'.2.2.2.2.1 a j p q (by omega)).trans (h.2.2.2.2.1 a j p q r), h'.2.2.2.2.2.trans h.2.2.2.2.2⟩
theorem FpK_S (N k c : Nat) (m : STt) {a : Nat} (ha : a = 37 ∨ a = 38 ∨ a = 39) (v : Int32) : FpK N k c m (sS m a 0 v) := ⟨fun a' i h1 h2 h3 => sS_n _ _ (by omega), fun _ _ _ => rfl, fun _ _ => rfl, fun _ _ _ _ _ => rfl, fun _ _ _ _ _ => rfl, rfl⟩
theorem FpK_M {N k c e : Nat} {m m' : STt} (h : FpM e m m') (he : 100 * N + c ≤ e) : FpK N k c m m' := ⟨h.1, fun a i p => h.2.1 a i (by omega) (by omega) (by omega) (by omega), fun j p => congrFun (h.2.1 59 0 (by omega) (by omega) (by omega) (by omega)) j, fun a j p q r => congrFun (h.2.1 a 0 (by omega) (by omega) (by omega) (by omega)) j, fun a j p q r => h.2.2.1 a j p q (by omega), h.2.2.2⟩
theorem FpK_A {N k c R a : Nat} (m : STt) (ha : 60 ≤ a ∧ a ≤ 63) (hR : 10 * N + k ≤ R) (v : Int32) : FpK N k c m (sA1 m a 0 R v) := ⟨fun _ _ _ _ _ => rfl, fun a' i p => sA1_n _ _ (by omega), fun j p => congrFun (sA1_n m (c' := 59) (i' := 0) v (by omega)) j, fun a' j p q r => by
  by_cases e : a' = a
  · subst e; rw [sA1_s, upd_n _ _ (by omega)]
  · rw [sA1_n _ _ (by omega)], fun a' j p q r => congrFun (sA1_n m (c' := a') (i' := 0) v (by omega)) j, rfl⟩
theorem FpK_9 (N k c : Nat) (m : STt) (v : Int32) : FpK N k c m (sA1 m 59 0 N v) := ⟨fun _ _ _ _ _ => rfl, fun a' i p => sA1_n _ _ (by omega), fun j p => by rw [sA1_s, upd_n _ _ p], fun a' j p q r => congrFun (sA1_n m (c' := a') (i' := 0) v (by omega)) j, fun a' j p q r => congrFun (sA1_n m (c' := a') (i' := 0) v (by omega)) j, rfl⟩
theorem TxM_K {N k c K : Nat} {C : Nat → Int32} {m m' : STt} (h : TxM m K N C) (hF : FpK N k c m m') : TxM m' K N C := ⟨h.1, (hF.1 34 0 (by omega) (by omega) (by omega)).trans h.2.1, fun i hi => (congrFun (hF.2.1 58 0 (by omega)) i).trans (h.2.2.1 i hi), (hF.1 35 0 (by omega) (by omega) (by omega)).trans h.2.2.2.1, h.2.2.2.2⟩
theorem m_eitherF {j : Nat} {m : STt} (hj : j < 1000) (h38 : m.1 38 0 = nI j) : fX11_either fuelX11_both m 0 = some m := by
  have one : ∀ qB qE qO, FX11_one qB qE qO m 0 = some m := by
    intro qB qE qO
    unfold FX11_one
    rw [h38, if_neg (nI_pos (show j < 2 ^ 31 by omega))]
  have both : ∀ qB qE n, FX11_both qB qE (FX11_one ((RGX11_both n).1) ((RGX11_both n).2.1) ((RGX11_both n).2.2)) m 0 = some m := by
    intro qB qE n
    unfold FX11_both
    rw [one, bnd1_e, m_hereF hj h38, bnd1_e, if_pos rfl]
  show FX11_either (FX11_both ((RGX11_both 318).1) ((RGX11_both 318).2.1) (FX11_one ((RGX11_both 317).1) ((RGX11_both 317).2.1) ((RGX11_both 317).2.2))) ((RGX11_both 319).2.1) ((RGX11_both 319).2.2) m 0 = some m
  unfold FX11_either
  rw [both, bnd1_e, m_hereF hj h38, bnd1_e, if_pos rfl]
section MC
variable {m : STt} {K N i c k : Nat} {C : Nat → Int32}
/-- the clause's end is kept -/
theorem mc_87 {R : Nat} (hN : N < 6) (hk : k < 10) (hR : 10 * N + k = R) (h35 : m.1 35 0 = nI N) (h59 : m.2.1 59 0 N = nI k) : ∃ m', fX11_clause_j87 m (nI R) = some m' ∧ FpK N k 100 m m' ∧ m'.1 = m.1 ∧ m'.2.1 63 0 R = m.1 39 0 ∧ m'.2.1 59 0 N = nI (k + 1) ∧ (∀ a, a ≠ 59 → a ≠ 63 → m'.2.1 a 0 = m.2.1 a 0) := by
  refine ⟨sA1 (sA1 m 63 0 R (m.1 39 0)) 59 0 N (nI (k + 1)), ?_, (FpK_A m (c := 100) (by omega) (by omega) _).tr (FpK_9 N k 100 _ _) (Nat.le_refl _) (Nat.le_refl _), rfl, ?_, ?_, fun a a1 a2 => ?_⟩
  · unfold fX11_clause_j87
    rw [if_pos (inB_nI (n := 70) (k := R) (by omega) (by omega)), nI_c (k := R) (by omega), show (sA1 m 63 0 R (m.1 39 0)).1 35 0 = nI N from h35, if_pos (inB_nI (n := 7) (k := N) (by omega) (by omega)), if_pos (inB_nI (n := 7) (k := N) (by omega) (by omega)), nI_c (k := N) (by omega), show (sA1 m 63 0 R (m.1 39 0)).2.1 59 0 = m.2.1 59 0 from sA1_n _ _ (by omega), h59, nI_1]
  · rw [sA1_n _ _ (by omega), sA1_s, upd_s]
  · rw [sA1_s, upd_s]
  · rw [sA1_n _ _ (by omega), sA1_n _ _ (by omega)]
/-- a clause that is at fault -/
theorem mc_48F {R j : Nat} (hN : N < 6) (hk : k < 10) (hR : 10 * N + k = R) (hj : j < 1000) (h35 : m.1 35 0 = nI N) (h59 : m.2.1 59 0 N = nI k) (h38 : m.1 38 0 = nI j) (v : Int32) : ∃ m', fX11_clause_j48 m (nI R) v (nI R) = some m' ∧ FpK N k 100 m m' ∧ m'.1 = m.1 := by
  have f1 := FpK_A (N := N) (k := k) (c := 100) (R := R) m (a := 61) (by omega) (by omega) v
  have f2 := FpK_A (N := N) (k := k) (c := 100) (R := R) (sA1 m 61 0 R v) (a := 62) (by omega) (by omega) (m.1 39 0)
  obtain ⟨m', a1, a2, a3, -⟩ := mc_87 (m := sA1 (sA1 m 61 0 R v) 62 0 R (m.1 39 0)) hN hk hR h35 (by rw [sA1_n _ _ (by omega), sA1_n _ _ (by omega)]; exact h59)
  refine ⟨m', ?_, (f1.tr f2 (Nat.le_refl _) (Nat.le_refl _)).tr a2 (Nat.le_refl _) (Nat.le_refl _), a3⟩
  unfold fX11_clause_j48
  rw [if_pos (inB_nI (n := 70) (k := R) (by omega) (by omega)), if_pos (inB_nI (n := 70) (k := R) (by omega) (by omega)), nI_c (k := R) (by omega), show (sA1 m 61 0 R v).1 39 0 = m.1 39 0 from rfl, show (sA1 (sA1 m 61 0 R v) 62 0 R (m.1 39 0)).1 38 0 = nI j from h38, if_pos (nI_pos' (by omega))]
  exact a1
theorem pHd_b {C : Nat → Int32} {K i : Nat} (h : TxE C K) (hi : i ≤ K) : i ≤ (pHd C i).1 ∧ (pHd C i).1 ≤ K ∧ ∀ w n, (pHd C i).2 = some (w, n) → w < 7 ∧ n < 100 := by
  obtain ⟨b1, b2, b3⟩ := hd_b h hi
  unfold pHd
  cases hd : hdC C i with
  | mk j r =>
    rw [hd] at b1 b2 b3
    have b1 : i ≤ j := b1
    have b2 : j ≤ K := b2
    cases r with
    | none => exact ⟨b1, b2, fun w n hn => (by cases hn)⟩
    | some w =>
      obtain ⟨w7, -⟩ := b3 w rfl
      obtain ⟨c1, c2, c3⟩ := pNm_b h b2
      cases hn : pNm C j with
      | mk k r =>
        rw [hn] at c1 c2 c3
        have c1 : j ≤ k := c1
        cases r with
        | none =>
          show i ≤ (match pNm C j with
            | (k, none) => (k, none)
            | (k, some n) => (k, some (w, n)) : Nat × Option (Nat × Nat)).1 ∧ (match pNm C j with
            | (k, none) => (k, none)
            | (k, some n) => (k, some (w, n)) : Nat × Option (Nat × Nat)).1 ≤ K ∧ ∀ w' n', (match pNm C j with
            | (k, none) => (k, none)
            | (k, some n) => (k, some (w, n)) : Nat × Option (Nat × Nat)).2 = some (w', n') → w' < 7 ∧ n' < 100
          rw [hn]
          exact ⟨by show i ≤ k; omega, c2, fun w n hn => (by cases hn)⟩
        | some n =>
          show i ≤ (match pNm C j with
            | (k, none) => (k, none)
            | (k, some n) => (k, some (w, n)) : Nat × Option (Nat × Nat)).1 ∧ (match pNm C j with
            | (k, none) => (k, none)
            | (k, some n) => (k, some (w, n)) : Nat × Option (Nat × Nat)).1 ≤ K ∧ ∀ w' n', (match pNm C j with
            | (k, none) => (k, none)
            | (k, some n) => (k, some (w, n)) : Nat × Option (Nat × Nat)).2 = some (w', n') → w' < 7 ∧ n' < 100
          rw [hn]
          refine ⟨by show i ≤ k; omega, c2, fun w' n' hn => ?_⟩
          have hn : (w, n) = (w', n') := Option.some.inj hn
          cases hn
          exact ⟨w7, (c3 n rfl).1⟩
theorem pCl_b {C : Nat → Int32} {K i : Nat} (h : TxE C K) (hi : i ≤ K) : i ≤ (pCl C i).1 ∧ (pCl C i).1 ≤ K ∧ ∀ x, (pCl C i).2 = some x → x.1 < 7 ∧ x.2.1 < 100 := by
  obtain ⟨b1, b2, b3⟩ := pHd_b h hi
  unfold pCl
  cases hd : pHd C i with
  | mk k r =>
    rw [hd] at b1 b2 b3
    have b1 : i ≤ k := b1
    have b2 : k ≤ K := b2
    cases r with
    | none => exact ⟨b1, b2, fun x hx => (by cases hx)⟩
    | some wn =>
      obtain ⟨w, n⟩ := wn
      obtain ⟨w7, n100⟩ := b3 w n rfl
      show i ≤ (if w < 3 then (if C k = 32 then match prs C 320 2 0 (k + 1) with
        | (j, none) => (j, none)
        | (j, some F) => (j, some (w, n, F)) else (k, none)) else (k, some (w, n, fun _ => false)) : Nat × Option ClT).1 ∧ (if w < 3 then (if C k = 32 then match prs C 320 2 0 (k + 1) with
        | (j, none) => (j, none)
        | (j, some F) => (j, some (w, n, F)) else (k, none)) else (k, some (w, n, fun _ => false)) : Nat × Option ClT).1 ≤ K ∧ ∀ x, (if w < 3 then (if C k = 32 then match prs C 320 2 0 (k + 1) with
        | (j, none) => (j, none)
        | (j, some F) => (j, some (w, n, F)) else (k, none)) else (k, some (w, n, fun _ => false)) : Nat × Option ClT).2 = some x → x.1 < 7 ∧ x.2.1 < 100
      by_cases c : w < 3
      · rw [if_pos c]
        by_cases c1 : C k = 32
        · have k1 := tx_in h c1 (by decide)
          rw [if_pos c1]
          obtain ⟨d1, d2⟩ := prs_b h 320 2 0 (k + 1) (by omega)
          cases hp : prs C 320 2 0 (k + 1) with
          | mk j r =>
            rw [hp] at d1 d2
            have d1 : k + 1 ≤ j := d1
            cases r with
            | none => exact ⟨by show i ≤ j; omega, d2, fun x hx => (by cases hx)⟩
            | some F =>
              refine ⟨by show i ≤ j; omega, d2, fun x hx => ?_⟩
              have hx : (w, n, F) = x := Option.some.inj hx
              subst hx
              exact ⟨w7, n100⟩
        · rw [if_neg c1]
          exact ⟨b1, b2, fun x hx => (by cases hx)⟩
      · rw [if_neg c]
        refine ⟨b1, b2, fun x hx => ?_⟩
        have hx : (w, n, fun _ => false) = x := Option.some.inj hx
        subst hx
        exact ⟨w7, n100⟩
def OutK (C : Nat → Int32) (N i c k : Nat) (m : STt) (r : Nat × Option ClT) (out : Option STt) : Prop := (r.2 = none → ∃ m', out = some m' ∧ FpK N k c m m' ∧ m'.1 38 0 = nI r.1) ∧ (∀ x, r.2 = some x → ∃ (m' : STt) (l : List TkT), out = some m' ∧ FpK N k c m m' ∧ m'.1 37 0 = nI r.1 ∧ m'.1 38 0 = -1 ∧ m'.1 39 0 = nI (c + l.length) ∧ c + l.length ≤ r.1 ∧ m'.2.1 59 0 N = nI (k + 1) ∧ m'.2.1 60 0 (10 * N + k) = nI x.1 ∧ m'.2.1 61 0 (10 * N + k) = nI x.2.1 ∧ m'.2.1 62 0 (10 * N + k) = nI c ∧ m'.2.1 63 0 (10 * N + k) = nI (c + l.length) ∧ (x.1 < 3 → HdM m' (100 * N + c) l ∧ GdM l x.2.2))
theorem HdM_e {m m' : STt} (a64 : m'.2.1 64 0 = m.2.1 64 0) (a65 : m'.2.1 65 0 = m.2.1 65 0) (a66 : m'.2.1 66 0 = m.2.1 66 0) (a67 : m'.2.1 67 0 = m.2.1 67 0) : ∀ (l : List TkT) (e : Nat), HdM m e l → HdM m' e l
  | [], _, _ => trivial
  | t :: l, e, h => by
    refine ⟨?_, HdM_e a64 a65 a66 a67 l (e + 1) h.2⟩
    rw [a64, a65, a66, a67]
    exact h.1
theorem m_cl (h : TxM m K N C) (hco : ∀ k, k < 31 → m.2.1 68 0 k = wordsF k) (hi : i ≤ K) (hci : c ≤ i) (hk : k < 10) (h37 : m.1 37 0 = nI i) (h38 : m.1 38 0 = -1) (h39 : m.1 39 0 = nI c) (h59 : m.2.1 59 0 N = nI k) : OutK C N i c k m (pCl C i) (fX11_clause m) := by
  have hK := h.1.1
  have hN := h.2.2.2.2
  have hw := m_word h hco hi h37 h38
  obtain ⟨b1, b2, b3⟩ := hd_b h.1 hi
  have f60 : ∀ (m : STt) v, FpK N k c m (sA1 m 60 0 (10 * N + k) v) := fun m v => FpK_A m (by omega) (Nat.le_refl _) v
  have run : fX11_clause m = bnd (fX11_readWord m) fun g_3 r_4 => (if 0 ≤ ((sA1 g_3 60 0 (10 * N + k) r_4).1 38 0) then (fX11_clause_j48 (sA1 g_3 60 0 (10 * N + k) r_4) (nI (10 * N + k)) 0 (nI (10 * N + k))) else (bnd (fX11_readNumber (sA1 g_3 60 0 (10 * N + k) r_4)) fun g_8 r_9 => (fX11_clause_j48 g_8 (nI (10 * N + k)) r_9 (nI (10 * N + k))))) := by
    unfold fX11_clause
    rw [h.2.2.2.1, if_pos (inB_nI (n := 7) (by omega) (by omega)), nI_c (k := N) (by omega), h59, show (10 : Int32) = nI 10 from rfl, pk_mul, nI_add, nI_c (k := 10 * N + k) (by omega)]
    refine congrArg _ (funext fun a => funext fun b => ?_)
    rw [if_pos (inB_nI (n := 70) (k := 10 * N + k) (by omega) (by omega))]
  rw [run, hw]
  cases hd : hdC C i with
  | mk j r =>
    rw [hd] at b1 b2 b3
    have b1 : i ≤ j := b1
    have b2 : j ≤ K := b2
    cases r with
    | none =>
      have e : pCl C i = (j, none) := by unfold pCl pHd; rw [hd]
      rw [e]
      refine ⟨fun _ => ?_, fun x hx => (by cases hx)⟩
      have f2 : FpK N k c m (sA1 (sS (sS m 37 0 (nI j)) 38 0 (nI j)) 60 0 (10 * N + k) (-1)) := ((FpK_S N k c m (by omega) _).tr (FpK_S N k c _ (by omega) _) (Nat.le_refl _) (Nat.le_refl _)).tr (f60 _ _) (Nat.le_refl _) (Nat.le_refl _)
      obtain ⟨m', a1, a2, a3⟩ := mc_48F (m := sA1 (sS (sS m 37 0 (nI j)) 38 0 (nI j)) 60 0 (10 * N + k) (-1)) hN hk rfl (show j < 1000 by omega) ((TxM_K h f2).2.2.2.1) (by rw [sA1_n _ _ (by omega)]; exact h59) (show (sS (sS m 37 0 (nI j)) 38 0 (nI j)).1 38 0 = nI j from sS_s _ _ _ _) 0
      refine ⟨m', ?_, f2.tr a2 (Nat.le_refl _) (by omega), by rw [a3]; show (sS (sS m 37 0 (nI j)) 38 0 (nI j)).1 38 0 = nI j; exact sS_s _ _ _ _⟩
      show bnd (some (sS (sS m 37 0 (nI j)) 38 0 (nI j), -1)) _ = _
      rw [bnd_e, show (sA1 (sS (sS m 37 0 (nI j)) 38 0 (nI j)) 60 0 (10 * N + k) (-1)).1 38 0 = nI j from (show (sS (sS m 37 0 (nI j)) 38 0 (nI j)).1 38 0 = nI j from sS_s _ _ _ _), if_pos (nI_pos' (by omega))]
      exact a1
    | some w =>
      obtain ⟨w7, -⟩ := b3 w rfl
      obtain ⟨m2, hm2⟩ : ∃ m2, sA1 (sS m 37 0 (nI j)) 60 0 (10 * N + k) (nI w) = m2 := ⟨_, rfl⟩
      have f2 : FpK N k c m m2 := by rw [← hm2]; exact (FpK_S N k c m (by omega) _).tr (f60 _ _) (Nat.le_refl _) (Nat.le_refl _)
      have h2 := TxM_K h f2
      have a37 : m2.1 37 0 = nI j := by rw [← hm2]; show (sS m 37 0 (nI j)).1 37 0 = nI j; exact sS_s _ _ _ _
      have a38 : m2.1 38 0 = -1 := by rw [← hm2]; show (sS m 37 0 (nI j)).1 38 0 = -1; rw [sS_n _ _ (by omega)]; exact h38
      have a39 : m2.1 39 0 = nI c := by rw [← hm2]; show (sS m 37 0 (nI j)).1 39 0 = _; rw [sS_n _ _ (by omega)]; exact h39
      have a59 : m2.2.1 59 0 N = nI k := by rw [← hm2, sA1_n _ _ (by omega)]; exact h59
      have a60 : m2.2.1 60 0 (10 * N + k) = nI w := by rw [← hm2, sA1_s, upd_s]
      show OutK C N i c k m (pCl C i) (bnd (some (sS m 37 0 (nI j), nI w)) _)
      rw [bnd_e, hm2, a38, if_neg (by decide)]
      obtain ⟨n1, n2⟩ := m_num h2 b2 a37 a38
      obtain ⟨p1, p2, p3⟩ := pNm_b h.1 b2
      cases hn : pNm C j with
      | mk q r =>
        rw [hn] at n1 n2 p1 p2 p3
        have p1 : j ≤ q := p1
        have p2 : q ≤ K := p2
        cases r with
        | none =>
          obtain ⟨eq, hnum⟩ := n1 rfl
          have eq : q = j := eq
          have e : pCl C i = (q, none) := by
            unfold pCl pHd; rw [hd]
            show (match (match pNm C j with
              | (k, none) => (k, none)
              | (k, some n) => (k, some (w, n)) : Nat × Option (Nat × Nat)) with
              | (k, none) => (k, none)
              | (k, some (w, n)) => _ : Nat × Option ClT) = _
            rw [hn]
          rw [e]
          refine ⟨fun _ => ?_, fun x hx => (by cases hx)⟩
          have f3 : FpK N k c m (sS m2 38 0 (nI j)) := f2.tr (FpK_S N k c _ (by omega) _) (Nat.le_refl _) (Nat.le_refl _)
          obtain ⟨m', c1, c2, c3⟩ := mc_48F (m := sS m2 38 0 (nI j)) hN hk rfl (show j < 1000 by omega) ((TxM_K h f3).2.2.2.1) a59 (sS_s _ _ _ _) 0
          refine ⟨m', ?_, f3.tr c2 (Nat.le_refl _) (by omega), by rw [c3, eq]; exact sS_s _ _ _ _⟩
          rw [hnum, bnd_e]
          exact c1
        | some n =>
          have hnum := n2 n rfl
          have hnum : fX11_readNumber m2 = some (sS m2 37 0 (nI q), nI n) := hnum
          have n100 := (p3 n rfl).1
          have e : pCl C i = (if w < 3 then (if C q = 32 then match prs C 320 2 0 (q + 1) with
              | (j, none) => (j, none)
              | (j, some F) => (j, some (w, n, F)) else (q, none)) else (q, some (w, n, fun _ => false)) : Nat × Option ClT) := by
            have e1 : pHd C i = (q, some (w, n)) := by unfold pHd; rw [hd]; show (match pNm C j with | (k, none) => (k, none) | (k, some n) => (k, some (w, n))) = _; rw [hn]
            unfold pCl; rw [e1]
          rw [e, hnum, bnd_e]
          obtain ⟨m4, hm4⟩ : ∃ m4, sA1 (sA1 (sS m2 37 0 (nI q)) 61 0 (10 * N + k) (nI n)) 62 0 (10 * N + k) (nI c) = m4 := ⟨_, rfl⟩
          have f4 : FpK N k c m m4 := by
            rw [← hm4]
            exact ((f2.tr (FpK_S N k c m2 (by omega) (nI q)) (Nat.le_refl _) (Nat.le_refl _)).tr (FpK_A _ (by omega) (Nat.le_refl _) _) (Nat.le_refl _) (Nat.le_refl _)).tr (FpK_A _ (by omega) (Nat.le_refl _) _) (Nat.le_refl _) (Nat.le_refl _)
          have h4 := TxM_K h f4
          have b37 : m4.1 37 0 = nI q := by rw [← hm4]; show (sS m2 37 0 (nI q)).1 37 0 = nI q; exact sS_s _ _ _ _
          have b38 : m4.1 38 0 = -1 := by rw [← hm4]; show (sS m2 37 0 (nI q)).1 38 0 = -1; rw [sS_n _ _ (by omega)]; exact a38
          have b39 : m4.1 39 0 = nI c := by rw [← hm4]; show (sS m2 37 0 (nI q)).1 39 0 = _; rw [sS_n _ _ (by omega)]; exact a39
          have b59 : m4.2.1 59 0 N = nI k := by rw [← hm4, sA1_n _ _ (by omega), sA1_n _ _ (by omega)]; exact a59
          have b60 : m4.2.1 60 0 (10 * N + k) = nI w := by rw [← hm4, sA1_n _ _ (by omega), sA1_n _ _ (by omega)]; exact a60
          have b61 : m4.2.1 61 0 (10 * N + k) = nI n := by rw [← hm4, sA1_n _ _ (by omega), sA1_s, upd_s]
          have b62 : m4.2.1 62 0 (10 * N + k) = nI c := by rw [← hm4, sA1_s, upd_s]
          have r48 : fX11_clause_j48 (sS m2 37 0 (nI q)) (nI (10 * N + k)) (nI n) (nI (10 * N + k)) = if w < 3 then (bnd1 (fX11_takes m4 32) fun g_7 => (bnd1 (fX11_either fuelX11_both g_7 0) fun g_9 => (fX11_clause_j87 g_9 (nI (10 * N + k))))) else fX11_clause_j87 m4 (nI (10 * N + k)) := by
            unfold fX11_clause_j48
            rw [if_pos (inB_nI (n := 70) (k := 10 * N + k) (by omega) (by omega)), if_pos (inB_nI (n := 70) (k := 10 * N + k) (by omega) (by omega)), if_pos (inB_nI (n := 70) (k := 10 * N + k) (by omega) (by omega)), nI_c (k := 10 * N + k) (by omega), show (sA1 (sS m2 37 0 (nI q)) 61 0 (10 * N + k) (nI n)).1 39 0 = nI c from (show (sS m2 37 0 (nI q)).1 39 0 = nI c from (sS_n m2 (nI q) (by omega)).trans a39), hm4, b38, if_neg (by decide), b60]
            by_cases z : w < 3
            · rw [if_neg (show ¬ (2 : Int32) < nI w from nI_nlt (a := 2) (by omega) (by omega)), if_pos z]
            · rw [if_pos (show (2 : Int32) < nI w from nI_lt (a := 2) (by omega) (by omega)), if_neg z]
          rw [r48]
          by_cases z : w < 3
          · rw [if_pos z, if_pos z]
            have hh := m_here h4 p2 b37 b38 (b := 32) (by decide)
            unfold fX11_takes
            rw [hh, b_if]
            by_cases c32 : C q = 32
            · have kq := tx_in h.1 c32 (by decide)
              rw [if_pos c32, if_pos c32, bnd1_e, b37, nI_1]
              have f5 := FpK_S N k c m4 (a := 37) (by omega) (nI (q + 1))
              have h5 := TxM_K h4 f5
              obtain ⟨s1, s2⟩ := m_RD (C := C) (K := K) (N := N) 320 2 0 (q + 1) c (sS m4 37 0 (nI (q + 1))) (by omega) (by omega) (by omega) (by omega) (by omega) h5 (sS_s _ _ _ _) (by rw [sS_n _ _ (by omega)]; exact b38) (by rw [sS_n _ _ (by omega)]; exact b39)
              have s1 : _ → ∃ m' c', fX11_either fuelX11_both (sS m4 37 0 (nI (q + 1))) 0 = some m' ∧ _ := s1
              have s2 : ∀ F, _ → ∃ m' l, fX11_either fuelX11_both (sS m4 37 0 (nI (q + 1))) 0 = some m' ∧ _ := s2
              obtain ⟨d1, d2⟩ := prs_b h.1 320 2 0 (q + 1) (by omega)
              cases hp : prs C 320 2 0 (q + 1) with
              | mk u r =>
                rw [hp] at s1 s2 d1 d2
                have d1 : q + 1 ≤ u := d1
                have d2 : u ≤ K := d2
                cases r with
                | none =>
                  obtain ⟨m6, c6, g1, g2, g3, g4, g5, g6, g7⟩ := s1 rfl
                  have g4 : m6.1 38 0 = nI u := g4
                  have f6 := (f4.tr f5 (Nat.le_refl _) (Nat.le_refl _)).tr (FpK_M (k := k) g2 (Nat.le_refl _)) (Nat.le_refl _) (Nat.le_refl _)
                  obtain ⟨m7, v1, v2, v3, -⟩ := mc_87 (m := m6) hN hk rfl ((TxM_K h f6).2.2.2.1) ((congrFun (g2.2.1 59 0 (by omega) (by omega) (by omega) (by omega)) N).trans b59)
                  refine ⟨fun _ => ⟨m7, ?_, f6.tr v2 (Nat.le_refl _) (by omega), by rw [v3]; exact g4⟩, fun x hx => (by cases hx)⟩
                  rw [g1, bnd1_e]
                  exact v1
                | some F =>
                  obtain ⟨m6, l, g1, g2, g3, g4, g5, g6, g7, g8⟩ := s2 F rfl
                  have g6 : l.length + (q + 1) ≤ u := g6
                  have f6 := (f4.tr f5 (Nat.le_refl _) (Nat.le_refl _)).tr (FpK_M (k := k) g2 (Nat.le_refl _)) (Nat.le_refl _) (Nat.le_refl _)
                  have keep : ∀ a, a < 64 → m6.2.1 a 0 = m4.2.1 a 0 := fun a ha => g2.2.1 a 0 (by omega) (by omega) (by omega) (by omega)
                  obtain ⟨m7, v1, v2, v3, v4, v5, v6⟩ := mc_87 (m := m6) hN hk rfl ((TxM_K h f6).2.2.2.1) (by rw [keep 59 (by omega)]; exact b59)
                  refine ⟨fun hx => (by cases hx), fun x hx => ?_⟩
                  have hx : (w, n, F) = x := Option.some.inj hx
                  subst hx
                  refine ⟨m7, l, ?_, f6.tr v2 (Nat.le_refl _) (by omega), by rw [v3]; exact g3, by rw [v3]; exact g4, by rw [v3]; exact g5, by show c + l.length ≤ u; omega, v5, ?_, ?_, ?_, by rw [v4]; exact g5, fun _ => ⟨HdM_e (v6 64 (by omega) (by omega)) (v6 65 (by omega) (by omega)) (v6 66 (by omega) (by omega)) (v6 67 (by omega) (by omega)) l _ g7, g8⟩⟩
                  · rw [g1, bnd1_e]
                    exact v1
                  · rw [v6 60 (by omega) (by omega), keep 60 (by omega)]; exact b60
                  · rw [v6 61 (by omega) (by omega), keep 61 (by omega)]; exact b61
                  · rw [v6 62 (by omega) (by omega), keep 62 (by omega)]; exact b62
            · rw [if_neg c32, if_neg c32, m_faulty b38 b37, bnd1_e, bnd1_e]
              have f5 := FpK_S N k c m4 (a := 38) (by omega) (nI q)
              have f6 := f4.tr f5 (Nat.le_refl _) (Nat.le_refl _)
              obtain ⟨m7, v1, v2, v3, -⟩ := mc_87 (m := sS m4 38 0 (nI q)) hN hk rfl ((TxM_K h f6).2.2.2.1) b59
              refine ⟨fun _ => ⟨m7, ?_, f6.tr v2 (Nat.le_refl _) (by omega), by rw [v3]; exact sS_s _ _ _ _⟩, fun x hx => (by cases hx)⟩
              rw [m_eitherF (show q < 1000 by omega) (sS_s _ _ _ _), bnd1_e]
              exact v1
          · rw [if_neg z, if_neg z]
            obtain ⟨m7, v1, v2, v3, v4, v5, v6⟩ := mc_87 (m := m4) hN hk rfl h4.2.2.2.1 b59
            refine ⟨fun hx => (by cases hx), fun x hx => ?_⟩
            have hx : (w, n, fun _ => false) = x := Option.some.inj hx
            subst hx
            refine ⟨m7, [], v1, f4.tr v2 (Nat.le_refl _) (by omega), by rw [v3]; exact b37, by rw [v3]; exact b38, by rw [v3]; exact b39, by show c + 0 ≤ q; omega, v5, by rw [v6 60 (by omega) (by omega)]; exact b60, by rw [v6 61 (by omega) (by omega)]; exact b61, by rw [v6 62 (by omega) (by omega)]; exact b62, by rw [v4]; exact b39, fun hw => absurd hw z⟩
end MC
