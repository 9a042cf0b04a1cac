/-! PURE: a clause; the model reads one -/
def pCl (C : Nat → Int32) (i : Nat) : Nat × Option ClT := match pHd C i with
  | (k, none) => (k, none)
  | (k, some (w, n)) => if w < 3 then (if C k = 32 then match prs C 320 2 0 (k + 1) with
      | (j, none) => (j, none)
      | (j, some F) => (j, some (w, n, F)) else (k, none)) else (k, some (w, n, fun _ => false))
def FpK (N k c : Nat) (m m' : STt) : Prop := (∀ a i, a ≠ 37 → a ≠ 38 → a ≠ 39 → m'.1 a i = m.1 a i) ∧ (∀ a i, a < 59 ∨ 67 < a → m'.2.1 a i = m.2.1 a i) ∧ (∀ j, j ≠ N → m'.2.1 59 0 j = m.2.1 59 0 j) ∧ (∀ a j, 60 ≤ a → a ≤ 63 → j < 10 * N + k → m'.2.1 a 0 j = m.2.1 a 0 j) ∧ (∀ a j, 64 ≤ a → a ≤ 67 → j < 100 * N + c → m'.2.1 a 0 j = m.2.1 a 0 j) ∧ m'.2.2 = m.2.2
theorem FpK.tr {N k c k' c' : Nat} {m m' m'' : STt} (h : FpK N k c m m') (h' : FpK N k' c' m' m'') (hk : k ≤ k') (hc : c ≤ c') : FpK N k c m m'' := ⟨fun a i p q r => (h'.1 a i p q r).trans (h.1 a i p q r), fun a i p => (h'.2.1 a i p).trans (h.2.1 a i p), fun j p => (h'.2.2.1 j p).trans (h.2.2.1 j p), fun a j p q r => (h'.2.2.2.1 a j p q (by omega)).trans (h.2.2.2.1 a j p q r), fun a j p q r => (h'.2.2.2.2.1 a j p q (by omega)).trans (h.2.2.2.2.1 a j p q r), h'.2.2.2.2.2.trans h.2.2.2.2.2⟩
theorem FpK_S (N k c : Nat) (m : STt) {a : Nat} (ha : a = 37 ∨ a = 38 ∨ a = 39) (v : Int32) : FpK N k c m (sS m a 0 v) := ⟨fun a' i h1 h2 h3 => sS_n _ _ (by omega), fun _ _ _ => rfl, fun _ _ => rfl, fun _ _ _ _ _ => rfl, fun _ _ _ _ _ => rfl, rfl⟩
theorem FpK_M {N k c e : Nat} {m m' : STt} (h : FpM e m m') (he : 100 * N + c ≤ e) : FpK N k c m m' := ⟨h.1, fun a i p => h.2.1 a i (by omega) (by omega) (by omega) (by omega), fun j p => congrFun (h.2.1 59 0 (by omega) (by omega) (by omega) (by omega)) j, fun a j p q r => congrFun (h.2.1 a 0 (by omega) (by omega) (by omega) (by omega)) j, fun a j p q r => h.2.2.1 a j p q (by omega), h.2.2.2⟩
theorem FpK_A {N k c R a : Nat} (m : STt) (ha : 60 ≤ a ∧ a ≤ 63) (hR : 10 * N + k ≤ R) (v : Int32) : FpK N k c m (sA1 m a 0 R v) := ⟨fun _ _ _ _ _ => rfl, fun a' i p => sA1_n _ _ (by omega), fun j p => congrFun (sA1_n m (c' := 59) (i' := 0) v (by omega)) j, fun a' j p q r => by
  by_cases e : a' = a
  · subst e; rw [sA1_s, upd_n _ _ (by omega)]
  · rw [sA1_n _ _ (by omega)], fun a' j p q r => congrFun (sA1_n m (c' := a') (i' := 0) v (by omega)) j, rfl⟩
theorem FpK_9 (N k c : Nat) (m : STt) (v : Int32) : FpK N k c m (sA1 m 59 0 N v) := ⟨fun _ _ _ _ _ => rfl, fun a' i p => sA1_n _ _ (by omega), fun j p => by rw [sA1_s, upd_n _ _ p], fun a' j p q r => congrFun (sA1_n m (c' := a') (i' := 0) v (by omega)) j, fun a' j p q r => congrFun (sA1_n m (c' := a') (i' := 0) v (by omega)) j, rfl⟩
theorem TxM_K {N k c K : Nat} {C : Nat → Int32} {m m' : STt} (h : TxM m K N C) (hF : FpK N k c m m') : TxM m' K N C := ⟨h.1, (hF.1 34 0 (by omega) (by omega) (by omega)).trans h.2.1, fun i hi => (congrFun (hF.2.1 58 0 (by omega)) i).trans (h.2.2.1 i hi), (hF.1 35 0 (by omega) (by omega) (by omega)).trans h.2.2.2.1, h.2.2.2.2⟩
theorem m_eitherF {j : Nat} {m : STt} (hj : j < 1000) (h38 : m.1 38 0 = nI j) : fX11_either fuelX11_both m 0 = some m := by
  have one : ∀ qB qE qO, FX11_one qB qE qO m 0 = some m := by
    intro qB qE qO
    unfold FX11_one
    rw [h38, if_neg (nI_pos (show j < 2 ^ 31 by omega))]
  have both : ∀ qB qE n, FX11_both qB qE (FX11_one ((RGX11_both n).1) ((RGX11_both n).2.1) ((RGX11_both n).2.2)) m 0 = some m := by
    intro qB qE n
    unfold FX11_both
    rw [one, bnd1_e, m_hereF hj h38, bnd1_e, if_pos rfl]
  show FX11_either (FX11_both ((RGX11_both 318).1) ((RGX11_both 318).2.1) (FX11_one ((RGX11_both 317).1) ((RGX11_both 317).2.1) ((RGX11_both 317).2.2))) ((RGX11_both 319).2.1) ((RGX11_both 319).2.2) m 0 = some m
  unfold FX11_either
  rw [both, bnd1_e, m_hereF hj h38, bnd1_e, if_pos rfl]
section MC
variable {m : STt} {K N i c k : Nat} {C : Nat → Int32}
/-- the clause's end is kept -/
theorem mc_87 {R : Nat} (hN : N < 6) (hk : k < 10) (hR : 10 * N + k = R) (h35 : m.1 35 0 = nI N) (h59 : m.2.1 59 0 N = nI k) : ∃ m', fX11_clause_j87 m (nI R) = some m' ∧ FpK N k 100 m m' ∧ m'.1 = m.1 ∧ m'.2.1 63 0 R = m.1 39 0 ∧ m'.2.1 59 0 N = nI (k + 1) ∧ (∀ a, a ≠ 59 → a ≠ 63 → m'.2.1 a 0 = m.2.1 a 0) := by
  refine ⟨sA1 (sA1 m 63 0 R (m.1 39 0)) 59 0 N (nI (k + 1)), ?_, (FpK_A m (c := 100) (by omega) (by omega) _).tr (FpK_9 N k 100 _ _) (Nat.le_refl _) (Nat.le_refl _), rfl, ?_, ?_, fun a a1 a2 => ?_⟩
  · unfold fX11_clause_j87
    rw [if_pos (inB_nI (n := 70) (k := R) (by omega) (by omega)), nI_c (k := R) (by omega), show (sA1 m 63 0 R (m.1 39 0)).1 35 0 = nI N from h35, if_pos (inB_nI (n := 7) (k := N) (by omega) (by omega)), if_pos (inB_nI (n := 7) (k := N) (by omega) (by omega)), nI_c (k := N) (by omega), show (sA1 m 63 0 R (m.1 39 0)).2.1 59 0 = m.2.1 59 0 from sA1_n _ _ (by omega), h59, nI_1]
  · rw [sA1_n _ _ (by omega), sA1_s, upd_s]
  · rw [sA1_s, upd_s]
  · rw [sA1_n _ _ (by omega), sA1_n _ _ (by omega)]
/-- a clause that is at fault -/
theorem mc_48F {R s j : Nat} (hN : N < 6) (hk : k < 10) (hR : 10 * N + k = R) (hj : j < 1000) (h35 : m.1 35 0 = nI N) (h59 : m.2.1 59 0 N = nI k) (h38 : m.1 38 0 = nI j) (v : Int32) : ∃ m', fX11_clause_j48 m (nI R) v (nI R) = some m' ∧ FpK N k 100 m m' ∧ m'.1 = m.1 := by
  have f1 := FpK_A (N := N) (k := k) (c := 100) (R := R) m (a := 61) (by omega) (by omega) v
  have f2 := FpK_A (N := N) (k := k) (c := 100) (R := R) (sA1 m 61 0 R v) (a := 62) (by omega) (by omega) (m.1 39 0)
  obtain ⟨m', a1, a2, a3, -⟩ := mc_87 (m := sA1 (sA1 m 61 0 R v) 62 0 R (m.1 39 0)) hN hk hR h35 (by rw [sA1_n _ _ (by omega), sA1_n _ _ (by omega)]; exact h59)
  refine ⟨m', ?_, (f1.tr f2 (Nat.le_refl _) (Nat.le_refl _)).tr a2 (Nat.le_refl _) (Nat.le_refl _), a3⟩
  unfold fX11_clause_j48
  rw [if_pos (inB_nI (n := 70) (k := R) (by omega) (by omega)), if_pos (inB_nI (n := 70) (k := R) (by omega) (by omega)), nI_c (k := R) (by omega), show (sA1 m 61 0 R v).1 39 0 = m.1 39 0 from rfl, show (sA1 (sA1 m 61 0 R v) 62 0 R (m.1 39 0)).1 38 0 = nI j from h38, if_pos (nI_pos' (by omega))]
  exact a1
end MC
