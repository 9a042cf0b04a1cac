/-! PURE: the image -/
theorem sS_sS (g : STt) (c i : Nat) (v v' : Int32) : sS (sS g c i v) c i v' = sS g c i v' := by
  obtain ⟨a, b⟩ := g
  refine congrArg (fun q => (q, b)) ?_
  funext c' i'
  show (if c' = c ∧ i' = i then v' else if c' = c ∧ i' = i then v else a c' i') = (if c' = c ∧ i' = i then v' else a c' i')
  by_cases h : c' = c ∧ i' = i
  · rw [if_pos h, if_pos h]
  · rw [if_neg h, if_neg h, if_neg h]
theorem cpN_0 (A B : Nat → Int32) : cpN A B 0 = B := funext fun j => if_neg (by omega)
theorem cpN_in (A B : Nat → Int32) {n k : Nat} (h : k < n) : cpN A B n k = A k := if_pos h
/-- a strip becomes another one -/
theorem c_strip {g : STt} {d e n K : Nat} (hde : d ≠ e) (hn : n ≤ 100) (hd : lnS d = n) (he : lnS e = n) (hK : g.1 20 e = nI K) (hKn : K ≤ n) : fX5_become g d e = some (sS (sA g 21 d (cpN (g.2.1 21 e) (g.2.1 21 d) K)) 20 d (nI K)) := by
  have key : ∀ (fu i : Nat), i ≤ K → K - i < fu → iterO (fun Kk z => fX5_become_l6c Kk d e z.1 z.2) fu (sS (sA g 21 d (cpN (g.2.1 21 e) (g.2.1 21 d) i)) 20 d (nI i), nI i) = some (sS (sA g 21 d (cpN (g.2.1 21 e) (g.2.1 21 d) K)) 20 d (nI K)) := by
    intro fu
    induction fu with
    | zero => intro i h1 h2; omega
    | succ fu ih =>
      intro i h1 h2
      rw [iterO_succ]
      generalize iterO (fun Kk z => fX5_become_l6c Kk d e z.1 z.2) fu = Kk at ih ⊢
      show fX5_become_l6c Kk d e (sS (sA g 21 d (cpN (g.2.1 21 e) (g.2.1 21 d) i)) 20 d (nI i)) (nI i) = _
      have s20 : (sS (sA g 21 d (cpN (g.2.1 21 e) (g.2.1 21 d) i)) 20 d (nI i)).1 20 e = nI K := by
        rw [sS_n _ _ (by omega)]; exact hK
      unfold fX5_become_l6c fX5_size
      rw [bnd1_e, s20]
      by_cases c : i = K
      · rw [c, if_pos (nI_le (Nat.le_refl K) (by omega))]
      · rw [if_neg (nI_ge (by omega) (by omega)), eX5_get he hn s20 hKn, bnd1_e, if_pos (inB_nI (by omega) (by omega)), nI_c (by omega), eX5_add hd hn (sS_s _ _ _ _) (by omega), if_pos (by omega), bnd_e]
        have e1 : (sS (sA g 21 d (cpN (g.2.1 21 e) (g.2.1 21 d) i)) 20 d (nI i)).2.1 21 e i = g.2.1 21 e i := by
          show (sA g 21 d (cpN (g.2.1 21 e) (g.2.1 21 d) i)).2.1 21 e i = _
          rw [sA_n _ _ (by omega)]
        have e2 : sS (sA1 (sS (sA g 21 d (cpN (g.2.1 21 e) (g.2.1 21 d) i)) 20 d (nI i)) 21 d i (g.2.1 21 e i)) 20 d (nI (i + 1)) = sS (sA g 21 d (cpN (g.2.1 21 e) (g.2.1 21 d) (i + 1))) 20 d (nI (i + 1)) := by
          show sS (sS (sA1 (sA g 21 d (cpN (g.2.1 21 e) (g.2.1 21 d) i)) 21 d i (g.2.1 21 e i)) 20 d (nI i)) 20 d (nI (i + 1)) = _
          rw [sS_sS, sA1_sA, cpN_up]
        rw [e1, e2, nI_1]
        exact ih (i + 1) (by omega) (by omega)
  have h := key fuelN 0 (by omega) (by show K - 0 < 5000; omega)
  rw [cpN_0, sA_id] at h
  exact h
/-- a moment becomes another one -/
theorem c_moment {g : STt} {a b K1 K2 K3 : Nat} (hab : (a = 0 ∧ b = 1) ∨ (a = 1 ∧ b = 0)) (h1 : g.1 20 (1 + 3 * b) = nI K1) (h2 : g.1 20 (2 + 3 * b) = nI K2) (h3 : g.1 20 (3 + 3 * b) = nI K3) (k1 : K1 ≤ 12) (k2 : K2 ≤ 12) (k3 : K3 ≤ 4) : ∃ g', fX3_become g a b = some g' ∧ IsX (g'.2.1 22 a) (g.2.1 22 b) ∧ g'.1 20 (1 + 3 * a) = nI K1 ∧ g'.1 20 (2 + 3 * a) = nI K2 ∧ g'.1 20 (3 + 3 * a) = nI K3 ∧ (∀ k, k < K1 → g'.2.1 21 (1 + 3 * a) k = g.2.1 21 (1 + 3 * b) k) ∧ (∀ k, k < K2 → g'.2.1 21 (2 + 3 * a) k = g.2.1 21 (2 + 3 * b) k) ∧ (∀ k, k < K3 → g'.2.1 21 (3 + 3 * a) k = g.2.1 21 (3 + 3 * b) k) ∧ g'.1 18 a = g.1 18 b ∧ g'.1 19 a = g.1 19 b ∧ (∀ c i, ¬ (c = 20 ∧ (i = 1 + 3 * a ∨ i = 2 + 3 * a ∨ i = 3 + 3 * a)) → ¬ ((c = 18 ∨ c = 19) ∧ i = a) → g'.1 c i = g.1 c i) ∧ (∀ c i, ¬ (c = 21 ∧ (i = 1 + 3 * a ∨ i = 2 + 3 * a ∨ i = 3 + 3 * a)) → ¬ (c = 22 ∧ i = a) → g'.2.1 c i = g.2.1 c i) ∧ g'.2.2 = g.2.2 := by
  have hne : a ≠ b := by omega
  have l1 : lnS (1 + 3 * a) = 12 ∧ lnS (1 + 3 * b) = 12 := by rcases hab with ⟨rfl, rfl⟩ | ⟨rfl, rfl⟩ <;> exact ⟨rfl, rfl⟩
  have l2 : lnS (2 + 3 * a) = 12 ∧ lnS (2 + 3 * b) = 12 := by rcases hab with ⟨rfl, rfl⟩ | ⟨rfl, rfl⟩ <;> exact ⟨rfl, rfl⟩
  have l3 : lnS (3 + 3 * a) = 4 ∧ lnS (3 + 3 * b) = 4 := by rcases hab with ⟨rfl, rfl⟩ | ⟨rfl, rfl⟩ <;> exact ⟨rfl, rfl⟩
  unfold fX3_become
  rw [e_become, bnd1_e]
  generalize hY : cpY (g.2.1 22 b) (g.2.1 22 a) = Y
  have hYi : IsX Y (g.2.1 22 b) := by rw [← hY]; exact cpY_is _ _
  rw [c_strip (g := sA g 22 a Y) (by omega) (by omega) l1.1 l1.2 h1 k1, bnd1_e]
  generalize hf1 : cpN ((sA g 22 a Y).2.1 21 (1 + 3 * b)) ((sA g 22 a Y).2.1 21 (1 + 3 * a)) K1 = f1
  have q1 : ∀ k, k < K1 → f1 k = g.2.1 21 (1 + 3 * b) k := fun k hk => by
    rw [← hf1, cpN_in _ _ hk, sA_n _ _ (by omega)]
  rw [c_strip (g := sS (sA (sA g 22 a Y) 21 (1 + 3 * a) f1) 20 (1 + 3 * a) (nI K1)) (K := K2) (by omega) (by omega) l2.1 l2.2 (by rw [sS_n _ _ (by omega)]; exact h2) k2, bnd1_e]
  generalize hf2 : cpN ((sS (sA (sA g 22 a Y) 21 (1 + 3 * a) f1) 20 (1 + 3 * a) (nI K1)).2.1 21 (2 + 3 * b)) ((sS (sA (sA g 22 a Y) 21 (1 + 3 * a) f1) 20 (1 + 3 * a) (nI K1)).2.1 21 (2 + 3 * a)) K2 = f2
  have q2 : ∀ k, k < K2 → f2 k = g.2.1 21 (2 + 3 * b) k := fun k hk => by
    rw [← hf2, cpN_in _ _ hk]
    show (sA (sA g 22 a Y) 21 (1 + 3 * a) f1).2.1 21 (2 + 3 * b) k = _
    rw [sA_n _ _ (by omega), sA_n _ _ (by omega)]
  rw [c_strip (g := sS (sA (sS (sA (sA g 22 a Y) 21 (1 + 3 * a) f1) 20 (1 + 3 * a) (nI K1)) 21 (2 + 3 * a) f2) 20 (2 + 3 * a) (nI K2)) (K := K3) (by omega) (by omega) l3.1 l3.2 (by rw [sS_n _ _ (by omega)]; show (sS (sA (sA g 22 a Y) 21 (1 + 3 * a) f1) 20 (1 + 3 * a) (nI K1)).1 20 (3 + 3 * b) = _; rw [sS_n _ _ (by omega)]; exact h3) k3, bnd1_e]
  generalize hf3 : cpN ((sS (sA (sS (sA (sA g 22 a Y) 21 (1 + 3 * a) f1) 20 (1 + 3 * a) (nI K1)) 21 (2 + 3 * a) f2) 20 (2 + 3 * a) (nI K2)).2.1 21 (3 + 3 * b)) ((sS (sA (sS (sA (sA g 22 a Y) 21 (1 + 3 * a) f1) 20 (1 + 3 * a) (nI K1)) 21 (2 + 3 * a) f2) 20 (2 + 3 * a) (nI K2)).2.1 21 (3 + 3 * a)) K3 = f3
  have q3 : ∀ k, k < K3 → f3 k = g.2.1 21 (3 + 3 * b) k := fun k hk => by
    rw [← hf3, cpN_in _ _ hk]
    show (sA (sA (sA g 22 a Y) 21 (1 + 3 * a) f1) 21 (2 + 3 * a) f2).2.1 21 (3 + 3 * b) k = _
    rw [sA_n _ _ (by omega), sA_n _ _ (by omega), sA_n _ _ (by omega)]
  have A1 : ∀ (c i : Nat), (sA (sA (sA (sA g 22 a Y) 21 (1 + 3 * a) f1) 21 (2 + 3 * a) f2) 21 (3 + 3 * a) f3).2.1 c i = if c = 21 ∧ i = 3 + 3 * a then f3 else if c = 21 ∧ i = 2 + 3 * a then f2 else if c = 21 ∧ i = 1 + 3 * a then f1 else if c = 22 ∧ i = a then Y else g.2.1 c i := fun _ _ => rfl
  have S1 : ∀ (c i : Nat), ((sS (sA (sS (sA (sS (sA (sA g 22 a Y) 21 (1 + 3 * a) f1) 20 (1 + 3 * a) (nI K1)) 21 (2 + 3 * a) f2) 20 (2 + 3 * a) (nI K2)) 21 (3 + 3 * a) f3) 20 (3 + 3 * a) (nI K3))).1 c i = if c = 20 ∧ i = 3 + 3 * a then nI K3 else if c = 20 ∧ i = 2 + 3 * a then nI K2 else if c = 20 ∧ i = 1 + 3 * a then nI K1 else g.1 c i := fun _ _ => rfl
  generalize hz : (sS (sA (sS (sA (sS (sA (sA g 22 a Y) 21 (1 + 3 * a) f1) 20 (1 + 3 * a) (nI K1)) 21 (2 + 3 * a) f2) 20 (2 + 3 * a) (nI K2)) 21 (3 + 3 * a) f3) 20 (3 + 3 * a) (nI K3)) = z at S1 ⊢
  have A2 : ∀ (c i : Nat), z.2.1 c i = if c = 21 ∧ i = 3 + 3 * a then f3 else if c = 21 ∧ i = 2 + 3 * a then f2 else if c = 21 ∧ i = 1 + 3 * a then f1 else if c = 22 ∧ i = a then Y else g.2.1 c i := by
    rw [← hz]; exact A1
  have W2 : z.2.2 = g.2.2 := by rw [← hz]; rfl
  have T : ∀ c i, (sS (sS z 18 a (z.1 18 b)) 19 a ((sS z 18 a (z.1 18 b)).1 19 b)).1 c i = if c = 19 ∧ i = a then g.1 19 b else if c = 18 ∧ i = a then g.1 18 b else z.1 c i := by
    intro c i
    have u1 : z.1 18 b = g.1 18 b := by rw [S1, if_neg (by omega), if_neg (by omega), if_neg (by omega)]
    have u2 : (sS z 18 a (z.1 18 b)).1 19 b = g.1 19 b := by
      rw [sS_n _ _ (by omega), S1, if_neg (by omega), if_neg (by omega), if_neg (by omega)]
    rw [u2, u1]
    rfl
  refine ⟨_, rfl, ?_, ?_, ?_, ?_, ?_, ?_, ?_, ?_, ?_, ?_, ?_, W2⟩
  · show IsX (z.2.1 22 a) _
    rw [A2, if_neg (by omega), if_neg (by omega), if_neg (by omega), if_pos ⟨rfl, rfl⟩]; exact hYi
  · rw [T, if_neg (by omega), if_neg (by omega), S1, if_neg (by omega), if_neg (by omega), if_pos ⟨rfl, rfl⟩]
  · rw [T, if_neg (by omega), if_neg (by omega), S1, if_neg (by omega), if_pos ⟨rfl, rfl⟩]
  · rw [T, if_neg (by omega), if_neg (by omega), S1, if_pos ⟨rfl, rfl⟩]
  · intro k hk
    show z.2.1 21 (1 + 3 * a) k = _
    rw [A2, if_neg (by omega), if_neg (by omega), if_pos ⟨rfl, rfl⟩]; exact q1 k hk
  · intro k hk
    show z.2.1 21 (2 + 3 * a) k = _
    rw [A2, if_neg (by omega), if_pos ⟨rfl, rfl⟩]; exact q2 k hk
  · intro k hk
    show z.2.1 21 (3 + 3 * a) k = _
    rw [A2, if_pos ⟨rfl, rfl⟩]; exact q3 k hk
  · rw [T, if_neg (by omega), if_pos ⟨rfl, rfl⟩]
  · rw [T, if_pos ⟨rfl, rfl⟩]
  · intro c i hc1 hc2
    rw [T, if_neg (by omega), if_neg (by omega), S1, if_neg (by omega), if_neg (by omega), if_neg (by omega)]
  · intro c i hc1 hc2
    show z.2.1 c i = _
    rw [A2, if_neg (by omega), if_neg (by omega), if_neg (by omega), if_neg (by omega)]
