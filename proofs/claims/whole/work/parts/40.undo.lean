/-! PURE: image, undo -/
theorem sA_cm (g : STt) {c i c' i' : Nat} (f f' : Nat → Int32) (h : ¬ (c' = c ∧ i' = i)) : sA (sA g c i f) c' i' f' = sA (sA g c' i' f') c i f := by
  refine st_ext rfl (fun d j => ?_) rfl
  show (if d = c' ∧ j = i' then f' else if d = c ∧ j = i then f else g.2.1 d j) = (if d = c ∧ j = i then f else if d = c' ∧ j = i' then f' else g.2.1 d j)
  by_cases e : d = c' ∧ j = i'
  · rw [if_pos e, if_neg (by omega), if_pos e]
  · rw [if_neg e, if_neg (c := d = c' ∧ j = i') e]
theorem sA1_in (g : STt) {c i c' i' : Nat} (h' : Nat → Int32) (k : Nat) (v : Int32) (h : ¬ (c' = c ∧ i' = i)) : sA1 (sA g c' i' h') c i k v = sA (sA1 g c i k v) c' i' h' := by
  unfold sA1
  rw [sA_n _ _ (by omega), sA_cm _ _ _ (by omega)]
theorem image_a (m : STt) (B : Nat → Int32) : ∀ (fu k : Nat), k ≤ 15 → 15 - k < fu → iterO (fun K z => fX11_image_l47c K z.1 z.2) fu (sA m 78 0 (cpN (m.2.1 57 0) B k), nI k) = fX11_image_l73 (sA m 78 0 (cpN (m.2.1 57 0) B 15)) 0 := by
  intro fu
  induction fu with
  | zero => intro k h1 h2; omega
  | succ fu ih =>
    intro k h1 h2
    rw [iterO_succ]
    generalize iterO (fun K z => fX11_image_l47c K z.1 z.2) fu = K at ih ⊢
    show fX11_image_l47c K (sA m 78 0 (cpN (m.2.1 57 0) B k)) (nI k) = _
    unfold fX11_image_l47c
    by_cases c : k = 15
    · subst c; rw [if_pos (by decide)]
    · rw [if_neg (show ¬ (15 : Int32) ≤ nI k from nI_ge (b := 15) (by omega) (by omega)), if_pos (inB_nI (by omega) (by omega)), if_pos (inB_nI (by omega) (by omega)), nI_c (by omega), nI_1, sA1_sA, sA_n _ _ (by omega), cpN_up]
      exact ih (k + 1) (by omega) (by omega)
theorem image_b (m : STt) (B C : Nat → Int32) : ∀ (fu k : Nat), k ≤ 12 → 12 - k < fu → iterO (fun K z => fX11_image_l73c K z.1 z.2) fu (sA (sA m 79 0 (cpN (m.2.1 70 0) B k)) 80 0 (cpN (m.2.1 73 0) C k), nI k) = fX11_image_l111 (sA (sA m 79 0 (cpN (m.2.1 70 0) B 12)) 80 0 (cpN (m.2.1 73 0) C 12)) 0 := by
  intro fu
  induction fu with
  | zero => intro k h1 h2; omega
  | succ fu ih =>
    intro k h1 h2
    rw [iterO_succ]
    generalize iterO (fun K z => fX11_image_l73c K z.1 z.2) fu = K at ih ⊢
    show fX11_image_l73c K (sA (sA m 79 0 (cpN (m.2.1 70 0) B k)) 80 0 (cpN (m.2.1 73 0) C k)) (nI k) = _
    unfold fX11_image_l73c
    by_cases c : k = 12
    · subst c; rw [if_pos (by decide)]
    · rw [if_neg (show ¬ (12 : Int32) ≤ nI k from nI_ge (b := 12) (by omega) (by omega)), if_pos (inB_nI (by omega) (by omega)), if_pos (inB_nI (by omega) (by omega)), if_pos (inB_nI (by omega) (by omega)), if_pos (inB_nI (by omega) (by omega)), nI_c (by omega), nI_1, sA1_in _ _ _ _ (by omega), sA1_sA, sA1_sA, sA_n _ _ (by omega), sA_n _ _ (by omega), sA_n _ _ (by omega), sA_n _ _ (by omega), cpN_up, cpN_up]
      exact ih (k + 1) (by omega) (by omega)
theorem image_c (m : STt) (B : Nat → Int32) : ∀ (fu k : Nat), k ≤ 4 → 4 - k < fu → iterO (fun K z => fX11_image_l111c K z.1 z.2) fu (sA m 81 0 (cpN (m.2.1 72 0) B k), nI k) = some (sA m 81 0 (cpN (m.2.1 72 0) B 4), m.2.1 57 0 12) := by
  intro fu
  induction fu with
  | zero => intro k h1 h2; omega
  | succ fu ih =>
    intro k h1 h2
    rw [iterO_succ]
    generalize iterO (fun K z => fX11_image_l111c K z.1 z.2) fu = K at ih ⊢
    show fX11_image_l111c K (sA m 81 0 (cpN (m.2.1 72 0) B k)) (nI k) = _
    unfold fX11_image_l111c
    by_cases c : k = 4
    · subst c; rw [if_pos (by decide), if_pos i15_12, tn12, sA_n _ _ (by omega)]
    · rw [if_neg (show ¬ (4 : Int32) ≤ nI k from nI_ge (b := 4) (by omega) (by omega)), if_pos (inB_nI (by omega) (by omega)), if_pos (inB_nI (by omega) (by omega)), nI_c (by omega), nI_1, sA1_sA, sA_n _ _ (by omega), cpN_up]
      exact ih (k + 1) (by omega) (by omega)
theorem image_all (m : STt) : fX11_image_l47 m 0 = some (sA (sA (sA (sA m 78 0 (cpN (m.2.1 57 0) (m.2.1 78 0) 15)) 79 0 (cpN (m.2.1 70 0) (m.2.1 79 0) 12)) 80 0 (cpN (m.2.1 73 0) (m.2.1 80 0) 12)) 81 0 (cpN (m.2.1 72 0) (m.2.1 81 0) 4), (sA m 78 0 (cpN (m.2.1 57 0) (m.2.1 78 0) 15)).2.1 57 0 12) := by
  have h1 := image_a m (m.2.1 78 0) fuelN 0 (by omega) (by show 15 - 0 < 5000; omega)
  rw [cpN_0, sA_id] at h1
  generalize hm1 : sA m 78 0 (cpN (m.2.1 57 0) (m.2.1 78 0) 15) = m1 at h1 ⊢
  have n1 : ∀ c, c ≠ 78 → m1.2.1 c 0 = m.2.1 c 0 := fun c hc => by rw [← hm1, sA_n _ _ (by omega)]
  have h2 := image_b m1 (m1.2.1 79 0) (m1.2.1 80 0) fuelN 0 (by omega) (by show 12 - 0 < 5000; omega)
  rw [cpN_0, cpN_0, sA_id, sA_id] at h2
  rw [n1 70 (by omega), n1 79 (by omega), n1 73 (by omega), n1 80 (by omega)] at h2
  generalize hm2 : sA (sA m1 79 0 (cpN (m.2.1 70 0) (m.2.1 79 0) 12)) 80 0 (cpN (m.2.1 73 0) (m.2.1 80 0) 12) = m2 at h2 ⊢
  have n2 : ∀ c, c ≠ 78 → c ≠ 79 → c ≠ 80 → m2.2.1 c 0 = m.2.1 c 0 := fun c hc hc2 hc3 => by rw [← hm2, sA_n _ _ (by omega), sA_n _ _ (by omega)]; exact n1 c hc
  have n3 : m2.2.1 57 0 = m1.2.1 57 0 := by rw [← hm2, sA_n _ _ (by omega), sA_n _ _ (by omega)]
  have h3 := image_c m2 (m2.2.1 81 0) fuelN 0 (by omega) (by show 4 - 0 < 5000; omega)
  rw [cpN_0, sA_id] at h3
  rw [n2 72 (by omega) (by omega) (by omega), n2 81 (by omega) (by omega) (by omega), n3] at h3
  exact h1.trans (h2.trans h3)
theorem undo_a (m : STt) (B : Nat → Int32) : ∀ (fu k : Nat), k ≤ 15 → 15 - k < fu → iterO (fun K z => fX11_undo_l52c K z.1 z.2) fu (sA m 57 0 (cpN (m.2.1 78 0) B k), nI k) = fX11_undo_l78 (sA m 57 0 (cpN (m.2.1 78 0) B 15)) 0 := by
  intro fu
  induction fu with
  | zero => intro k h1 h2; omega
  | succ fu ih =>
    intro k h1 h2
    rw [iterO_succ]
    generalize iterO (fun K z => fX11_undo_l52c K z.1 z.2) fu = K at ih ⊢
    show fX11_undo_l52c K (sA m 57 0 (cpN (m.2.1 78 0) B k)) (nI k) = _
    unfold fX11_undo_l52c
    by_cases c : k = 15
    · subst c; rw [if_pos (by decide)]
    · rw [if_neg (show ¬ (15 : Int32) ≤ nI k from nI_ge (b := 15) (by omega) (by omega)), if_pos (inB_nI (by omega) (by omega)), if_pos (inB_nI (by omega) (by omega)), nI_c (by omega), nI_1, sA1_sA, sA_n _ _ (by omega), cpN_up]
      exact ih (k + 1) (by omega) (by omega)
theorem undo_b (m : STt) (B C : Nat → Int32) : ∀ (fu k : Nat), k ≤ 12 → 12 - k < fu → iterO (fun K z => fX11_undo_l78c K z.1 z.2) fu (sA (sA m 70 0 (cpN (m.2.1 79 0) B k)) 73 0 (cpN (m.2.1 80 0) C k), nI k) = fX11_undo_l116 (sA (sA m 70 0 (cpN (m.2.1 79 0) B 12)) 73 0 (cpN (m.2.1 80 0) C 12)) 0 := by
  intro fu
  induction fu with
  | zero => intro k h1 h2; omega
  | succ fu ih =>
    intro k h1 h2
    rw [iterO_succ]
    generalize iterO (fun K z => fX11_undo_l78c K z.1 z.2) fu = K at ih ⊢
    show fX11_undo_l78c K (sA (sA m 70 0 (cpN (m.2.1 79 0) B k)) 73 0 (cpN (m.2.1 80 0) C k)) (nI k) = _
    unfold fX11_undo_l78c
    by_cases c : k = 12
    · subst c; rw [if_pos (by decide)]
    · rw [if_neg (show ¬ (12 : Int32) ≤ nI k from nI_ge (b := 12) (by omega) (by omega)), if_pos (inB_nI (by omega) (by omega)), if_pos (inB_nI (by omega) (by omega)), if_pos (inB_nI (by omega) (by omega)), if_pos (inB_nI (by omega) (by omega)), nI_c (by omega), nI_1, sA1_in _ _ _ _ (by omega), sA1_sA, sA1_sA, sA_n _ _ (by omega), sA_n _ _ (by omega), sA_n _ _ (by omega), sA_n _ _ (by omega), cpN_up, cpN_up]
      exact ih (k + 1) (by omega) (by omega)
theorem undo_c (m : STt) (B : Nat → Int32) : ∀ (fu k : Nat), k ≤ 4 → 4 - k < fu → iterO (fun K z => fX11_undo_l116c K z.1 z.2) fu (sA m 72 0 (cpN (m.2.1 81 0) B k), nI k) = some (sA m 72 0 (cpN (m.2.1 81 0) B 4), m.2.1 57 0 12) := by
  intro fu
  induction fu with
  | zero => intro k h1 h2; omega
  | succ fu ih =>
    intro k h1 h2
    rw [iterO_succ]
    generalize iterO (fun K z => fX11_undo_l116c K z.1 z.2) fu = K at ih ⊢
    show fX11_undo_l116c K (sA m 72 0 (cpN (m.2.1 81 0) B k)) (nI k) = _
    unfold fX11_undo_l116c
    by_cases c : k = 4
    · subst c; rw [if_pos (by decide), if_pos i15_12, tn12, sA_n _ _ (by omega)]
    · rw [if_neg (show ¬ (4 : Int32) ≤ nI k from nI_ge (b := 4) (by omega) (by omega)), if_pos (inB_nI (by omega) (by omega)), if_pos (inB_nI (by omega) (by omega)), nI_c (by omega), nI_1, sA1_sA, sA_n _ _ (by omega), cpN_up]
      exact ih (k + 1) (by omega) (by omega)
theorem undo_all (m : STt) : fX11_undo_l52 m 0 = some (sA (sA (sA (sA m 57 0 (cpN (m.2.1 78 0) (m.2.1 57 0) 15)) 70 0 (cpN (m.2.1 79 0) (m.2.1 70 0) 12)) 73 0 (cpN (m.2.1 80 0) (m.2.1 73 0) 12)) 72 0 (cpN (m.2.1 81 0) (m.2.1 72 0) 4), (sA m 57 0 (cpN (m.2.1 78 0) (m.2.1 57 0) 15)).2.1 57 0 12) := by
  have h1 := undo_a m (m.2.1 57 0) fuelN 0 (by omega) (by show 15 - 0 < 5000; omega)
  rw [cpN_0, sA_id] at h1
  generalize hm1 : sA m 57 0 (cpN (m.2.1 78 0) (m.2.1 57 0) 15) = m1 at h1 ⊢
  have n1 : ∀ c, c ≠ 57 → m1.2.1 c 0 = m.2.1 c 0 := fun c hc => by rw [← hm1, sA_n _ _ (by omega)]
  have h2 := undo_b m1 (m1.2.1 70 0) (m1.2.1 73 0) fuelN 0 (by omega) (by show 12 - 0 < 5000; omega)
  rw [cpN_0, cpN_0, sA_id, sA_id] at h2
  rw [n1 79 (by omega), n1 70 (by omega), n1 80 (by omega), n1 73 (by omega)] at h2
  generalize hm2 : sA (sA m1 70 0 (cpN (m.2.1 79 0) (m.2.1 70 0) 12)) 73 0 (cpN (m.2.1 80 0) (m.2.1 73 0) 12) = m2 at h2 ⊢
  have n2 : ∀ c, c ≠ 57 → c ≠ 70 → c ≠ 73 → m2.2.1 c 0 = m.2.1 c 0 := fun c hc hc2 hc3 => by rw [← hm2, sA_n _ _ (by omega), sA_n _ _ (by omega)]; exact n1 c hc
  have n3 : m2.2.1 57 0 = m1.2.1 57 0 := by rw [← hm2, sA_n _ _ (by omega), sA_n _ _ (by omega)]
  have h3 := undo_c m2 (m2.2.1 72 0) fuelN 0 (by omega) (by show 4 - 0 < 5000; omega)
  rw [cpN_0, sA_id] at h3
  rw [n2 81 (by omega) (by omega) (by omega), n2 72 (by omega) (by omega) (by omega), n3] at h3
  exact h1.trans (h2.trans h3)
