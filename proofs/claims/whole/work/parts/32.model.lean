/-! PURE: bounds are kept; the model's half minute -/
theorem c15 {w : Nat} (h : w < 15) : w = 0 ∨ w = 1 ∨ w = 2 ∨ w = 3 ∨ w = 4 ∨ w = 5 ∨ w = 6 ∨ w = 7 ∨ w = 8 ∨ w = 9 ∨ w = 10 ∨ w = 11 ∨ w = 12 ∨ w = 13 ∨ w = 14 := by omega
theorem most_F {P : Nat} {hb : Int} {w : Nat} (hw : w < 15) (h12 : w ≠ 12) (h14 : w ≠ 14) : mostN P hb w = (mostF w).toInt := by
  rcases c15 hw with rfl | rfl | rfl | rfl | rfl | rfl | rfl | rfl | rfl | rfl | rfl | rfl | rfl | rfl | rfl
  all_goals first | exact absurd rfl h12 | exact absurd rfl h14 | rfl
theorem ad_val {z M : Int32} (hM : 0 ≤ M.toInt) : inR (if 0 ≤ z then (if z ≤ M then z else M) else 0) 0 M.toInt := by
  by_cases c1 : 0 ≤ z
  · rw [if_pos c1]
    by_cases c2 : z ≤ M
    · rw [if_pos c2]; exact ⟨by (simp only [Int32.lt_iff_toInt_lt, Int32.le_iff_toInt_le, ← Int32.toInt_inj, Int32.reduceToInt] at *; omega), by (simp only [Int32.lt_iff_toInt_lt, Int32.le_iff_toInt_le, ← Int32.toInt_inj, Int32.reduceToInt] at *; omega)⟩
    · rw [if_neg c2]; exact ⟨hM, Int.le_refl _⟩
  · rw [if_neg c1]; exact ⟨by decide, hM⟩
theorem most_pos {w : Nat} (hw : w < 15) : 0 ≤ (mostF w).toInt := by
  rcases c15 hw with rfl | rfl | rfl | rfl | rfl | rfl | rfl | rfl | rfl | rfl | rfl | rfl | rfl | rfl | rfl <;> decide
theorem dok_ad {P : Nat} {hb : Int} {X : Nat → Int32} (h : DOK P hb X) {w : Nat} (hw : w < 15) (h12 : w ≠ 12) (h14 : w ≠ 14) (b : Int32) : DOK P hb (adX X w b) := by
  refine DOK.upd h ?_
  rw [most_F hw h12 h14]
  exact ad_val (most_pos hw)
theorem ad_n (X : Nat → Int32) {w k : Nat} (b : Int32) (h : k ≠ w) : adX X w b k = X k := upd_n _ _ h
theorem ad_s (X : Nat → Int32) (w : Nat) (b : Int32) : adX X w b w = if 0 ≤ (X w + b) then (if (X w + b) ≤ mostF w then X w + b else mostF w) else 0 := upd_s _ _ _
theorem ad_0 {X : Nat → Int32} {w : Nat} (h : inR (X w) 0 (mostF w).toInt) : adX X w 0 = X := by
  obtain ⟨h1, h2⟩ := h
  funext k
  by_cases e : k = w
  · subst e
    rw [ad_s, Int32.add_zero, if_pos (by (simp only [Int32.lt_iff_toInt_lt, Int32.le_iff_toInt_le, ← Int32.toInt_inj, Int32.reduceToInt] at *; omega)), if_pos (by (simp only [Int32.lt_iff_toInt_lt, Int32.le_iff_toInt_le, ← Int32.toInt_inj, Int32.reduceToInt] at *; omega))]
  · rw [ad_n _ _ e]
theorem dok_12 {P : Nat} {hb : Int} {X : Nat → Int32} (h : DOK P hb X) : inR (X 12) 0 P := h 12 (by omega)
theorem dok_13 {P : Nat} {hb : Int} {X : Nat → Int32} (h : DOK P hb X) : inR (X 13) 0 1 := h 13 (by omega)
theorem ad_p1 {P : Nat} {X : Nat → Int32} (h : inR (X 12) 0 P) (hP : P ≤ 10) (hA : atX X < P) : adX X 12 1 = upd X 12 (X 12 + 1) := by
  obtain ⟨e, he⟩ := at_eq h hP
  have t : (nI (atX X + 1)).toInt = (atX X : Int) + 1 := by rw [nI_toInt (by omega)]; omega
  have m : (mostF 12).toInt = 10 := by decide
  unfold adX
  rw [e, nI_1, if_pos (by (simp only [Int32.lt_iff_toInt_lt, Int32.le_iff_toInt_le, ← Int32.toInt_inj, Int32.reduceToInt] at *; omega)), if_pos (by (simp only [Int32.lt_iff_toInt_lt, Int32.le_iff_toInt_le, ← Int32.toInt_inj, Int32.reduceToInt] at *; omega))]
theorem ad_m1 {P : Nat} {X : Nat → Int32} (h : inR (X 12) 0 P) (hP : P ≤ 10) : adX X 12 (-1) = if X 12 ≤ 0 then X else upd X 12 (X 12 - 1) := by
  obtain ⟨h1, h2⟩ := h
  have m : (mostF 12).toInt = 10 := by decide
  have em : (-1 : Int32).toInt = -1 := by decide
  have z : (X 12 + (-1)).toInt = (X 12).toInt - 1 := by rw [addZ (by omega) (by omega)]; omega
  have ez : X 12 + (-1) = X 12 - 1 := by grind
  by_cases c : X 12 ≤ 0
  · rw [if_pos c]
    have e0 : X 12 = 0 := by (simp only [Int32.lt_iff_toInt_lt, Int32.le_iff_toInt_le, ← Int32.toInt_inj, Int32.reduceToInt] at *; omega)
    funext k
    by_cases e : k = 12
    · subst e
      rw [ad_s, if_neg (by (simp only [Int32.lt_iff_toInt_lt, Int32.le_iff_toInt_le, ← Int32.toInt_inj, Int32.reduceToInt] at *; omega)), e0]
    · rw [ad_n _ _ e]
  · rw [if_neg c]
    unfold adX
    rw [if_pos (by (simp only [Int32.lt_iff_toInt_lt, Int32.le_iff_toInt_le, ← Int32.toInt_inj, Int32.reduceToInt] at *; omega)), if_pos (by (simp only [Int32.lt_iff_toInt_lt, Int32.le_iff_toInt_le, ← Int32.toInt_inj, Int32.reduceToInt] at *; omega)), ez]
theorem b9 (P : Nat) (hb : Int) : inR 0 0 (mostN P hb 9) := ⟨by decide, by show _ ≤ (9 : Int); decide⟩
theorem b13 (P : Nat) (hb : Int) : inR 0 0 (mostN P hb 13) := ⟨by decide, by show _ ≤ (1 : Int); decide⟩
theorem b13' (P : Nat) (hb : Int) : inR 1 0 (mostN P hb 13) := ⟨by decide, by show _ ≤ (1 : Int); decide⟩
theorem dok_lv1 {P : Nat} {hb : Int} {X : Nat → Int32} (h : DOK P hb X) (hP : P ≤ 10) (hA : atX X < P) : DOK P hb (lvX X 1) := by
  obtain ⟨e, he⟩ := at_eq (dok_12 h) hP
  have t : (nI (atX X + 1)).toInt = (atX X : Int) + 1 := by rw [nI_toInt (by omega)]; omega
  unfold lvX
  rw [ad_p1 (dok_12 h) hP hA, e, nI_1]
  refine DOK.upd (DOK.upd (DOK.upd h ?_) (b9 _ _)) (b13 _ _)
  exact ⟨by omega, by show _ ≤ (P : Int); omega⟩
theorem dok_lvm {P : Nat} {hb : Int} {X : Nat → Int32} (h : DOK P hb X) (hP : P ≤ 10) : DOK P hb (lvX X (-1)) := by
  unfold lvX
  rw [ad_m1 (dok_12 h) hP]
  refine DOK.upd (DOK.upd ?_ (b9 _ _)) (b13 _ _)
  obtain ⟨h1, h2⟩ := dok_12 h
  by_cases c : X 12 ≤ 0
  · rw [if_pos c]; exact h
  · rw [if_neg c]
    refine DOK.upd h ?_
    have z : (X 12 - 1).toInt = (X 12).toInt - 1 := by
      have e1 : (1 : Int32).toInt = 1 := by decide
      rw [subZ (by omega) (by omega)]; omega
    exact ⟨by (simp only [Int32.lt_iff_toInt_lt, Int32.le_iff_toInt_le, ← Int32.toInt_inj, Int32.reduceToInt] at *; omega), by show _ ≤ (P : Int); omega⟩
theorem at_c {X X' : Nat → Int32} (h : X 12 = X' 12) : atX X = atX X' := by unfold atX; rw [h]
theorem dok_fo {P : Nat} {hb : Int} {X : Nat → Int32} {E : EVt} (h : DOK P hb X) (hP : P ≤ 10) (hA : atX X < P) (act dn : Int32) {th : Nat} (hth : th < 6) : DOK P hb (foX E X act dn th) := by
  unfold foX
  by_cases c1 : dn = 0
  · rw [if_pos c1]
    by_cases c2 : act = 7
    · rw [if_pos c2]; exact DOK.upd h (b13 _ _)
    · rw [if_neg c2]; exact DOK.upd (dok_ad (dok_ad h (by omega) (by omega) (by omega) _) (by omega) (by omega) (by omega) _) (b13 _ _)
  · rw [if_neg c1]
    by_cases c2 : dn = 1
    · rw [if_pos c2]
      refine dok_lv1 (dok_ad (dok_ad h (by omega) (by omega) (by omega) _) (by omega) (by omega) (by omega) _) hP ?_
      rw [at_c (X' := X) (by rw [ad_n _ _ (by omega), ad_n _ _ (by omega)])]
      exact hA
    · rw [if_neg c2]
      by_cases c3 : dn = 2
      · rw [if_pos c3]; exact dok_lvm h hP
      · rw [if_neg c3]; exact dok_ad (DOK.upd h (b13' _ _)) (by omega) (by omega) (by omega) _
theorem dok_an {P : Nat} {hb : Int} {X : Nat → Int32} (h : DOK P hb X) (act dn : Int32) {th : Nat} (hth : th < 6) : DOK P hb (anX X act dn th) := by
  unfold anX
  by_cases c1 : act = 1
  · rw [if_pos c1]; exact dok_ad h (by omega) (by omega) (by omega) _
  · rw [if_neg c1]
    by_cases c2 : act = 4
    · rw [if_pos c2]; exact dok_ad (dok_ad h (by omega) (by omega) (by omega) _) (by omega) (by omega) (by omega) _
    · rw [if_neg c2]
      by_cases c3 : act = 5
      · rw [if_pos c3]; exact dok_ad (dok_ad h (by omega) (by omega) (by omega) _) (by omega) (by omega) (by omega) _
      · rw [if_neg c3]
        by_cases c4 : act = 7
        · rw [if_pos c4]; exact dok_ad (dok_ad h (by omega) (by omega) (by omega) _) (by omega) (by omega) (by omega) _
        · rw [if_neg c4]; exact h
theorem hf_val {E : EVt} (hO : EOK E) (act : Int32) : inR (hfX E act) 1 99 := by
  obtain ⟨h1, h2⟩ := hO.2.2.2.2 6
  unfold hfX
  by_cases c : act = 6
  · rw [if_pos c]
    by_cases c2 : (1 : Int32) < E.2.2.2.2.2 6
    · rw [if_pos c2]; exact ⟨by (simp only [Int32.lt_iff_toInt_lt, Int32.le_iff_toInt_le, ← Int32.toInt_inj, Int32.reduceToInt] at *; omega), h2⟩
    · rw [if_neg c2]; exact ⟨by decide, by decide⟩
  · rw [if_neg c]; exact ⟨by decide, by decide⟩
theorem ad_14 {X : Nat → Int32} {hb : Int} {b : Int32} (h : inR (X 14) 0 hb) (hb1 : inR b 0 99) (hb2 : hb + 99 ≤ 1000000) : adX X 14 b = upd X 14 (X 14 + b) := by
  obtain ⟨h1, h2⟩ := h
  obtain ⟨h3, h4⟩ := hb1
  have m : (mostF 14).toInt = 1000000 := by decide
  have z : (X 14 + b).toInt = (X 14).toInt + b.toInt := addZ (by omega) (by omega)
  unfold adX
  rw [if_pos (by (simp only [Int32.lt_iff_toInt_lt, Int32.le_iff_toInt_le, ← Int32.toInt_inj, Int32.reduceToInt] at *; omega)), if_pos (by (simp only [Int32.lt_iff_toInt_lt, Int32.le_iff_toInt_le, ← Int32.toInt_inj, Int32.reduceToInt] at *; omega))]
theorem dok_a14 {P : Nat} {hb : Int} {X : Nat → Int32} {b : Int32} (h : DOK P hb X) (hb1 : inR b 0 99) (hb2 : hb + 99 ≤ 1000000) : DOK P (hb + 99) (adX X 14 b) := by
  have h14 : inR (X 14) 0 hb := h 14 (by omega)
  rw [ad_14 h14 hb1 hb2]
  refine DOK.upd (h.mono (Nat.le_refl _) (by omega)) ?_
  obtain ⟨h1, h2⟩ := h14
  obtain ⟨h3, h4⟩ := hb1
  have z : (X 14 + b).toInt = (X 14).toInt + b.toInt := addZ (by omega) (by omega)
  exact ⟨by omega, by show _ ≤ hb + 99; omega⟩
theorem th_lt {E : EVt} {X : Nat → Int32} (hO : EOK E) (hA : atX X < E.1) : thX E X < 6 ∧ E.2.2.2.1 (atX X) = nI (thX E X) := by
  obtain ⟨-, -, t1, t2⟩ := hO.2.1 _ hA
  obtain ⟨k, hk, ek⟩ := inB_of (x := E.2.2.2.1 (atX X)) (n := 6) (inB_iff.mpr (by omega)) (by omega)
  have et : thX E X = k := by unfold thX; rw [ek, nI_c (by omega)]
  rw [et]; exact ⟨hk, ek⟩
theorem dok_st {E : EVt} {hb : Int} {X : Nat → Int32} (hO : EOK E) (h : DOK E.1 hb X) (hb2 : hb + 99 ≤ 1000000) (act w : Int32) : DOK E.1 (hb + 99) (stX E X act w).1 := by
  have hf : inR (hfX E act) 0 99 := ⟨by have := (hf_val hO act).1; omega, (hf_val hO act).2⟩
  unfold stX
  by_cases cA : atX X < E.1
  · obtain ⟨t1, -⟩ := th_lt hO cA
    rw [if_pos cA]
    by_cases c6 : act = 6
    · rw [if_pos c6]
      refine dok_a14 (dok_lv1 (dok_ad h (by omega) (by omega) (by omega) _) hO.1 ?_) hf hb2
      rw [at_c (X' := X) (by rw [ad_n _ _ (by omega)])]
      exact cA
    · rw [if_neg c6]
      exact dok_a14 (dok_an (dok_fo h hO.1 cA _ _ t1) _ _ t1) hf hb2
  · rw [if_neg cA]
    exact h.mono (Nat.le_refl _) (by omega)
/-! two donkeys of the same 15 numbers -/
def IsX (A B : Nat → Int32) : Prop := ∀ k, k < 15 → A k = B k
theorem is_ad {A B : Nat → Int32} (h : IsX A B) {w : Nat} (hw : w < 15) (b : Int32) : IsX (adX A w b) (adX B w b) := fun k hk => by
  by_cases e : k = w
  · subst e; rw [ad_s, ad_s, h _ hk]
  · rw [ad_n _ _ e, ad_n _ _ e]; exact h k hk
theorem is_up {A B : Nat → Int32} (h : IsX A B) (w : Nat) (v : Int32) : IsX (upd A w v) (upd B w v) := fun k hk => by
  by_cases e : k = w
  · subst e; rw [upd_s, upd_s]
  · rw [upd_n _ _ e, upd_n _ _ e]; exact h k hk
theorem is_lv {A B : Nat → Int32} (h : IsX A B) (b : Int32) : IsX (lvX A b) (lvX B b) := is_up (is_up (is_ad h (by omega) _) _ _) _ _
theorem is_at {A B : Nat → Int32} (h : IsX A B) : atX A = atX B := at_c (h 12 (by omega))
theorem is_th {A B : Nat → Int32} (h : IsX A B) (E : EVt) : thX E A = thX E B := by unfold thX; rw [is_at h]
theorem is_fc {A B : Nat → Int32} (h : IsX A B) {E : EVt} (ht : thX E B < 15) : fcX E A = fcX E B := by
  funext k
  unfold fcX
  rw [is_th h, is_at h, h _ ht, h 6 (by omega), h 7 (by omega), h 8 (by omega), h 10 (by omega), h 11 (by omega), h 12 (by omega), h 14 (by omega)]
theorem is_ls {A B : Nat → Int32} (h : IsX A B) {E : EVt} (ht : thX E B < 15) (act : Int32) (i : Nat) : lsX E A act i = lsX E B act i := by
  unfold lsX frX frK
  rw [is_fc h ht, is_th h, is_at h, h _ ht, h 6 (by omega), h 8 (by omega), h 9 (by omega), h 12 (by omega), h 13 (by omega)]
theorem is_dr {A B : Nat → Int32} (h : IsX A B) {E : EVt} (ht : thX E B < 15) (act : Int32) : drX E A act = drX E B act := by
  unfold drX mrX
  rw [is_fc h ht, is_ls h ht, is_ls h ht, is_ls h ht, is_ls h ht, is_ls h ht, is_ls h ht, is_ls h ht, h 7 (by omega)]
theorem is_fo {A B : Nat → Int32} (h : IsX A B) (E : EVt) (act dn : Int32) {th : Nat} (ht : th < 15) : IsX (foX E A act dn th) (foX E B act dn th) := by
  unfold foX
  by_cases c1 : dn = 0
  · rw [if_pos c1, if_pos c1]
    by_cases c2 : act = 7
    · rw [if_pos c2, if_pos c2]; exact is_up h _ _
    · rw [if_neg c2, if_neg c2]; exact is_up (is_ad (is_ad h ht _) (by omega) _) _ _
  · rw [if_neg c1, if_neg c1]
    by_cases c2 : dn = 1
    · rw [if_pos c2, if_pos c2]; exact is_lv (is_ad (is_ad h ht _) (by omega) _) _
    · rw [if_neg c2, if_neg c2]
      by_cases c3 : dn = 2
      · rw [if_pos c3, if_pos c3]; exact is_lv h _
      · rw [if_neg c3, if_neg c3]; exact is_ad (is_up h _ _) (by omega) _
theorem is_an {A B : Nat → Int32} (h : IsX A B) (act dn : Int32) {th : Nat} (ht : th < 15) : IsX (anX A act dn th) (anX B act dn th) := by
  unfold anX
  by_cases c1 : act = 1
  · rw [if_pos c1, if_pos c1]; exact is_ad h (by omega) _
  · rw [if_neg c1, if_neg c1]
    by_cases c2 : act = 4
    · rw [if_pos c2, if_pos c2]; exact is_ad (is_ad h (by omega) _) (by omega) _
    · rw [if_neg c2, if_neg c2]
      by_cases c3 : act = 5
      · rw [if_pos c3, if_pos c3]; exact is_ad (is_ad h (by omega) _) (by omega) _
      · rw [if_neg c3, if_neg c3]
        by_cases c4 : act = 7
        · rw [if_pos c4, if_pos c4]; exact is_ad (is_ad h ht _) (by omega) _
        · rw [if_neg c4, if_neg c4]; exact h
theorem is_st {A B : Nat → Int32} (h : IsX A B) {E : EVt} (hO : EOK E) (act w : Int32) : IsX (stX E A act w).1 (stX E B act w).1 ∧ (stX E A act w).2 = (stX E B act w).2 := by
  unfold stX
  rw [is_at h]
  by_cases cA : atX B < E.1
  · obtain ⟨t1, -⟩ := th_lt hO cA
    rw [if_pos cA, if_pos cA, is_th h, is_dr h (by omega)]
    by_cases c6 : act = 6
    · rw [if_pos c6, if_pos c6]; exact ⟨is_ad (is_lv (is_ad h (by omega) _) _) (by omega) _, rfl⟩
    · rw [if_neg c6, if_neg c6]; exact ⟨is_ad (is_an (is_fo h E _ _ (by omega)) _ _ (by omega)) (by omega) _, rfl⟩
  · rw [if_neg cA, if_neg cA]; exact ⟨h, rfl⟩
/-! the model -/
def LwM (m : STt) (tog : Nat → (Nat → Int32) → Int32) (last : Nat → Int32) : Prop := LwMj m (m.1 36 0) tog last
def EnM (m : STt) (E : EVt) : Prop := m.1 33 0 = nI E.1 ∧ (∀ k, k < E.1 → m.2.1 54 0 k = E.2.1 k ∧ m.2.1 55 0 k = E.2.2.1 k ∧ m.2.1 56 0 k = E.2.2.2.1 k) ∧ LwM m E.2.2.2.2.1 E.2.2.2.2.2
def ms (m : STt) (pl Y : Nat → Int32) : STt := sA (sA m 69 0 pl) 57 0 Y
theorem ms_1 (m : STt) (pl Y : Nat → Int32) : (ms m pl Y).1 = m.1 := Eq.trans rfl rfl
theorem ms_w (m : STt) (pl Y : Nat → Int32) : (ms m pl Y).2.2 = m.2.2 := Eq.trans rfl rfl
theorem ms_57 (m : STt) (pl Y : Nat → Int32) : (ms m pl Y).2.1 57 0 = Y := Eq.trans rfl rfl
theorem ms_54 (m : STt) (pl Y : Nat → Int32) : (ms m pl Y).2.1 54 0 = m.2.1 54 0 := Eq.trans rfl rfl
theorem ms_55 (m : STt) (pl Y : Nat → Int32) : (ms m pl Y).2.1 55 0 = m.2.1 55 0 := Eq.trans rfl rfl
theorem ms_56 (m : STt) (pl Y : Nat → Int32) : (ms m pl Y).2.1 56 0 = m.2.1 56 0 := Eq.trans rfl rfl
theorem ms_n (m : STt) (pl Y : Nat → Int32) {c i : Nat} (h1 : c ≠ 57) (h2 : c ≠ 69) : (ms m pl Y).2.1 c i = m.2.1 c i := by
  show (sA (sA m 69 0 pl) 57 0 Y).2.1 c i = _
  rw [sA_n _ _ (by omega), sA_n _ _ (by omega)]
theorem ms_69 (m : STt) (pl Y p : Nat → Int32) : sA (ms m pl Y) 69 0 p = ms m p Y := by
  refine st_ext rfl (fun c i => ?_) rfl
  show (if c = 69 ∧ i = 0 then p else if c = 57 ∧ i = 0 then Y else if c = 69 ∧ i = 0 then pl else m.2.1 c i) = (if c = 57 ∧ i = 0 then Y else if c = 69 ∧ i = 0 then p else m.2.1 c i)
  by_cases h : c = 69 ∧ i = 0
  · rw [if_pos h, if_neg (by omega), if_pos h]
  · rw [if_neg h, if_neg (c := c = 69 ∧ i = 0) h, if_neg (c := c = 69 ∧ i = 0) h]
theorem ms_u57 (m : STt) (pl Y : Nat → Int32) (k : Nat) (v : Int32) : sA1 (ms m pl Y) 57 0 k v = ms m pl (upd Y k v) := by
  show sA1 (sA (sA m 69 0 pl) 57 0 Y) 57 0 k v = _
  rw [sA1_sA]
  rfl
theorem ms_id (m : STt) : ms m (m.2.1 69 0) (m.2.1 57 0) = m := by
  refine st_ext rfl (fun c i => ?_) rfl
  show (if c = 57 ∧ i = 0 then m.2.1 57 0 else if c = 69 ∧ i = 0 then m.2.1 69 0 else m.2.1 c i) = m.2.1 c i
  by_cases h : c = 57 ∧ i = 0
  · rw [if_pos h, h.1, h.2]
  · rw [if_neg h]
    by_cases h2 : c = 69 ∧ i = 0
    · rw [if_pos h2, h2.1, h2.2]
    · rw [if_neg h2]
theorem ms_ms (m : STt) (pl Y pl' Y' : Nat → Int32) : ms (ms m pl Y) pl' Y' = ms m pl' Y' := by
  refine st_ext rfl (fun c i => ?_) rfl
  show (if c = 57 ∧ i = 0 then Y' else if c = 69 ∧ i = 0 then pl' else if c = 57 ∧ i = 0 then Y else if c = 69 ∧ i = 0 then pl else m.2.1 c i) = (if c = 57 ∧ i = 0 then Y' else if c = 69 ∧ i = 0 then pl' else m.2.1 c i)
  by_cases h : c = 57 ∧ i = 0
  · simp only [if_pos h]
  · by_cases h2 : c = 69 ∧ i = 0
    · simp only [if_neg h, if_pos h2]
    · simp only [if_neg h, if_neg h2]
theorem tn0 : (0 : Int32).toNatClampNeg = 0 := Eq.trans rfl rfl
theorem tn1 : (1 : Int32).toNatClampNeg = 1 := Eq.trans rfl rfl
theorem tn2 : (2 : Int32).toNatClampNeg = 2 := Eq.trans rfl rfl
theorem tn3 : (3 : Int32).toNatClampNeg = 3 := Eq.trans rfl rfl
theorem tn4 : (4 : Int32).toNatClampNeg = 4 := Eq.trans rfl rfl
theorem tn5 : (5 : Int32).toNatClampNeg = 5 := Eq.trans rfl rfl
theorem tn6 : (6 : Int32).toNatClampNeg = 6 := Eq.trans rfl rfl
theorem tn7 : (7 : Int32).toNatClampNeg = 7 := Eq.trans rfl rfl
theorem tn8 : (8 : Int32).toNatClampNeg = 8 := Eq.trans rfl rfl
theorem tn9 : (9 : Int32).toNatClampNeg = 9 := Eq.trans rfl rfl
theorem tn10 : (10 : Int32).toNatClampNeg = 10 := Eq.trans rfl rfl
theorem tn11 : (11 : Int32).toNatClampNeg = 11 := Eq.trans rfl rfl
theorem tn12 : (12 : Int32).toNatClampNeg = 12 := Eq.trans rfl rfl
theorem tn13 : (13 : Int32).toNatClampNeg = 13 := Eq.trans rfl rfl
theorem tn14 : (14 : Int32).toNatClampNeg = 14 := Eq.trans rfl rfl
section MS
variable {m : STt} {E : EVt} {hb : Int}
theorem EnM_ms (h : EnM m E) (pl Y : Nat → Int32) : EnM (ms m pl Y) E := by
  obtain ⟨h1, h2, h4⟩ := h
  exact ⟨h1, h2, fun m' e1 e2 e3 e4 e5 e6 e7 e8 e9 e10 => h4 m' e1 (e2.trans (ms_n _ _ _ (by omega) (by omega))) (e3.trans (ms_n _ _ _ (by omega) (by omega))) (e4.trans (ms_n _ _ _ (by omega) (by omega))) (e5.trans (ms_n _ _ _ (by omega) (by omega))) (e6.trans (ms_n _ _ _ (by omega) (by omega))) (e7.trans (ms_n _ _ _ (by omega) (by omega))) (e8.trans (ms_n _ _ _ (by omega) (by omega))) (e9.trans (ms_n _ _ _ (by omega) (by omega))) (e10.trans (ms_n _ _ _ (by omega) (by omega)))⟩
theorem i15_6 : inB 6 15 = true := by decide
theorem i15_7 : inB 7 15 = true := by decide
theorem i15_8 : inB 8 15 = true := by decide
theorem i15_9 : inB 9 15 = true := by decide
theorem i15_10 : inB 10 15 = true := by decide
theorem i15_11 : inB 11 15 = true := by decide
theorem i15_12 : inB 12 15 = true := by decide
theorem i15_13 : inB 13 15 = true := by decide
theorem i15_14 : inB 14 15 = true := by decide
theorem m_over (hM : EnM m E) (hO : EOK E) (pl Y : Nat → Int32) (hY : inR (Y 12) 0 E.1) : fX11_isOver (ms m pl Y) = some (if atX Y < E.1 then 0 else 1) := by
  obtain ⟨e, he⟩ := at_eq hY hO.1
  have h10 := hO.1
  unfold fX11_isOver
  simp only [i15_12, if_true, ms_57, ms_1, tn6, tn7, tn8, tn9, tn10, tn11, tn12, tn13, tn14]
  rw [e, hM.1]
  by_cases c : atX Y < E.1
  · rw [if_pos (nI_lt c (by omega)), if_pos c]
  · rw [if_neg (nI_nlt (by omega) (by omega)), if_neg c]
theorem m_at (hO : EOK E) {Y : Nat → Int32} (hY : inR (Y 12) 0 E.1) (hA : atX Y < E.1) : inB (Y 12) 10 = true := by
  obtain ⟨e, he⟩ := at_eq hY hO.1
  have h10 := hO.1
  rw [e]; exact inB_nI (by omega) (by omega)
theorem m_K (hM : EnM m E) {Y : Nat → Int32} (hA : atX Y < E.1) : m.2.1 54 0 (Y 12).toNatClampNeg = E.2.1 (atX Y) := (hM.2.1 (atX Y) hA).1
theorem m_V (hM : EnM m E) {Y : Nat → Int32} (hA : atX Y < E.1) : m.2.1 55 0 (Y 12).toNatClampNeg = E.2.2.1 (atX Y) := (hM.2.1 (atX Y) hA).2.1
theorem m_T (hM : EnM m E) {Y : Nat → Int32} (hA : atX Y < E.1) : m.2.1 56 0 (Y 12).toNatClampNeg = E.2.2.2.1 (atX Y) := (hM.2.1 (atX Y) hA).2.2
theorem m_iT (hO : EOK E) {Y : Nat → Int32} (hA : atX Y < E.1) : inB (E.2.2.2.1 (atX Y)) 15 = true := by
  obtain ⟨t1, t2⟩ := th_lt hO hA
  rw [t2]; exact inB_nI (by omega) (by omega)
theorem m_fact (hM : EnM m E) (hO : EOK E) (pl : Nat → Int32) {Y : Nat → Int32} (hY : DOK E.1 hb Y) (hA : atX Y < E.1) : ∀ k, k < 9 → fX11_factOf (ms m pl Y) (ltF k) = some (fcX E Y k) := by
  intro k hk
  have iA := m_at hO (dok_12 hY) hA
  have iT := m_iT hO hA
  have hK := m_K hM hA
  have hT := m_T hM hA
  have e : k = 0 ∨ k = 1 ∨ k = 2 ∨ k = 3 ∨ k = 4 ∨ k = 5 ∨ k = 6 ∨ k = 7 ∨ k = 8 := by omega
  rcases e with rfl | rfl | rfl | rfl | rfl | rfl | rfl | rfl | rfl
  · show fX11_factOf (ms m pl Y) 102 = some (Y (thX E Y))
    unfold fX11_factOf
    simp (decide := true) only [if_true, if_false, i15_12, ms_57, ms_56, tn6, tn7, tn8, tn9, tn10, tn11, tn12, tn13, tn14, iA, hT, iT]
    rfl
  · show fX11_factOf (ms m pl Y) 104 = some (Y 7)
    unfold fX11_factOf
    simp (decide := true) only [if_true, if_false, i15_7, ms_57, tn6, tn7, tn8, tn9, tn10, tn11, tn12, tn13, tn14]
  · show fX11_factOf (ms m pl Y) 112 = some (Y 6)
    unfold fX11_factOf
    simp (decide := true) only [if_true, if_false, i15_6, ms_57, tn6, tn7, tn8, tn9, tn10, tn11, tn12, tn13, tn14]
  · show fX11_factOf (ms m pl Y) 119 = some (Y 8)
    unfold fX11_factOf
    simp (decide := true) only [if_true, if_false, i15_8, ms_57, tn6, tn7, tn8, tn9, tn10, tn11, tn12, tn13, tn14]
  · show fX11_factOf (ms m pl Y) 108 = some (if 0 ≤ (Y 10 - Y 11) then (Y 10 - Y 11) else 0 - (Y 10 - Y 11))
    unfold fX11_factOf fX11_sizeOf
    simp (decide := true) only [if_true, if_false, i15_10, i15_11, ms_57, tn6, tn7, tn8, tn9, tn10, tn11, tn12, tn13, tn14]
    by_cases c : 0 ≤ Y 10 - Y 11
    · rw [if_pos c, if_pos c, bnd1_e]
    · rw [if_neg c, if_neg c, bnd1_e, Int32.zero_sub]
  · show fX11_factOf (ms m pl Y) 115 = some (if (Y 10 + Y 11) < (99 : Int32) then (Y 10 + Y 11) else (99 : Int32))
    unfold fX11_factOf fX11_held
    simp (decide := true) only [if_true, if_false, i15_10, i15_11, ms_57, tn6, tn7, tn8, tn9, tn10, tn11, tn12, tn13, tn14]
    obtain ⟨a1, a2⟩ : inR (Y 10) 0 99 := hY 10 (by omega)
    obtain ⟨b1, b2⟩ : inR (Y 11) 0 99 := hY 11 (by omega)
    have z := addZ (x := Y 10) (y := Y 11) (by omega) (by omega)
    generalize Y 10 + Y 11 = s at z ⊢
    rw [if_pos (by (simp only [Int32.lt_iff_toInt_lt, Int32.le_iff_toInt_le, ← Int32.toInt_inj, Int32.reduceToInt] at *; omega))]
    by_cases c : s < 99
    · rw [if_pos c, if_pos (by (simp only [Int32.lt_iff_toInt_lt, Int32.le_iff_toInt_le, ← Int32.toInt_inj, Int32.reduceToInt] at *; omega)), bnd1_e]
    · rw [if_neg c]
      by_cases c2 : s ≤ 99
      · have : s = 99 := by (simp only [Int32.lt_iff_toInt_lt, Int32.le_iff_toInt_le, ← Int32.toInt_inj, Int32.reduceToInt] at *; omega)
        subst this
        rw [if_pos c2, bnd1_e]
      · rw [if_neg c2, bnd1_e]
  · show fX11_factOf (ms m pl Y) 97 = some (Y 12)
    unfold fX11_factOf
    simp (decide := true) only [if_true, if_false, i15_12, ms_57, tn6, tn7, tn8, tn9, tn10, tn11, tn12, tn13, tn14]
  · show fX11_factOf (ms m pl Y) 107 = some (E.2.1 (atX Y))
    unfold fX11_factOf
    simp (decide := true) only [if_true, if_false, i15_12, ms_57, ms_54, tn6, tn7, tn8, tn9, tn10, tn11, tn12, tn13, tn14, iA, hK]
  · show fX11_factOf (ms m pl Y) 116 = some (Y 14 - Y 14 / 60 * 60)
    unfold fX11_factOf fX11_factOf_j211
    simp (decide := true) only [if_true, if_false, i15_14, ms_57, tn6, tn7, tn8, tn9, tn10, tn11, tn12, tn13, tn14]
theorem m_sum (hM : EnM m E) (hO : EOK E) (pl : Nat → Int32) {Y : Nat → Int32} (hY : DOK E.1 hb Y) (hA : atX Y < E.1) (w : Nat) (hw : w < 3) : ∃ p, fX11_sumOf (ms m pl Y) (nI w) = some (ms m p Y, E.2.2.2.2.1 w (fcX E Y)) := by
  obtain ⟨p, hp⟩ := (hM.2.2 (ms m pl Y) rfl (ms_n _ _ _ (by omega) (by omega)) (ms_n _ _ _ (by omega) (by omega)) (ms_n _ _ _ (by omega) (by omega)) (ms_n _ _ _ (by omega) (by omega)) (ms_n _ _ _ (by omega) (by omega)) (ms_n _ _ _ (by omega) (by omega)) (ms_n _ _ _ (by omega) (by omega)) (ms_n _ _ _ (by omega) (by omega)) (ms_n _ _ _ (by omega) (by omega))).1 w hw (fcX E Y) (m_fact hM hO pl hY hA)
  rw [ms_69] at hp
  exact ⟨p, hp⟩
theorem m_last (hM : EnM m E) (pl Y : Nat → Int32) (w : Nat) (hw : 3 ≤ w) (hw2 : w < 7) : fX11_lastOf (ms m pl Y) (nI w) = some (E.2.2.2.2.2 w) :=
  (hM.2.2 (ms m pl Y) rfl (ms_n _ _ _ (by omega) (by omega)) (ms_n _ _ _ (by omega) (by omega)) (ms_n _ _ _ (by omega) (by omega)) (ms_n _ _ _ (by omega) (by omega)) (ms_n _ _ _ (by omega) (by omega)) (ms_n _ _ _ (by omega) (by omega)) (ms_n _ _ _ (by omega) (by omega)) (ms_n _ _ _ (by omega) (by omega)) (ms_n _ _ _ (by omega) (by omega))).2 w hw hw2
theorem m_j34 (hM : EnM m E) (hO : EOK E) (pl : Nat → Int32) {Y : Nat → Int32} (hY : DOK E.1 hb Y) (hA : atX Y < E.1) (f : Int32) : fX11_fearAs_j34 (ms m pl Y) f = some (frK E Y f) := by
  have iA := m_at hO (dok_12 hY) hA
  have hK := m_K hM hA
  have hV := m_V hM hA
  unfold fX11_fearAs_j34 frK
  simp only [i15_12, i15_9, if_true, ms_57, ms_54, ms_55, tn6, tn7, tn8, tn9, tn10, tn11, tn12, tn13, tn14, iA, hK, hV, Int32.mul_comm 2 f]
  by_cases c1 : E.2.1 (atX Y) = 1
  · rw [if_pos c1, if_pos c1]
  · rw [if_neg c1, if_neg c1]
    by_cases c2 : E.2.1 (atX Y) = 4
    · rw [if_pos c2, if_pos c2]
      generalize f * 2 - E.2.2.1 (atX Y) * Y 9 = z
      by_cases c3 : 0 ≤ z
      · rw [if_pos c3]
        by_cases c4 : 0 < z
        · rw [if_pos c4]
        · rw [if_neg c4]
          have : z = 0 := by (simp only [Int32.lt_iff_toInt_lt, Int32.le_iff_toInt_le, ← Int32.toInt_inj, Int32.reduceToInt] at *; omega)
          rw [this]
      · rw [if_neg c3, if_neg (by (simp only [Int32.lt_iff_toInt_lt, Int32.le_iff_toInt_le, ← Int32.toInt_inj, Int32.reduceToInt] at *; omega))]
    · rw [if_neg c2, if_neg c2]
theorem frK_0 (hO : EOK E) {Y : Nat → Int32} (hY : DOK E.1 hb Y) (hA : atX Y < E.1) : frK E Y 0 = 0 := by
  unfold frK
  by_cases c1 : E.2.1 (atX Y) = 1
  · rw [if_pos c1]; decide
  · rw [if_neg c1]
    by_cases c2 : E.2.1 (atX Y) = 4
    · rw [if_pos c2]
      obtain ⟨-, ⟨v1, v2⟩, -⟩ := hO.2.1 _ hA
      obtain ⟨l1, l2⟩ : inR (Y 9) 0 9 := hY 9 (by omega)
      obtain ⟨a, ha, ea⟩ := inB_of (x := E.2.2.1 (atX Y)) (n := 10) (inB_iff.mpr (by omega)) (by omega)
      obtain ⟨b, hb', eb⟩ := inB_of (x := Y 9) (n := 10) (inB_iff.mpr (by omega)) (by omega)
      have hab : a * b ≤ 81 := Nat.mul_le_mul (show a ≤ 9 by omega) (show b ≤ 9 by omega)
      rw [ea, eb, pk_mul]
      have z : ((0 : Int32) * 2 - nI (a * b)).toInt = -((a * b : Nat) : Int) := by
        rw [show (0 : Int32) * 2 = nI 0 from rfl, pk_sub_toInt (by omega) (by omega)]; omega
      rw [if_neg (by (simp only [Int32.lt_iff_toInt_lt, Int32.le_iff_toInt_le, ← Int32.toInt_inj, Int32.reduceToInt] at *; omega))]
    · rw [if_neg c2]
theorem m_fear (hM : EnM m E) (hO : EOK E) (pl : Nat → Int32) {Y : Nat → Int32} (hY : DOK E.1 hb Y) (hA : atX Y < E.1) (act : Int32) : fX11_fearAs (ms m pl Y) act = some (frX E Y act) := by
  have iA := m_at hO (dok_12 hY) hA
  have hT := m_T hM hA
  have iT := m_iT hO hA
  unfold fX11_fearAs fX11_fearAs_j27 frX
  simp only [i15_12, if_true, ms_57, ms_56, tn6, tn7, tn8, tn9, tn10, tn11, tn12, tn13, tn14, iA, hT, iT]
  rw [m_j34 hM hO pl hY hA, m_j34 hM hO pl hY hA, m_j34 hM hO pl hY hA, frK_0 hO hY hA]
  by_cases c1 : act = 3
  · subst c1
    rw [if_neg (by decide), if_pos rfl, if_pos rfl]
  · simp only [if_neg c1]
    by_cases c2 : act = 2
    · simp only [if_pos c2]
      rfl
    · simp only [if_neg c2]
      rfl
theorem m_less (hM : EnM m E) (hO : EOK E) (pl : Nat → Int32) {Y : Nat → Int32} (hY : DOK E.1 hb Y) (hA : atX Y < E.1) (act : Int32) (i : Nat) (hi : i < 7) : ∃ p, fX11_lessBy (ms m pl Y) (nI i) act = some (ms m p Y, lsX E Y act i) := by
  have iA := m_at hO (dok_12 hY) hA
  have hK := m_K hM hA
  have hV := m_V hM hA
  have e : i = 0 ∨ i = 1 ∨ i = 2 ∨ i = 3 ∨ i = 4 ∨ i = 5 ∨ i = 6 := by omega
  unfold fX11_lessBy fX11_lessBy_j74 fX11_lessBy_j95
  simp only [i15_12, i15_6, i15_8, i15_13, if_true, ms_57, ms_54, ms_55, tn6, tn7, tn8, tn9, tn10, tn11, tn12, tn13, tn14, iA, hK, hV]
  rcases e with rfl | rfl | rfl | rfl | rfl | rfl | rfl
  · rw [if_pos (by decide)]
    obtain ⟨p, hp⟩ := m_sum hM hO pl hY hA 1 (by omega)
    refine ⟨p, ?_⟩
    rw [show (1 : Int32) = nI 1 from rfl, hp, bnd_e]
    rfl
  · rw [if_neg (by decide), if_pos (by decide), m_fear hM hO pl hY hA, bnd1_e]
    exact ⟨pl, rfl⟩
  · rw [if_neg (by decide), if_neg (by decide), if_pos (by decide)]
    obtain ⟨p, hp⟩ := m_sum hM hO pl hY hA 2 (by omega)
    have hp : fX11_sumOf (ms m pl Y) 2 = some (ms m p Y, E.2.2.2.2.1 2 (fcX E Y)) := hp
    rw [hp, bnd_e]
    by_cases c1 : E.2.1 (atX Y) = 2
    · rw [if_pos c1]
      refine ⟨p, ?_⟩
      show _ = some (ms m p Y, if E.2.1 (atX Y) = 2 ∨ E.2.1 (atX Y) = 5 then E.2.2.2.2.1 2 (fcX E Y) else 0)
      rw [if_pos (Or.inl c1)]
    · rw [if_neg c1]
      by_cases c2 : E.2.1 (atX Y) = 5
      · rw [if_pos c2]
        refine ⟨p, ?_⟩
        show _ = some (ms m p Y, if E.2.1 (atX Y) = 2 ∨ E.2.1 (atX Y) = 5 then E.2.2.2.2.1 2 (fcX E Y) else 0)
        rw [if_pos (Or.inr c2)]
      · rw [if_neg c2]
        refine ⟨pl, ?_⟩
        show _ = some (ms m pl Y, if E.2.1 (atX Y) = 2 ∨ E.2.1 (atX Y) = 5 then E.2.2.2.2.1 2 (fcX E Y) else 0)
        rw [if_neg (fun q => q.elim c1 c2)]
  · rw [if_neg (by decide), if_neg (by decide), if_neg (by decide), if_pos (by decide)]
    refine ⟨pl, ?_⟩
    show _ = some (ms m pl Y, if E.2.1 (atX Y) = 3 ∨ E.2.1 (atX Y) = 6 then Y 6 else 0)
    by_cases c1 : E.2.1 (atX Y) = 3
    · rw [if_pos c1, if_pos (Or.inl c1)]
    · rw [if_neg c1]
      by_cases c2 : E.2.1 (atX Y) = 6
      · rw [if_pos c2, if_pos (Or.inr c2)]
      · rw [if_neg c2, if_neg (fun q => q.elim c1 c2)]
  · rw [if_neg (by decide), if_neg (by decide), if_neg (by decide), if_neg (by decide), if_pos (by decide)]
    refine ⟨pl, ?_⟩
    show _ = some (ms m pl Y, if E.2.1 (atX Y) = 5 then Y 8 / 2 else 0)
    by_cases c1 : E.2.1 (atX Y) = 5
    · rw [if_pos c1, if_pos c1]
    · rw [if_neg c1, if_neg c1]
  · rw [if_neg (by decide), if_neg (by decide), if_neg (by decide), if_neg (by decide), if_neg (by decide), if_pos (by decide)]
    refine ⟨pl, ?_⟩
    show _ = some (ms m pl Y, if E.2.1 (atX Y) = 6 then E.2.2.1 (atX Y) * Y 12 else 0)
    by_cases c1 : E.2.1 (atX Y) = 6
    · rw [if_pos c1, if_pos c1]
    · rw [if_neg c1, if_neg c1]
  · rw [if_neg (by decide), if_neg (by decide), if_neg (by decide), if_neg (by decide), if_neg (by decide), if_neg (by decide)]
    refine ⟨pl, ?_⟩
    show _ = some (ms m pl Y, if Y 13 = 0 then 0 else 15)
    obtain ⟨h1, h2⟩ := dok_13 hY
    by_cases c1 : Y 13 = 1
    · rw [if_pos c1, if_neg (by rw [c1]; decide)]
    · rw [if_neg c1, if_pos (by (simp only [Int32.lt_iff_toInt_lt, Int32.le_iff_toInt_le, ← Int32.toInt_inj, Int32.reduceToInt] at *; omega))]
theorem m_sub (hM : EnM m E) (hO : EOK E) {Y : Nat → Int32} (hY : DOK E.1 hb Y) (hA : atX Y < E.1) (act : Int32) : ∀ (n k : Nat) (a : Int32) (pl : Nat → Int32), k ≤ 7 → 7 - k < n → ∃ p, iterO (fun K z => fX11_driveBy_l65c K act z.1 z.2.1 z.2.2) n (ms m pl Y, a, nI k) = some (ms m p Y, ((List.range (7 - k)).map (fun j => lsX E Y act (k + j))).foldl (· - ·) a - m.1 41 0) := by
  intro n
  induction n with
  | zero => intro k a pl h1 h2; omega
  | succ n ih =>
    intro k a pl h1 h2
    rw [iterO_succ]
    generalize iterO (fun K z => fX11_driveBy_l65c K act z.1 z.2.1 z.2.2) n = K at ih ⊢
    show ∃ p, fX11_driveBy_l65c K act (ms m pl Y) a (nI k) = _
    unfold fX11_driveBy_l65c
    by_cases c : k = 7
    · subst c; rw [if_pos (by decide)]; exact ⟨pl, rfl⟩
    · obtain ⟨p, hp⟩ := m_less hM hO pl hY hA act k (by omega)
      obtain ⟨p', hp'⟩ := ih (k + 1) (a - lsX E Y act k) p (by omega) (by omega)
      refine ⟨p', ?_⟩
      rw [if_neg (show ¬ (6 : Int32) < nI k from nI_nlt (a := 6) (b := k) (by omega) (by omega)), hp, bnd_e, nI_1, hp']
      rw [show 7 - k = (7 - (k + 1)) + 1 by omega, List.range_succ_eq_map, List.map_cons, List.foldl_cons, List.map_map]
      congr 4
      apply List.map_congr_left
      intro j _
      show lsX E Y act (k + 1 + j) = lsX E Y act (k + (j + 1))
      rw [show k + 1 + j = k + (j + 1) by omega]
theorem m_drive (hM : EnM m E) (hO : EOK E) (pl : Nat → Int32) {Y : Nat → Int32} (hY : DOK E.1 hb Y) (hA : atX Y < E.1) (act : Int32) : ∃ p, fX11_driveBy (ms m pl Y) act = some (ms m p Y, drX E Y act + (if act = 1 then m.1 40 0 else 0) - m.1 41 0) := by
  obtain ⟨p, hp⟩ := m_sum hM hO pl hY hA 0 (by omega)
  have hp : fX11_sumOf (ms m pl Y) 0 = some (ms m p Y, E.2.2.2.2.1 0 (fcX E Y)) := hp
  have e3 : fX11_lastOf (ms m p Y) 3 = some (E.2.2.2.2.2 3) := m_last hM p Y 3 (by omega) (by omega)
  have e4 : fX11_lastOf (ms m p Y) 4 = some (E.2.2.2.2.2 4) := m_last hM p Y 4 (by omega) (by omega)
  have fin : ∀ a : Int32, a = E.2.2.2.2.1 0 (fcX E Y) + mrX E Y act + (if act = 1 then m.1 40 0 else 0) → ∃ p', fX11_driveBy_j63 (ms m p Y) act a = some (ms m p' Y, drX E Y act + (if act = 1 then m.1 40 0 else 0) - m.1 41 0) := by
    intro a ha
    obtain ⟨p', hp'⟩ := m_sub hM hO hY hA act fuelN 0 a p (by omega) (by show 7 - 0 < 5000; omega)
    refine ⟨p', ?_⟩
    unfold fX11_driveBy_j63 fX11_driveBy_l65
    refine hp'.trans ?_
    refine congrArg (fun q => some (ms m p' Y, q)) ?_
    show a - lsX E Y act 0 - lsX E Y act 1 - lsX E Y act 2 - lsX E Y act 3 - lsX E Y act 4 - lsX E Y act 5 - lsX E Y act 6 - m.1 41 0 = _
    unfold drX
    rw [ha]
    grind
  unfold fX11_driveBy fX11_driveBy_j24 fX11_driveBy_j41 fX11_driveBy_j55
  rw [hp, bnd_e]
  unfold mrX at fin
  simp only [e3, e4, bnd1_e, i15_7, if_true, ms_57, ms_1, tn6, tn7, tn8, tn9, tn10, tn11, tn12, tn13, tn14]
  by_cases c1 : act = 1
  · subst c1
    simp (decide := true) only [if_true, if_false] at fin ⊢
    exact fin _ (by grind)
  · simp only [if_neg c1] at fin ⊢
    by_cases c4 : act = 4
    · subst c4
      simp (decide := true) only [if_true, if_false] at fin ⊢
      exact fin _ (by grind)
    · simp only [if_neg c4] at fin ⊢
      by_cases c7 : act = 7
      · subst c7
        simp (decide := true) only [if_true, if_false] at fin ⊢
        exact fin _ (by grind)
      · simp only [if_neg c7] at fin ⊢
        by_cases c3 : act = 3
        · subst c3
          simp (decide := true) only [if_true, if_false] at fin ⊢
          exact fin _ (by grind)
        · simp only [if_neg c3] at fin ⊢
          exact fin _ (by grind)
theorem m_dn {α : Type} (g : α) (x : Int32) : (if x ≤ 0 then (if x ≤ (-15) then (if x ≤ (-40) then some (g, (3 : Int32)) else some (g, 2)) else some (g, 0)) else some (g, 1)) = some (g, dnX x) := by
  unfold dnX
  by_cases c1 : x ≤ 0
  · rw [if_pos c1, if_pos c1]
    by_cases c2 : x ≤ (-15)
    · rw [if_pos c2, if_pos (c := x < (-14)) (by (simp only [Int32.lt_iff_toInt_lt, Int32.le_iff_toInt_le, ← Int32.toInt_inj, Int32.reduceToInt] at *; omega))]
      by_cases c3 : x ≤ (-40)
      · rw [if_pos c3, if_pos (c := x < (-39)) (by (simp only [Int32.lt_iff_toInt_lt, Int32.le_iff_toInt_le, ← Int32.toInt_inj, Int32.reduceToInt] at *; omega))]
      · rw [if_neg c3, if_neg (c := x < (-39)) (by (simp only [Int32.lt_iff_toInt_lt, Int32.le_iff_toInt_le, ← Int32.toInt_inj, Int32.reduceToInt] at *; omega))]
    · rw [if_neg c2, if_neg (c := x < (-14)) (by (simp only [Int32.lt_iff_toInt_lt, Int32.le_iff_toInt_le, ← Int32.toInt_inj, Int32.reduceToInt] at *; omega))]
  · rw [if_neg c1, if_neg c1]
theorem m_would (hM : EnM m E) (hO : EOK E) (pl : Nat → Int32) {Y : Nat → Int32} (hY : DOK E.1 hb Y) (hA : atX Y < E.1) (act : Int32) : ∃ p, fX11_wouldBy (ms m pl Y) act = some (ms m p Y, if act = 6 then 1 else dnX (drX E Y act + (if act = 1 then m.1 40 0 else 0) - m.1 41 0)) := by
  unfold fX11_wouldBy
  by_cases c : act = 6
  · rw [if_pos c, if_pos c]; exact ⟨pl, rfl⟩
  · obtain ⟨p, hp⟩ := m_drive hM hO pl hY hA act
    rw [if_neg c, if_neg c, hp, bnd_e, m_dn]
    exact ⟨p, rfl⟩
theorem m_more (pl Y : Nat → Int32) (x : Int32) (w : Nat) (hw : w < 15) (h12 : w ≠ 12) (h14 : w ≠ 14) (hx : x = nI w) (b : Int32) : fX11_more (ms m pl Y) x b = some (ms m pl (adX Y w b)) := by
  have hm : fX11_mostOf (ms m pl Y) (nI w) = some (mostF w) := by
    unfold fX11_mostOf
    rcases c15 hw with rfl | rfl | rfl | rfl | rfl | rfl | rfl | rfl | rfl | rfl | rfl | rfl | rfl | rfl | rfl
    all_goals first | exact absurd rfl h12 | exact absurd rfl h14 | rfl
  subst hx
  unfold fX11_more fX11_held adX
  rw [if_pos (inB_nI hw (by omega)), hm, bnd1_e, ms_57, nI_c (by omega)]
  by_cases c1 : 0 ≤ Y w + b
  · rw [if_pos c1, if_pos c1]
    by_cases c2 : Y w + b ≤ mostF w
    · rw [if_pos c2, if_pos c2, bnd1_e, if_pos (inB_nI hw (by omega)), ms_u57]
    · rw [if_neg c2, if_neg c2, bnd1_e, if_pos (inB_nI hw (by omega)), ms_u57]
  · rw [if_neg c1, if_neg c1, bnd1_e, if_pos (inB_nI hw (by omega)), ms_u57]
theorem m_ford (hM : EnM m E) (hO : EOK E) (pl Y : Nat → Int32) : fX11_fordHalves (ms m pl Y) = some (hfX E 6) := by
  have e6 : fX11_lastOf (ms m pl Y) 6 = some (E.2.2.2.2.2 6) := m_last hM pl Y 6 (by omega) (by omega)
  obtain ⟨h1, h2⟩ := hO.2.2.2.2 6
  unfold fX11_fordHalves hfX
  rw [e6, bnd1_e, bnd1_e, if_pos rfl]
  by_cases c : E.2.2.2.2.2 6 = 0
  · rw [if_pos c, c, if_neg (by decide)]
  · rw [if_neg c]
    by_cases c2 : (1 : Int32) < E.2.2.2.2.2 6
    · rw [if_pos c2]
    · rw [if_neg c2]
      have : E.2.2.2.2.2 6 = 1 := by (simp only [Int32.lt_iff_toInt_lt, Int32.le_iff_toInt_le, ← Int32.toInt_inj, Int32.reduceToInt] at *; omega)
      rw [this]
theorem most_in {P : Nat} {X : Nat → Int32} (h : DOK P hb X) {w : Nat} (hw : w < 15) (h12 : w ≠ 12) (h14 : w ≠ 14) : inR (X w) 0 (mostF w).toInt := by
  have := h w hw
  rw [most_F hw h12 h14] at this
  exact this
theorem m_driven {P : Nat} (pl : Nat → Int32) {Y : Nat → Int32} (hY : DOK P hb Y) (act dn : Int32) {th : Nat} (hth : th < 6) {we : Int32} (hw : we = if dn = 1 then 1 else 0) : fX11_driven (ms m pl Y) act we (nI th) = some (ms m pl (anX Y act dn th)) := by
  have e : ∀ {α : Type} (A B : α), (if we = 0 then A else B) = if dn = 1 then B else A := fun A B => by
    by_cases c : dn = 1
    · rw [if_pos c] at hw; subst hw; rw [if_neg (by decide), if_pos c]
    · rw [if_neg c] at hw; subst hw; rw [if_pos rfl, if_neg c]
  unfold fX11_driven fX11_driven_j17 fX11_driven_j28 fX11_driven_j49 fX11_driven_j73 anX
  simp only [e]
  by_cases c1 : act = 1
  · subst c1
    simp (decide := true) only [if_true, if_false]
    by_cases c : dn = 1
    · simp only [if_pos c]
      rw [ad_0 (most_in hY (w := 6) (by omega) (by omega) (by omega))]
    · simp only [if_neg c]
      rw [m_more pl Y 6 6 (by omega) (by omega) (by omega) rfl, bnd1_e]
  · simp only [if_neg c1]
    by_cases c4 : act = 4
    · subst c4
      simp (decide := true) only [if_true, if_false]
      by_cases c : dn = 1
      · simp only [if_pos c]
        rw [m_more pl Y 6 6 (by omega) (by omega) (by omega) rfl, bnd1_e, m_more pl _ 7 7 (by omega) (by omega) (by omega) rfl, bnd1_e]
      · simp only [if_neg c]
        rw [m_more pl Y 6 6 (by omega) (by omega) (by omega) rfl, bnd1_e, m_more pl _ 7 7 (by omega) (by omega) (by omega) rfl, bnd1_e]
    · simp only [if_neg c4]
      by_cases c5 : act = 5
      · subst c5
        simp (decide := true) only [if_true, if_false]
        rw [m_more pl Y 10 10 (by omega) (by omega) (by omega) rfl, bnd1_e, m_more pl _ 11 11 (by omega) (by omega) (by omega) rfl, bnd1_e]
      · simp only [if_neg c5]
        by_cases c7 : act = 7
        · subst c7
          simp only [if_true]
          by_cases c : dn = 1
          · simp only [if_pos c]
            rw [ad_0 (most_in hY (w := th) (by omega) (by omega) (by omega)), ad_0 (most_in hY (w := 6) (by omega) (by omega) (by omega))]
          · simp only [if_neg c]
            rw [m_more pl Y (nI th) th (by omega) (by omega) (by omega) rfl, bnd1_e, m_more pl _ 6 6 (by omega) (by omega) (by omega) rfl, bnd1_e]
        · simp only [if_neg c7]
theorem upd_cm (f : Nat → Int32) {a b : Nat} (x y : Int32) (h : a ≠ b) : upd (upd f a x) b y = upd (upd f b y) a x := by
  funext k
  by_cases e : k = a
  · subst e; rw [upd_n _ _ h, upd_s, upd_s]
  · rw [upd_n _ _ e]
    by_cases e2 : k = b
    · subst e2; rw [upd_s, upd_s]
    · rw [upd_n _ _ e2, upd_n _ _ e2, upd_n _ _ e]
theorem m_does (hM : EnM m E) (hO : EOK E) (pl : Nat → Int32) {Y : Nat → Int32} (hY : DOK E.1 hb Y) (hb2 : hb + 99 ≤ 1000000) (act : Int32) (h40 : m.1 40 0 = 0) : ∃ p, fX11_does (ms m pl Y) act = some (ms m p (stX E Y act (m.1 41 0)).1, (stX E Y act (m.1 41 0)).2) := by
  unfold fX11_does stX
  rw [m_over hM hO pl Y (dok_12 hY), b_if2]
  by_cases cA : atX Y < E.1
  · have iA := m_at hO (dok_12 hY) cA
    have hT := m_T hM cA
    obtain ⟨t1, t2⟩ := th_lt hO cA
    obtain ⟨p, hp⟩ := m_would hM hO pl hY cA act
    rw [if_pos cA, if_pos cA]
    simp only [i15_12, i15_9, i15_13, i15_14, if_true, ms_57, ms_56, tn6, tn7, tn8, tn9, tn10, tn11, tn12, tn13, tn14, iA, hT, hp, bnd_e, t2, h40, ite_self, Int32.add_zero]
    refine ⟨p, ?_⟩
    by_cases c6 : act = 6
    · subst c6
      rw [if_pos rfl, if_pos rfl, m_ford hM hO, bnd1_e]
      simp only [ms_57, ms_u57]
      rw [m_more p _ 6 6 (by omega) (by omega) (by omega) rfl, bnd1_e]
      refine congrArg (fun q => some (ms m p q, (1 : Int32))) ?_
      have hA6 : DOK E.1 hb (adX Y 6 10) := dok_ad hY (by omega) (by omega) (by omega) _
      have at6 : atX (adX Y 6 10) < E.1 := by rw [at_c (X' := Y) (by rw [ad_n _ _ (by omega)])]; exact cA
      have h14 : inR (lvX (adX Y 6 10) 1 14) 0 hb := (dok_lv1 hA6 hO.1 at6) 14 (by omega)
      rw [ad_14 h14 ⟨by have := (hf_val hO 6).1; omega, (hf_val hO 6).2⟩ hb2]
      unfold lvX
      rw [ad_p1 (dok_12 hA6) hO.1 at6]
      funext k
      by_cases e14 : k = 14
      · subst e14
        simp (decide := true) only [upd_s, upd_n, ad_n, ne_eq, not_false_eq_true]
      · by_cases e13 : k = 13
        · subst e13
          simp (decide := true) only [upd_s, upd_n, ad_n, ne_eq, not_false_eq_true]
        · by_cases e9 : k = 9
          · subst e9
            simp (decide := true) only [upd_s, upd_n, ad_n, ne_eq, not_false_eq_true]
          · by_cases e12 : k = 12
            · subst e12
              simp (decide := true) only [upd_s, upd_n, ad_n, ne_eq, not_false_eq_true]
            · rw [upd_n _ _ e14, upd_n _ _ e13, upd_n _ _ e9, upd_n _ _ e12]
              by_cases e6 : k = 6
              · subst e6
                simp (decide := true) only [upd_s, upd_n, ad_s, ne_eq, not_false_eq_true]
              · rw [ad_n _ _ e6, ad_n _ _ e6, upd_n _ _ e13, upd_n _ _ e9, upd_n _ _ e12, upd_n _ _ e14]
    · simp only [if_neg c6]
      have e5 : fX11_lastOf (ms m p Y) 5 = some (E.2.2.2.2.2 5) := m_last hM p Y 5 (by omega) (by omega)
      rw [e5, bnd1_e]
      generalize hd : dnX (drX E Y act - m.1 41 0) = dn
      have fin : ∀ Z, Z = foX E Y act dn (thX E Y) → fX11_does_j251 (ms m p Z) act (nI (thX E Y)) dn = some (ms m p (adX (anX (foX E Y act dn (thX E Y)) act dn (thX E Y)) 14 (hfX E act)), dn) := by
        intro Z hZ
        subst hZ
        have hZ : DOK E.1 hb (foX E Y act dn (thX E Y)) := dok_fo hY hO.1 cA _ _ t1
        have h14 : inR ((anX (foX E Y act dn (thX E Y)) act dn (thX E Y)) 14) 0 hb := (dok_an hZ act dn t1) 14 (by omega)
        have hh : hfX E act = 1 := by unfold hfX; rw [if_neg c6]
        unfold fX11_does_j251 fX11_does_j263
        have key : ∀ we : Int32, (we = if dn = 1 then 1 else 0) → (bnd1 (fX11_driven (ms m p (foX E Y act dn (thX E Y))) act we (nI (thX E Y))) fun g_2 => (if inB 14 15 = true then (if inB 14 15 = true then (some (sA1 g_2 57 0 (14 : Int32).toNatClampNeg ((g_2.2.1 57 0 (14 : Int32).toNatClampNeg) + 1), dn)) else none) else none)) = some (ms m p (adX (anX (foX E Y act dn (thX E Y)) act dn (thX E Y)) 14 (hfX E act)), dn) := by
          intro we hwe
          rw [m_driven p hZ act dn t1 hwe, bnd1_e]
          simp only [i15_14, if_true, ms_57, ms_u57, tn6, tn7, tn8, tn9, tn10, tn11, tn12, tn13, tn14]
          rw [hh, ad_14 h14 ⟨by decide, by decide⟩ hb2]
        by_cases c : dn = 1
        · rw [if_pos c]; exact key 1 (by rw [if_pos c])
        · rw [if_neg c]; exact key 0 (by rw [if_neg c])
      unfold fX11_does_j185 fX11_does_j217
      simp only [i15_12, i15_9, i15_13, if_true, ms_57, ms_u57, tn6, tn7, tn8, tn9, tn10, tn11, tn12, tn13, tn14]
      by_cases c0 : dn = 0
      · rw [if_pos c0]
        by_cases c7 : act = 7
        · rw [if_pos c7]
          refine fin _ ?_
          unfold foX
          rw [if_pos c0, if_pos c7]
        · rw [if_neg c7, m_more p Y (nI (thX E Y)) (thX E Y) (by omega) (by omega) (by omega) rfl, bnd1_e, m_more p _ 9 9 (by omega) (by omega) (by omega) rfl, bnd1_e, ms_u57]
          refine fin _ ?_
          unfold foX
          rw [if_pos c0, if_neg c7]
      · rw [if_neg c0]
        by_cases c1 : dn = 1
        · rw [if_pos c1, m_more p Y (nI (thX E Y)) (thX E Y) (by omega) (by omega) (by omega) rfl, bnd1_e, m_more p _ 8 8 (by omega) (by omega) (by omega) rfl, bnd1_e]
          simp only [ms_u57, ms_57]
          refine fin _ ?_
          unfold foX lvX
          have hA8 : DOK E.1 hb (adX (adX Y (thX E Y) (-5)) 8 1) := dok_ad (dok_ad hY (by omega) (by omega) (by omega) _) (by omega) (by omega) (by omega) _
          have at8 : atX (adX (adX Y (thX E Y) (-5)) 8 1) < E.1 := by
            rw [at_c (X' := Y) (by rw [ad_n _ _ (by omega), ad_n _ _ (by omega)])]; exact cA
          rw [if_neg c0, if_pos c1, ad_p1 (dok_12 hA8) hO.1 at8, upd_n _ _ (by omega), upd_n _ _ (by omega)]
          rw [upd_cm _ _ _ (show 13 ≠ 12 by omega), upd_cm _ _ _ (show 9 ≠ 12 by omega)]
        · rw [if_neg c1]
          by_cases c2 : dn = 2
          · rw [if_pos c2]
            by_cases c12 : Y 12 ≤ 0
            · rw [if_pos c12]
              refine fin _ ?_
              unfold foX lvX
              rw [if_neg c0, if_neg c1, if_pos c2, ad_m1 (dok_12 hY) hO.1, if_pos c12]
            · rw [if_neg c12]
              refine fin _ ?_
              unfold foX lvX
              rw [if_neg c0, if_neg c1, if_pos c2, ad_m1 (dok_12 hY) hO.1, if_neg c12]
          · rw [if_neg c2, m_more p _ 8 8 (by omega) (by omega) (by omega) rfl, bnd1_e]
            refine fin _ ?_
            unfold foX
            rw [if_neg c0, if_neg c1, if_neg c2]
  · rw [if_neg cA, if_neg cA]
    exact ⟨pl, rfl⟩
end MS
