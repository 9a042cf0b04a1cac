/-! PURE: the donkey on the road: what a half minute does, as a function of its 15 numbers; the class's step -/
abbrev EVt : Type := Nat × (Nat → Int32) × (Nat → Int32) × (Nat → Int32) × (Nat → (Nat → Int32) → Int32) × (Nat → Int32)
def atX (X : Nat → Int32) : Nat := (X 12).toNatClampNeg
def thX (E : EVt) (X : Nat → Int32) : Nat := (E.2.2.2.1 (atX X)).toNatClampNeg
def fcX (E : EVt) (X : Nat → Int32) (k : Nat) : Int32 :=
  if k = 0 then X (thX E X) else if k = 1 then X 7 else if k = 2 then X 6 else if k = 3 then X 8 else if k = 4 then (if 0 ≤ (X 10 - X 11) then (X 10 - X 11) else 0 - (X 10 - X 11)) else if k = 5 then (if (X 10 + X 11) < (99 : Int32) then (X 10 + X 11) else (99 : Int32)) else if k = 6 then X 12 else if k = 7 then E.2.1 (atX X) else X 14 - X 14 / 60 * 60
def frK (E : EVt) (X : Nat → Int32) (f : Int32) : Int32 :=
  if E.2.1 (atX X) = 1 then f * 2 else if E.2.1 (atX X) = 4 then (if (0 : Int32) < (f * 2 - E.2.2.1 (atX X) * X 9) then (f * 2 - E.2.2.1 (atX X) * X 9) else (0 : Int32)) else f
def frX (E : EVt) (X : Nat → Int32) (act : Int32) : Int32 :=
  if act = 3 then 0 else if act = 2 then frK E X (X (thX E X) / 2) else frK E X (X (thX E X))
def lsX (E : EVt) (X : Nat → Int32) (act : Int32) (i : Nat) : Int32 :=
  if i = 0 then E.2.2.2.2.1 1 (fcX E X) else if i = 1 then frX E X act else if i = 2 then (if E.2.1 (atX X) = 2 ∨ E.2.1 (atX X) = 5 then E.2.2.2.2.1 2 (fcX E X) else 0) else if i = 3 then (if E.2.1 (atX X) = 3 ∨ E.2.1 (atX X) = 6 then X 6 else 0) else if i = 4 then (if E.2.1 (atX X) = 5 then X 8 / 2 else 0) else if i = 5 then (if E.2.1 (atX X) = 6 then E.2.2.1 (atX X) * X 12 else 0) else (if X 13 = 0 then 0 else 15)
def mrX (E : EVt) (X : Nat → Int32) (act : Int32) : Int32 :=
  if act = 1 then E.2.2.2.2.2 3 else if act = 3 then -20 else if act = 4 then X 7 / 2 else if act = 7 then E.2.2.2.2.2 4 else 0
def drX (E : EVt) (X : Nat → Int32) (act : Int32) : Int32 :=
  E.2.2.2.2.1 0 (fcX E X) + mrX E X act - lsX E X act 0 - lsX E X act 1 - lsX E X act 2 - lsX E X act 3 - lsX E X act 4 - lsX E X act 5 - lsX E X act 6
def dnX (d : Int32) : Int32 := if d ≤ 0 then (if d < (-14) then (if d < (-39) then 3 else 2) else 0) else 1
def adX (X : Nat → Int32) (w : Nat) (b : Int32) : Nat → Int32 := upd X w (if 0 ≤ (X w + b) then (if (X w + b) ≤ mostF w then X w + b else mostF w) else 0)
def lvX (X : Nat → Int32) (b : Int32) : Nat → Int32 := upd (upd (adX X 12 b) 9 0) 13 0
def foX (E : EVt) (X : Nat → Int32) (act dn : Int32) (th : Nat) : Nat → Int32 :=
  if dn = 0 then (if act = 7 then upd X 13 0 else upd (adX (adX X th (-(E.2.2.2.2.2 5))) 9 1) 13 0) else if dn = 1 then lvX (adX (adX X th (-5)) 8 1) 1 else if dn = 2 then lvX X (-1) else adX (upd X 13 1) 8 (-1)
def anX (X : Nat → Int32) (act dn : Int32) (th : Nat) : Nat → Int32 :=
  if act = 1 then adX X 6 (if dn = 1 then 0 else -1) else if act = 4 then adX (adX X 6 (if dn = 1 then -1 else 5)) 7 (-3) else if act = 5 then adX (adX X 10 (-5)) 11 (-5) else if act = 7 then adX (adX X th (if dn = 1 then 0 else 3)) 6 (if dn = 1 then 0 else -2) else X
def hfX (E : EVt) (act : Int32) : Int32 := if act = 6 then (if (1 : Int32) < E.2.2.2.2.2 6 then E.2.2.2.2.2 6 else (1 : Int32)) else 1
def stX (E : EVt) (X : Nat → Int32) (act w : Int32) : (Nat → Int32) × Int32 :=
  if atX X < E.1 then (if act = 6 then (adX (lvX (adX X 6 10) 1) 14 (hfX E act), 1) else (adX (anX (foX E X act (dnX (drX E X act - w)) (thX E X)) act (dnX (drX E X act - w)) (thX E X)) 14 (hfX E act), dnX (drX E X act - w))) else (X, -5)
def EOK (E : EVt) : Prop := E.1 ≤ 10 ∧ (∀ k, k < E.1 → inR (E.2.1 k) 0 6 ∧ inR (E.2.2.1 k) 0 9 ∧ inR (E.2.2.2.1 k) 0 5) ∧ LwOK E.2.2.2.2.1 E.2.2.2.2.2
def EnC (g : STt) (E : EVt) : Prop := g.1 2 0 = nI E.1 ∧ (∀ k, k < E.1 → g.2.1 3 0 k = E.2.1 k ∧ g.2.1 4 0 k = E.2.2.1 k ∧ g.2.1 5 0 k = E.2.2.2.1 k) ∧ g.2.2.2 < 7 ∧ LwC g g.2.2.2 E.2.2.2.2.1 E.2.2.2.2.2
/-! the state with other facts, other lessenings, another donkey d -/
def cs (g : STt) (d : Nat) (F L Y : Nat → Int32) : STt := sA (sA (sA g 7 0 F) 8 0 L) 22 d Y
theorem cs_1 (g : STt) (d : Nat) (F L Y : Nat → Int32) : (cs g d F L Y).1 = g.1 := rfl
theorem cs_22 (g : STt) (d : Nat) (F L Y : Nat → Int32) : (cs g d F L Y).2.1 22 d = Y := sA_s _ _ _ _
theorem cs_7 (g : STt) (d : Nat) (F L Y : Nat → Int32) : (cs g d F L Y).2.1 7 0 = F := rfl
theorem cs_8 (g : STt) (d : Nat) (F L Y : Nat → Int32) : (cs g d F L Y).2.1 8 0 = L := rfl
theorem cs_22n (g : STt) (d : Nat) (F L Y : Nat → Int32) {e : Nat} (h : e ≠ d) : (cs g d F L Y).2.1 22 e = g.2.1 22 e := by
  show (sA (sA (sA g 7 0 F) 8 0 L) 22 d Y).2.1 22 e = _
  rw [sA_n _ _ (by omega)]
  rfl
theorem cs_n (g : STt) (d : Nat) (F L Y : Nat → Int32) {c i : Nat} (h1 : c ≠ 7) (h2 : c ≠ 8) (h3 : c ≠ 22) : (cs g d F L Y).2.1 c i = g.2.1 c i := by
  show (sA (sA (sA g 7 0 F) 8 0 L) 22 d Y).2.1 c i = _
  rw [sA_n _ _ (by omega), sA_n _ _ (by omega), sA_n _ _ (by omega)]
theorem cs_w (g : STt) (d : Nat) (F L Y : Nat → Int32) : (cs g d F L Y).2.2 = g.2.2 := rfl
theorem st_ext {g g' : STt} (h1 : g.1 = g'.1) (h2 : ∀ c i, g.2.1 c i = g'.2.1 c i) (h3 : g.2.2 = g'.2.2) : g = g' := by
  obtain ⟨a, b, c⟩ := g
  obtain ⟨a', b', c'⟩ := g'
  have e : b = b' := funext fun c => funext fun i => h2 c i
  have e1 : a = a' := h1
  have e3 : c = c' := h3
  rw [e, e1, e3]
theorem cs_id (g : STt) (d : Nat) : cs g d (g.2.1 7 0) (g.2.1 8 0) (g.2.1 22 d) = g := by
  refine st_ext rfl (fun c i => ?_) rfl
  by_cases h : c = 22 ∧ i = d
  · obtain ⟨rfl, rfl⟩ := h
    rw [cs_22]
  · show (sA (sA (sA g 7 0 _) 8 0 _) 22 d _).2.1 c i = _
    rw [sA_n _ _ h]
    by_cases h2 : c = 8 ∧ i = 0
    · obtain ⟨rfl, rfl⟩ := h2
      rw [sA_s]
    · rw [sA_n _ _ h2]
      by_cases h3 : c = 7 ∧ i = 0
      · obtain ⟨rfl, rfl⟩ := h3
        rw [sA_s]
      · rw [sA_n _ _ h3]
theorem cs_u22 (g : STt) (d : Nat) (F L Y : Nat → Int32) (k : Nat) (v : Int32) : sA1 (cs g d F L Y) 22 d k v = cs g d F L (upd Y k v) := by
  show sA1 (sA (sA (sA g 7 0 F) 8 0 L) 22 d Y) 22 d k v = _
  rw [sA1_sA]
  rfl
theorem cs_u7 (g : STt) (d : Nat) (F L Y : Nat → Int32) (k : Nat) (v : Int32) : sA1 (cs g d F L Y) 7 0 k v = cs g d (upd F k v) L Y := by
  refine st_ext rfl (fun c i => ?_) rfl
  show (if c = 7 ∧ i = 0 then upd F k v else (cs g d F L Y).2.1 c i) = (cs g d (upd F k v) L Y).2.1 c i
  by_cases h : c = 7 ∧ i = 0
  · obtain ⟨rfl, rfl⟩ := h
    rw [if_pos ⟨rfl, rfl⟩]
    rfl
  · rw [if_neg h]
    show (if c = 22 ∧ i = d then Y else if c = 8 ∧ i = 0 then L else if c = 7 ∧ i = 0 then F else g.2.1 c i) = (if c = 22 ∧ i = d then Y else if c = 8 ∧ i = 0 then L else if c = 7 ∧ i = 0 then upd F k v else g.2.1 c i)
    rw [if_neg (c := c = 7 ∧ i = 0) h, if_neg (c := c = 7 ∧ i = 0) h]
theorem cs_u8 (g : STt) (d : Nat) (F L Y : Nat → Int32) (k : Nat) (v : Int32) : sA1 (cs g d F L Y) 8 0 k v = cs g d F (upd L k v) Y := by
  refine st_ext rfl (fun c i => ?_) rfl
  show (if c = 8 ∧ i = 0 then upd L k v else (cs g d F L Y).2.1 c i) = (cs g d F (upd L k v) Y).2.1 c i
  by_cases h : c = 8 ∧ i = 0
  · obtain ⟨rfl, rfl⟩ := h
    rw [if_pos ⟨rfl, rfl⟩]
    rfl
  · rw [if_neg h]
    show (if c = 22 ∧ i = d then Y else if c = 8 ∧ i = 0 then L else if c = 7 ∧ i = 0 then F else g.2.1 c i) = (if c = 22 ∧ i = d then Y else if c = 8 ∧ i = 0 then upd L k v else if c = 7 ∧ i = 0 then F else g.2.1 c i)
    rw [if_neg (c := c = 8 ∧ i = 0) h, if_neg (c := c = 8 ∧ i = 0) h]
theorem cs_cs (g : STt) (d : Nat) (F L Y F' L' Y' : Nat → Int32) : cs (cs g d F L Y) d F' L' Y' = cs g d F' L' Y' := by
  refine st_ext rfl (fun c i => ?_) rfl
  show (if c = 22 ∧ i = d then Y' else if c = 8 ∧ i = 0 then L' else if c = 7 ∧ i = 0 then F' else if c = 22 ∧ i = d then Y else if c = 8 ∧ i = 0 then L else if c = 7 ∧ i = 0 then F else g.2.1 c i) = (if c = 22 ∧ i = d then Y' else if c = 8 ∧ i = 0 then L' else if c = 7 ∧ i = 0 then F' else g.2.1 c i)
  by_cases h1 : c = 22 ∧ i = d
  · simp only [if_pos h1]
  · by_cases h2 : c = 8 ∧ i = 0
    · simp only [if_neg h1, if_pos h2]
    · by_cases h3 : c = 7 ∧ i = 0
      · simp only [if_neg h1, if_neg h2, if_pos h3]
      · simp only [if_neg h1, if_neg h2, if_neg h3]
section CS
variable {g : STt} {E : EVt} {d : Nat}
theorem EnC_cs (h : EnC g E) (F L Y : Nat → Int32) : EnC (cs g d F L Y) E := by
  obtain ⟨h1, h2, h3, h4⟩ := h
  refine ⟨h1, fun k hk => ?_, h3, fun g' e1 e2 e3 e4 e5 e6 => ?_⟩
  · rw [cs_n _ _ _ _ _ (by omega) (by omega) (by omega), cs_n _ _ _ _ _ (by omega) (by omega) (by omega), cs_n _ _ _ _ _ (by omega) (by omega) (by omega)]
    exact h2 k hk
  · rw [cs_n _ _ _ _ _ (by omega) (by omega) (by omega)] at e3 e4 e5 e6
    exact h4 g' e1 e2 e3 e4 e5 e6
theorem c_get (F L Y : Nat → Int32) {x : Int32} (k : Nat) (hk : k < 15) (hx : x = nI k) : fX1_get (cs g d F L Y) d x = some (Y k) := by
  rw [eX1_getk _ d x k hk hx, cs_22]
theorem c_get6 (F L Y : Nat → Int32) : fX1_get (cs g d F L Y) d 6 = some (Y 6) := c_get F L Y 6 (by omega) rfl
theorem c_get7 (F L Y : Nat → Int32) : fX1_get (cs g d F L Y) d 7 = some (Y 7) := c_get F L Y 7 (by omega) rfl
theorem c_get8 (F L Y : Nat → Int32) : fX1_get (cs g d F L Y) d 8 = some (Y 8) := c_get F L Y 8 (by omega) rfl
theorem c_get9 (F L Y : Nat → Int32) : fX1_get (cs g d F L Y) d 9 = some (Y 9) := c_get F L Y 9 (by omega) rfl
theorem c_get10 (F L Y : Nat → Int32) : fX1_get (cs g d F L Y) d 10 = some (Y 10) := c_get F L Y 10 (by omega) rfl
theorem c_get11 (F L Y : Nat → Int32) : fX1_get (cs g d F L Y) d 11 = some (Y 11) := c_get F L Y 11 (by omega) rfl
theorem c_get12 (F L Y : Nat → Int32) : fX1_get (cs g d F L Y) d 12 = some (Y 12) := c_get F L Y 12 (by omega) rfl
theorem c_get14 (F L Y : Nat → Int32) : fX1_get (cs g d F L Y) d 14 = some (Y 14) := c_get F L Y 14 (by omega) rfl
theorem at_eq {Y : Nat → Int32} {P : Nat} (h : inR (Y 12) 0 P) (hP : P ≤ 10) : Y 12 = nI (atX Y) ∧ atX Y ≤ P := by
  obtain ⟨k, hk, e⟩ := inB_of (x := Y 12) (n := P + 1) (inB_iff.mpr (by have := h.1; have := h.2; omega)) (by omega)
  unfold atX
  rw [e, nI_c (by omega)]
  exact ⟨rfl, by omega⟩
theorem c_P (hE : EnC g E) (hO : EOK E) (F L Y : Nat → Int32) : ((cs g d F L Y).1 2 0).toInt = E.1 := by
  rw [cs_1, hE.1]; exact nI_toInt (by have := hO.1; omega)
theorem c_over (hE : EnC g E) (hO : EOK E) (F L Y : Nat → Int32) (hY : inR (Y 12) 0 E.1) : fX9_isOver (cs g d F L Y) d = some (if atX Y < E.1 then 0 else 1) := by
  obtain ⟨e, he⟩ := at_eq hY hO.1
  have h10 := hO.1
  unfold fX9_isOver
  rw [c_get12, bnd1_e, eX4_has (c_P hE hO F L Y), e]
  by_cases c : atX Y < E.1
  · rw [if_pos (inB_nI c (by omega)), if_pos c, bnd1_e, if_neg (by decide)]
  · rw [if_neg (by rw [inB_iff, nI_toInt (by omega)]; omega), if_neg c, bnd1_e, if_pos rfl]
theorem c_kind (hE : EnC g E) (hO : EOK E) (F L Y Z : Nat → Int32) (hY : inR (Y 12) 0 E.1) (hA : atX Y < E.1) : fX4_kindOf (cs g d F L Z) (Y 12) = some (E.2.1 (atX Y)) := by
  obtain ⟨e, he⟩ := at_eq hY hO.1
  have h10 := hO.1
  rw [eX4_kindOf (c_P hE hO F L Z) hO.1, e, if_pos (inB_nI hA (by omega)), nI_c (by omega), cs_n _ _ _ _ _ (by omega) (by omega) (by omega), (hE.2.1 _ hA).1]
theorem c_num (hE : EnC g E) (hO : EOK E) (F L Y Z : Nat → Int32) (hY : inR (Y 12) 0 E.1) (hA : atX Y < E.1) : fX4_numberOf (cs g d F L Z) (Y 12) = some (E.2.2.1 (atX Y)) := by
  obtain ⟨e, he⟩ := at_eq hY hO.1
  have h10 := hO.1
  rw [eX4_numberOf (c_P hE hO F L Z) hO.1, e, if_pos (inB_nI hA (by omega)), nI_c (by omega), cs_n _ _ _ _ _ (by omega) (by omega) (by omega), (hE.2.1 _ hA).2.1]
theorem c_thing (hE : EnC g E) (hO : EOK E) (F L Y Z : Nat → Int32) (hY : inR (Y 12) 0 E.1) (hA : atX Y < E.1) : fX4_thingOf (cs g d F L Z) (Y 12) = some (nI (thX E Y)) ∧ thX E Y < 6 := by
  obtain ⟨e, he⟩ := at_eq hY hO.1
  have h10 := hO.1
  obtain ⟨-, -, t1, t2⟩ := hO.2.1 _ hA
  obtain ⟨k, hk, ek⟩ := inB_of (x := E.2.2.2.1 (atX Y)) (n := 6) (inB_iff.mpr (by omega)) (by omega)
  have et : thX E Y = k := by unfold thX; rw [ek, nI_c (by omega)]
  rw [eX4_thingOf (c_P hE hO F L Z) hO.1, e, if_pos (inB_nI hA (by omega)), nI_c (by omega), cs_n _ _ _ _ _ (by omega) (by omega) (by omega), (hE.2.1 _ hA).2.2, et, ek]
  exact ⟨rfl, hk⟩
theorem i09 : inB 0 9 = true := by decide
theorem i19 : inB 1 9 = true := by decide
theorem i29 : inB 2 9 = true := by decide
theorem i39 : inB 3 9 = true := by decide
theorem i49 : inB 4 9 = true := by decide
theorem i59 : inB 5 9 = true := by decide
theorem i69 : inB 6 9 = true := by decide
theorem i79 : inB 7 9 = true := by decide
theorem i89 : inB 8 9 = true := by decide
theorem c_look (hE : EnC g E) (hO : EOK E) (F L Y : Nat → Int32) (hY : inR (Y 12) 0 E.1) (hA : atX Y < E.1) : ∃ F', fX9_lookAround (cs g d F L Y) d = some (cs g d F' L Y) ∧ ∀ k, k < 9 → F' k = fcX E Y k := by
  have ht := fun F L => (c_thing (d := d) hE hO F L Y Y hY hA).1
  have hf := fun F L => c_get (g := g) (d := d) F L Y (thX E Y) (by have := (c_thing (d := d) hE hO F L Y Y hY hA).2; omega) rfl
  have hk := fun F L => c_kind (d := d) hE hO F L Y Y hY hA
  unfold fX9_lookAround
  simp only [c_get10, c_get11, c_get12, c_get7, c_get6, c_get8, c_get14, bnd1_e, ht, hf, hk, cs_u7, i09, i19, i29, i39, i49, i59, i69, i79, i89, if_true, Int32.reduceToNatClampNeg]
  refine ⟨_, rfl, fun k hk9 => ?_⟩
  have e : k = 0 ∨ k = 1 ∨ k = 2 ∨ k = 3 ∨ k = 4 ∨ k = 5 ∨ k = 6 ∨ k = 7 ∨ k = 8 := by omega
  rcases e with rfl | rfl | rfl | rfl | rfl | rfl | rfl | rfl | rfl <;> rfl
theorem c_tog (hE : EnC g E) (hO : EOK E) (F L Y : Nat → Int32) {X : Nat → Int32} (hF : ∀ k, k < 9 → F k = fcX E X k) (w : Nat) (hw : w < 3) {W : Nat} (hW : W = g.2.2.2) : fX2_together (cs g d F L Y) W (nI w) = some (E.2.2.2.2.1 w (fcX E X)) := by
  subst hW
  have h := (hE.2.2.2 (cs g d F L Y) rfl rfl (cs_n _ _ _ _ _ (by omega) (by omega) (by omega)) (cs_n _ _ _ _ _ (by omega) (by omega) (by omega)) (cs_n _ _ _ _ _ (by omega) (by omega) (by omega)) (cs_n _ _ _ _ _ (by omega) (by omega) (by omega))).1 w hw
  rw [h, cs_7, hO.2.2.1 w F (fcX E X) hF]
theorem c_last (hE : EnC g E) (F L Y : Nat → Int32) (w : Nat) (hw : 3 ≤ w) (hw2 : w < 7) {W : Nat} (hW : W = g.2.2.2) : fX2_last (cs g d F L Y) W (nI w) = some (E.2.2.2.2.2 w) := by
  subst hW
  exact (hE.2.2.2 (cs g d F L Y) rfl rfl (cs_n _ _ _ _ _ (by omega) (by omega) (by omega)) (cs_n _ _ _ _ _ (by omega) (by omega) (by omega)) (cs_n _ _ _ _ _ (by omega) (by omega) (by omega)) (cs_n _ _ _ _ _ (by omega) (by omega) (by omega))).2 w hw hw2
theorem c_last3 (hE : EnC g E) (F L Y : Nat → Int32) : fX2_last (cs g d F L Y) (cs g d F L Y).2.2.2 3 = some (E.2.2.2.2.2 3) := c_last hE F L Y 3 (by omega) (by omega) rfl
theorem c_last4 (hE : EnC g E) (F L Y : Nat → Int32) : fX2_last (cs g d F L Y) (cs g d F L Y).2.2.2 4 = some (E.2.2.2.2.2 4) := c_last hE F L Y 4 (by omega) (by omega) rfl
theorem c_last5 (hE : EnC g E) (F L Y : Nat → Int32) : fX2_last (cs g d F L Y) (cs g d F L Y).2.2.2 5 = some (E.2.2.2.2.2 5) := c_last hE F L Y 5 (by omega) (by omega) rfl
theorem c_last6 (hE : EnC g E) (F L Y : Nat → Int32) : fX2_last (cs g d F L Y) (cs g d F L Y).2.2.2 6 = some (E.2.2.2.2.2 6) := c_last hE F L Y 6 (by omega) (by omega) rfl
theorem c_W (hE : EnC g E) (F L Y : Nat → Int32) : (cs g d F L Y).2.2.2 < 7 := hE.2.2.1
theorem c_frK (hE : EnC g E) (hO : EOK E) (F L Y : Nat → Int32) (hY : inR (Y 12) 0 E.1) (hA : atX Y < E.1) (f : Int32) : fX9_fearThatCounts_j42 (cs g d F L Y) d (Y 12) f = some (frK E Y f) := by
  unfold fX9_fearThatCounts_j42 frK
  rw [c_kind hE hO F L Y Y hY hA, bnd1_e]
  by_cases c1 : E.2.1 (atX Y) = 1
  · rw [if_pos c1, if_pos c1]
  · rw [if_neg c1, if_neg c1]
    by_cases c2 : E.2.1 (atX Y) = 4
    · rw [if_pos c2, if_pos c2, c_num hE hO F L Y Y hY hA, bnd1_e, c_get9, bnd1_e]
    · rw [if_neg c2, if_neg c2]
theorem c_fear (hE : EnC g E) (hO : EOK E) (F L Y : Nat → Int32) (hY : inR (Y 12) 0 E.1) (hA : atX Y < E.1) (act : Int32) : fX9_fearThatCounts (cs g d F L Y) d act = some (frX E Y act) := by
  obtain ⟨t1, t2⟩ := c_thing (d := d) hE hO F L Y Y hY hA
  unfold fX9_fearThatCounts frX
  by_cases c1 : act = 3
  · rw [if_pos c1, if_pos c1]
  · rw [if_neg c1, if_neg c1, c_get12, bnd1_e, t1, bnd1_e, c_get F L Y (thX E Y) (by omega) rfl, bnd1_e]
    by_cases c2 : act = 2
    · rw [if_pos c2, if_pos c2, c_frK hE hO F L Y hY hA]
    · rw [if_neg c2, if_neg c2, c_frK hE hO F L Y hY hA]
theorem c_more (hE : EnC g E) (F L Y : Nat → Int32) (act : Int32) : fX9_moreBy (cs g d F L Y) d act = some (mrX E Y act) := by
  unfold fX9_moreBy mrX
  rw [if_pos (c_W (d := d) hE F L Y), if_pos (c_W (d := d) hE F L Y), c_last3 hE, c_last4 hE, c_get7, bnd1_e, bnd1_e, bnd1_e]
  by_cases c1 : act = 1
  · rw [if_pos c1, if_pos c1]
  · rw [if_neg c1, if_neg c1]
    by_cases c2 : act = 2
    · subst c2; rfl
    · rw [if_neg c2]
      by_cases c3 : act = 3
      · rw [if_pos c3, if_pos c3]
      · rw [if_neg c3, if_neg c3]
        by_cases c4 : act = 4
        · rw [if_pos c4, if_pos c4]
        · rw [if_neg c4, if_neg c4]
          by_cases c5 : act = 5
          · subst c5; rfl
          · rw [if_neg c5]
            by_cases c6 : act = 6
            · subst c6; rfl
            · rw [if_neg c6]
              by_cases c7 : act = 7
              · rw [if_pos c7, if_pos c7]
              · rw [if_neg c7, if_neg c7]
theorem c_sub (g : STt) : ∀ (n k : Nat) (a : Int32), k ≤ 7 → 7 - k < n → iterO (fun K z => fX9_weigh_l234c K g z.1 z.2) n (a, nI k) = some (g, ((List.range (7 - k)).map (fun j => g.2.1 8 0 (k + j))).foldl (· - ·) a) := by
  intro n
  induction n with
  | zero => intro k a h1 h2; omega
  | succ n ih =>
    intro k a h1 h2
    rw [iterO_succ]
    generalize iterO (fun K z => fX9_weigh_l234c K g z.1 z.2) n = K at ih ⊢
    show fX9_weigh_l234c K g a (nI k) = _
    unfold fX9_weigh_l234c
    by_cases c : k = 7
    · subst c; rw [if_pos (by decide)]; rfl
    · rw [if_neg (show ¬ (7 : Int32) ≤ nI k from nI_ge (b := 7) (by omega) (by omega)), if_pos (inB_nI (by omega) (by omega)), nI_c (by omega), nI_1, ih (k + 1) _ (by omega) (by omega)]
      rw [show 7 - k = (7 - (k + 1)) + 1 by omega, List.range_succ_eq_map, List.map_cons, List.foldl_cons, List.map_map]
      congr 3
      apply List.map_congr_left
      intro j _
      show g.2.1 8 0 (k + 1 + j) = g.2.1 8 0 (k + (j + 1))
      rw [show k + 1 + j = k + (j + 1) by omega]
theorem c_sub7 (g : STt) (a : Int32) : fX9_weigh_l234 g a 0 = some (g, a - g.2.1 8 0 0 - g.2.1 8 0 1 - g.2.1 8 0 2 - g.2.1 8 0 3 - g.2.1 8 0 4 - g.2.1 8 0 5 - g.2.1 8 0 6) := by
  unfold fX9_weigh_l234
  exact c_sub g fuelN 0 a (by omega) (by show 7 - 0 < 5000; omega)
theorem c_sits (F L Y : Nat → Int32) : fX1_sits (cs g d F L Y) d = some (if Y 13 = 0 then 0 else 1) := by
  unfold fX1_sits
  rw [if_pos (by decide), cs_22]
  show (if Y 13 = 0 then _ else _) = _
  by_cases c : Y 13 = 0
  · rw [if_pos c, if_pos c]
  · rw [if_neg c, if_neg c]
theorem c_tog0 (hE : EnC g E) (hO : EOK E) (F L Y : Nat → Int32) {X : Nat → Int32} (hF : ∀ k, k < 9 → F k = fcX E X k) : fX2_together (cs g d F L Y) (cs g d F L Y).2.2.2 0 = some (E.2.2.2.2.1 0 (fcX E X)) := c_tog hE hO F L Y hF 0 (by omega) rfl
theorem c_tog1 (hE : EnC g E) (hO : EOK E) (F L Y : Nat → Int32) {X : Nat → Int32} (hF : ∀ k, k < 9 → F k = fcX E X k) : fX2_together (cs g d F L Y) (cs g d F L Y).2.2.2 1 = some (E.2.2.2.2.1 1 (fcX E X)) := c_tog hE hO F L Y hF 1 (by omega) rfl
theorem c_tog2 (hE : EnC g E) (hO : EOK E) (F L Y : Nat → Int32) {X : Nat → Int32} (hF : ∀ k, k < 9 → F k = fcX E X k) : fX2_together (cs g d F L Y) (cs g d F L Y).2.2.2 2 = some (E.2.2.2.2.1 2 (fcX E X)) := c_tog hE hO F L Y hF 2 (by omega) rfl
theorem lk_up {L f : Nat → Int32} {n : Nat} {v : Int32} (h : ∀ i, i < n → L i = f i) (hv : v = f n) : ∀ i, i < n + 1 → upd L n v i = f i := fun i hi => by
  by_cases e : i = n
  · rw [e, upd_s, hv]
  · rw [upd_n _ _ e]; exact h i (by omega)
theorem c_j209 (hE : EnC g E) (hO : EOK E) {F L Y : Nat → Int32} {act : Int32} (hF : ∀ k, k < 9 → F k = fcX E Y k) (hL : ∀ i, i < 6 → L i = lsX E Y act i) {v : Int32} (hv : v = lsX E Y act 6) : ∃ L', fX9_weigh_j209 (cs g d F L Y) d act v 6 = some (cs g d F L' Y, drX E Y act) ∧ ∀ i, i < 7 → L' i = lsX E Y act i := by
  have h7 := lk_up hL hv
  refine ⟨upd L 6 v, ?_, h7⟩
  unfold fX9_weigh_j209
  simp only [Int32.reduceToNatClampNeg, cs_u8]
  rw [if_pos (by decide), if_pos (c_W (d := d) hE _ _ _), c_tog0 hE hO _ _ _ hF, bnd1_e, c_more hE, bnd1_e, c_sub7, cs_8, h7 0 (by omega), h7 1 (by omega), h7 2 (by omega), h7 3 (by omega), h7 4 (by omega), h7 5 (by omega), h7 6 (by omega)]
  rfl
theorem c_j189 (hE : EnC g E) (hO : EOK E) {F L Y : Nat → Int32} {act : Int32} (hF : ∀ k, k < 9 → F k = fcX E Y k) (hL : ∀ i, i < 5 → L i = lsX E Y act i) {v : Int32} (hv : v = lsX E Y act 5) : ∃ L', fX9_weigh_j189 (cs g d F L Y) d act v 5 = some (cs g d F L' Y, drX E Y act) ∧ ∀ i, i < 7 → L' i = lsX E Y act i := by
  have h7 := lk_up hL hv
  unfold fX9_weigh_j189
  simp only [Int32.reduceToNatClampNeg, cs_u8]
  rw [if_pos (by decide), c_sits, b_if2]
  by_cases c : Y 13 = 0
  · rw [if_pos c]; exact c_j209 hE hO hF h7 (by show _ = (if Y 13 = 0 then (0 : Int32) else 15); rw [if_pos c])
  · rw [if_neg c]; exact c_j209 hE hO hF h7 (by show _ = (if Y 13 = 0 then (0 : Int32) else 15); rw [if_neg c])
theorem c_j162 (hE : EnC g E) (hO : EOK E) {F L Y : Nat → Int32} {act : Int32} (hY : inR (Y 12) 0 E.1) (hA : atX Y < E.1) (hF : ∀ k, k < 9 → F k = fcX E Y k) (hL : ∀ i, i < 4 → L i = lsX E Y act i) {v : Int32} (hv : v = lsX E Y act 4) : ∃ L', fX9_weigh_j162 (cs g d F L Y) d act (Y 12) (E.2.1 (atX Y)) v 4 = some (cs g d F L' Y, drX E Y act) ∧ ∀ i, i < 7 → L' i = lsX E Y act i := by
  have h7 := lk_up hL hv
  unfold fX9_weigh_j162
  simp only [Int32.reduceToNatClampNeg, cs_u8]
  rw [if_pos (by decide), c_num hE hO _ _ _ _ hY hA, bnd1_e]
  by_cases c : E.2.1 (atX Y) = 6
  · rw [if_pos c]; exact c_j189 hE hO hF h7 (by show _ = (if E.2.1 (atX Y) = 6 then E.2.2.1 (atX Y) * Y 12 else 0); rw [if_pos c])
  · rw [if_neg c]; exact c_j189 hE hO hF h7 (by show _ = (if E.2.1 (atX Y) = 6 then E.2.2.1 (atX Y) * Y 12 else 0); rw [if_neg c])
theorem c_j138 (hE : EnC g E) (hO : EOK E) {F L Y : Nat → Int32} {act : Int32} (hY : inR (Y 12) 0 E.1) (hA : atX Y < E.1) (hF : ∀ k, k < 9 → F k = fcX E Y k) (hL : ∀ i, i < 3 → L i = lsX E Y act i) {v : Int32} (hv : v = lsX E Y act 3) : ∃ L', fX9_weigh_j138 (cs g d F L Y) d act (Y 12) (E.2.1 (atX Y)) v 3 = some (cs g d F L' Y, drX E Y act) ∧ ∀ i, i < 7 → L' i = lsX E Y act i := by
  have h7 := lk_up hL hv
  unfold fX9_weigh_j138
  simp only [Int32.reduceToNatClampNeg, cs_u8]
  rw [if_pos (by decide), c_get8, bnd1_e]
  by_cases c : E.2.1 (atX Y) = 5
  · rw [if_pos c]; exact c_j162 hE hO hY hA hF h7 (by show _ = (if E.2.1 (atX Y) = 5 then Y 8 / 2 else 0); rw [if_pos c])
  · rw [if_neg c]; exact c_j162 hE hO hY hA hF h7 (by show _ = (if E.2.1 (atX Y) = 5 then Y 8 / 2 else 0); rw [if_neg c])
theorem c_j117 (hE : EnC g E) (hO : EOK E) {F L Y : Nat → Int32} {act : Int32} (hY : inR (Y 12) 0 E.1) (hA : atX Y < E.1) (hF : ∀ k, k < 9 → F k = fcX E Y k) (hL : ∀ i, i < 2 → L i = lsX E Y act i) {v : Int32} (hv : v = lsX E Y act 2) {sp : Int32} (hsp : sp = if E.2.1 (atX Y) = 3 ∨ E.2.1 (atX Y) = 6 then 1 else 0) : ∃ L', fX9_weigh_j117 (cs g d F L Y) d act (Y 12) (E.2.1 (atX Y)) sp v 2 = some (cs g d F L' Y, drX E Y act) ∧ ∀ i, i < 7 → L' i = lsX E Y act i := by
  have h7 := lk_up hL hv
  unfold fX9_weigh_j117
  simp only [Int32.reduceToNatClampNeg, cs_u8]
  rw [if_pos (by decide), c_get6, bnd1_e]
  by_cases c : E.2.1 (atX Y) = 3 ∨ E.2.1 (atX Y) = 6
  · rw [if_pos c] at hsp
    subst hsp
    rw [if_neg (by decide)]; exact c_j138 hE hO hY hA hF h7 (by show _ = (if E.2.1 (atX Y) = 3 ∨ E.2.1 (atX Y) = 6 then Y 6 else 0); rw [if_pos c])
  · rw [if_neg c] at hsp
    subst hsp
    rw [if_pos rfl]; exact c_j138 hE hO hY hA hF h7 (by show _ = (if E.2.1 (atX Y) = 3 ∨ E.2.1 (atX Y) = 6 then Y 6 else 0); rw [if_neg c])
theorem c_j54 (hE : EnC g E) (hO : EOK E) {F L Y : Nat → Int32} {act : Int32} (hY : inR (Y 12) 0 E.1) (hA : atX Y < E.1) {so sp : Int32} (hso : so = if E.2.1 (atX Y) = 2 ∨ E.2.1 (atX Y) = 5 then 1 else 0) (hsp : sp = if E.2.1 (atX Y) = 3 ∨ E.2.1 (atX Y) = 6 then 1 else 0) : ∃ F' L', fX9_weigh_j54 (cs g d F L Y) d act (Y 12) (E.2.1 (atX Y)) so sp = some (cs g d F' L' Y, drX E Y act) ∧ ∀ i, i < 7 → L' i = lsX E Y act i := by
  obtain ⟨F', e1, hF⟩ := c_look (d := d) hE hO F L Y hY hA
  refine ⟨F', ?_⟩
  unfold fX9_weigh_j54
  rw [e1, bnd1_e, if_pos (c_W (d := d) hE _ _ _), c_tog1 hE hO _ _ _ hF, bnd1_e]
  simp only [Int32.reduceToNatClampNeg, cs_u8]
  rw [if_pos (by decide), c_fear hE hO _ _ _ hY hA, bnd1_e]
  rw [if_pos (by decide), if_pos (c_W (d := d) hE _ _ _), c_tog2 hE hO _ _ _ hF, bnd1_e]
  have h1 : ∀ i, i < 0 → L i = lsX E Y act i := fun i hi => absurd hi (by omega)
  have h2 := lk_up (lk_up h1 (v := E.2.2.2.2.1 1 (fcX E Y)) rfl) (v := frX E Y act) rfl
  by_cases c : E.2.1 (atX Y) = 2 ∨ E.2.1 (atX Y) = 5
  · rw [if_pos c] at hso
    subst hso
    rw [if_neg (by decide)]; exact c_j117 hE hO hY hA hF h2 (by show _ = (if E.2.1 (atX Y) = 2 ∨ E.2.1 (atX Y) = 5 then E.2.2.2.2.1 2 (fcX E Y) else 0); rw [if_pos c]) hsp
  · rw [if_neg c] at hso
    subst hso
    rw [if_pos rfl]; exact c_j117 hE hO hY hA hF h2 (by show _ = (if E.2.1 (atX Y) = 2 ∨ E.2.1 (atX Y) = 5 then E.2.2.2.2.1 2 (fcX E Y) else 0); rw [if_neg c]) hsp
theorem c_weigh (hE : EnC g E) (hO : EOK E) (F L Y : Nat → Int32) (act : Int32) (hY : inR (Y 12) 0 E.1) (hA : atX Y < E.1) : ∃ F' L', fX9_weigh (cs g d F L Y) d act = some (cs g d F' L' Y, drX E Y act) ∧ ∀ i, i < 7 → L' i = lsX E Y act i := by
  have key : ∀ so : Int32, (so = if E.2.1 (atX Y) = 2 ∨ E.2.1 (atX Y) = 5 then 1 else 0) → ∃ F' L', fX9_weigh_j34 (cs g d F L Y) d act (Y 12) (E.2.1 (atX Y)) so = some (cs g d F' L' Y, drX E Y act) ∧ ∀ i, i < 7 → L' i = lsX E Y act i := by
    intro so hso
    unfold fX9_weigh_j34 fX9_weigh_j49
    by_cases c1 : E.2.1 (atX Y) = 3
    · rw [if_pos c1]; exact c_j54 hE hO hY hA hso (by rw [if_pos (Or.inl c1)])
    · rw [if_neg c1]
      by_cases c2 : E.2.1 (atX Y) = 6
      · rw [if_pos c2]; exact c_j54 hE hO hY hA hso (by rw [if_pos (Or.inr c2)])
      · rw [if_neg c2]; exact c_j54 hE hO hY hA hso (by rw [if_neg (fun q => q.elim c1 c2)])
  unfold fX9_weigh fX9_weigh_j29
  rw [c_get12, bnd1_e, c_kind hE hO _ _ _ _ hY hA, bnd1_e]
  by_cases c1 : E.2.1 (atX Y) = 2
  · rw [if_pos c1]; exact key 1 (by rw [if_pos (Or.inl c1)])
  · rw [if_neg c1]
    by_cases c2 : E.2.1 (atX Y) = 5
    · rw [if_pos c2]; exact key 1 (by rw [if_pos (Or.inr c2)])
    · rw [if_neg c2]; exact key 0 (by rw [if_neg (fun q => q.elim c1 c2)])
theorem c_done (g : STt) (x : Int32) : fX9_doneBy g x = some (dnX x) := by
  unfold fX9_doneBy dnX
  by_cases c1 : x ≤ 0
  · rw [if_pos c1, if_pos c1]
    by_cases c2 : x < (-14)
    · rw [if_pos c2, if_pos c2]
      by_cases c3 : x < (-39)
      · rw [if_pos c3, if_pos c3]
      · rw [if_neg c3, if_neg c3]
    · rw [if_neg c2, if_neg c2]
  · rw [if_neg c1, if_neg c1]
theorem c_add (F L Y : Nat → Int32) (x : Int32) (w : Nat) (hw : w < 15) (hx : x = nI w) (b : Int32) : fX1_addTo (cs g d F L Y) d x b = some (cs g d F L (adX Y w b)) := by
  subst hx
  unfold fX1_addTo fX1_addTo_j61 adX
  rw [if_neg (nI_pos (by omega)), if_neg (show ¬ (15 : Int32) ≤ nI w from nI_ge (b := 15) hw (by omega)), if_neg (show ¬ (15 : Int32) ≤ nI w from nI_ge (b := 15) hw (by omega)), if_pos (inB_nI hw (by omega)), if_pos (inB_nI hw (by omega)), if_pos (inB_nI hw (by omega)), if_pos (inB_nI hw (by omega)), if_pos (inB_nI hw (by omega)), if_pos (inB_nI hw (by omega)), nI_c (by omega), cs_22, cs_u22, cs_u22, cs_u22]
  by_cases c1 : 0 ≤ Y w + b
  · rw [if_pos c1, if_pos c1]
    by_cases c2 : Y w + b ≤ mostF w
    · rw [if_pos c2, if_pos c2]
    · rw [if_neg c2, if_neg c2]
  · rw [if_neg c1, if_neg c1]
theorem c_put (F L Y : Nat → Int32) (x : Int32) (w : Nat) (hw : w < 15) (hx : x = nI w) (b : Int32) : fX1_put (cs g d F L Y) d x b = some (cs g d F L (upd Y w b)) := by
  subst hx
  rw [eX1_put hw, cs_u22]
theorem c_leave (F L Y : Nat → Int32) (b : Int32) : fX9_leave (cs g d F L Y) d b = some (cs g d F L (lvX Y b)) := by
  unfold fX9_leave
  rw [c_add F L Y 12 12 (by omega) rfl, bnd1_e, c_put F L _ 9 9 (by omega) rfl, bnd1_e, c_put F L _ 13 13 (by omega) rfl, bnd1_e]
  rfl
theorem c_follow (hE : EnC g E) (F L Y : Nat → Int32) (act dn : Int32) {th : Nat} (hth : th < 15) : fX9_follow (cs g d F L Y) d act dn (nI th) = some (cs g d F L (foX E Y act dn th)) := by
  unfold fX9_follow fX9_follow_j79 foX
  by_cases c1 : dn = 0
  · rw [if_pos c1, if_pos c1]
    by_cases c2 : act = 7
    · rw [if_pos c2, if_pos c2, c_put F L Y 13 13 (by omega) rfl, bnd1_e]
    · rw [if_neg c2, if_neg c2, if_pos (c_W (d := d) hE _ _ _), c_last5 hE, bnd1_e, c_add F L Y (nI th) th hth rfl, bnd1_e, c_add F L _ 9 9 (by omega) rfl, bnd1_e, c_put F L _ 13 13 (by omega) rfl, bnd1_e]
  · rw [if_neg c1, if_neg c1]
    by_cases c2 : dn = 1
    · rw [if_pos c2, if_pos c2, c_add F L Y (nI th) th hth rfl, bnd1_e, c_add F L _ 8 8 (by omega) rfl, bnd1_e, c_leave, bnd1_e]
    · rw [if_neg c2, if_neg c2]
      by_cases c3 : dn = 2
      · rw [if_pos c3, if_pos c3, c_leave, bnd1_e]
      · rw [if_neg c3, if_neg c3, c_put F L Y 13 13 (by omega) rfl, bnd1_e, c_add F L _ 8 8 (by omega) rfl, bnd1_e]
theorem c_answer (F L Y : Nat → Int32) (act dn : Int32) {th : Nat} (hth : th < 15) : fX9_answer (cs g d F L Y) d act dn (nI th) = some (cs g d F L (anX Y act dn th)) := by
  have key : ∀ s0 : Int32, (s0 = if dn = 1 then 1 else 0) → fX9_answer_j10 (cs g d F L Y) d act (nI th) s0 = some (cs g d F L (anX Y act dn th)) := by
    intro s0 hs
    unfold fX9_answer_j10 fX9_answer_j69 fX9_answer_j88 fX9_answer_j133 fX9_answer_j150 anX
    have e : ∀ {α : Type} (A B : α), (if s0 = 0 then A else B) = if dn = 1 then B else A := fun A B => by
      by_cases c : dn = 1
      · rw [if_pos c] at hs; subst hs; rw [if_neg (by decide), if_pos c]
      · rw [if_neg c] at hs; subst hs; rw [if_pos rfl, if_neg c]
    simp only [e]
    by_cases c1 : act = 1
    · rw [if_pos c1, if_pos c1]
      by_cases c : dn = 1
      · simp only [if_pos c]
        rw [c_add F L Y 6 6 (by omega) rfl, bnd1_e]
      · simp only [if_neg c]
        rw [c_add F L Y 6 6 (by omega) rfl, bnd1_e]
    · rw [if_neg c1, if_neg c1]
      by_cases c2 : act = 2
      · subst c2; rfl
      · rw [if_neg c2]
        by_cases c3 : act = 3
        · subst c3; rfl
        · rw [if_neg c3]
          by_cases c4 : act = 4
          · rw [if_pos c4, if_pos c4]
            by_cases c : dn = 1
            · simp only [if_pos c]
              rw [c_add F L Y 6 6 (by omega) rfl, bnd1_e, c_add F L _ 7 7 (by omega) rfl, bnd1_e]
            · simp only [if_neg c]
              rw [c_add F L Y 6 6 (by omega) rfl, bnd1_e, c_add F L _ 7 7 (by omega) rfl, bnd1_e]
          · rw [if_neg c4, if_neg c4]
            by_cases c5 : act = 5
            · rw [if_pos c5, if_pos c5, c_add F L Y 10 10 (by omega) rfl, bnd1_e, c_add F L _ 11 11 (by omega) rfl, bnd1_e]
            · rw [if_neg c5, if_neg c5]
              by_cases c6 : act = 6
              · subst c6; rfl
              · rw [if_neg c6]
                by_cases c7 : act = 7
                · rw [if_pos c7, if_pos c7]
                  by_cases c : dn = 1
                  · simp only [if_pos c]
                    rw [c_add F L Y (nI th) th hth rfl, bnd1_e, c_add F L _ 6 6 (by omega) rfl, bnd1_e]
                  · simp only [if_neg c]
                    rw [c_add F L Y (nI th) th hth rfl, bnd1_e, c_add F L _ 6 6 (by omega) rfl, bnd1_e]
                · rw [if_neg c7, if_neg c7]
  unfold fX9_answer
  by_cases c : dn = 1
  · rw [if_pos c]; exact key 1 (by rw [if_pos c])
  · rw [if_neg c]; exact key 0 (by rw [if_neg c])
theorem c_half (hE : EnC g E) (F L Y : Nat → Int32) (act : Int32) : fX9_halfMinutesOf (cs g d F L Y) act = some (hfX E act) := by
  unfold fX9_halfMinutesOf hfX
  by_cases c : act = 6
  · rw [if_pos c, if_pos c, if_pos (c_W (d := d) hE _ _ _), c_last6 hE, bnd1_e]
  · rw [if_neg c, if_neg c]
theorem c_step (hE : EnC g E) (hO : EOK E) (F L Y : Nat → Int32) (act w : Int32) (hY : inR (Y 12) 0 E.1) : ∃ F' L', fX9_step (cs g d F L Y) d act w = some (cs g d F' L' (stX E Y act w).1, (stX E Y act w).2) := by
  unfold fX9_step stX fX9_step_j83
  rw [c_over hE hO F L Y hY, b_if2]
  by_cases cA : atX Y < E.1
  · rw [if_pos cA, if_pos cA]
    by_cases c6 : act = 6
    · rw [if_pos c6, if_pos c6, c_add F L Y 6 6 (by omega) rfl, bnd1_e, c_leave, bnd1_e, c_half hE, bnd1_e, c_add F L _ 14 14 (by omega) rfl, bnd1_e]
      exact ⟨_, _, rfl⟩
    · obtain ⟨F', L', e1, -⟩ := c_weigh (d := d) hE hO F L Y act hY cA
      obtain ⟨t1, t2⟩ := c_thing (d := d) hE hO F' L' Y Y hY cA
      rw [if_neg c6, if_neg c6, e1, bnd_e, c_done, bnd1_e, c_get12, bnd1_e, t1, bnd1_e, c_follow hE F' L' Y act _ (by omega), bnd1_e, c_answer F' L' _ act _ (by omega), bnd1_e, c_half hE, bnd1_e, c_add F' L' _ 14 14 (by omega) rfl, bnd1_e]
      exact ⟨_, _, rfl⟩
  · rw [if_neg cA, if_neg cA]
    exact ⟨_, _, rfl⟩
end CS
