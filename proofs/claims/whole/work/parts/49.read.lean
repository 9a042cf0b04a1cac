/-! PURE: the class's small readers; its codes on a number's bits -/
theorem prs_s {C : Nat → Int32} {K : Nat} (h : TxE C K) : ∀ (f mode d i j : Nat) (F : (Nat → Int32) → Bool), i ≤ K → prs C f mode d i = (j, some F) → i < j := by
  intro f
  induction f with
  | zero => intro mode d i j F hi hp; cases hp
  | succ f ih =>
    intro mode d i j F hi hp
    unfold prs at hp
    by_cases m0 : mode = 0
    · rw [if_pos m0] at hp
      by_cases c1 : d < 4 ∧ C i = 33
      · rw [if_pos c1] at hp
        have k1 := tx_in h c1.2 (by decide)
        obtain ⟨a, -⟩ := prs_b h f 0 (d + 1) (i + 1) (by omega)
        cases hq : prs C f 0 (d + 1) (i + 1) with
        | mk j' r =>
          rw [hq] at hp a
          have a : i + 1 ≤ j' := a
          cases r with
          | none => cases hp
          | some G => cases hp; omega
      · rw [if_neg c1] at hp
        by_cases c2 : d < 4 ∧ C i = 40
        · rw [if_pos c2] at hp
          have k1 := tx_in h c2.2 (by decide)
          obtain ⟨a, -⟩ := prs_b h f 2 (d + 1) (i + 1) (by omega)
          cases hq : prs C f 2 (d + 1) (i + 1) with
          | mk j' r =>
            rw [hq] at hp a
            have a : i + 1 ≤ j' := a
            cases r with
            | none => cases hp
            | some G =>
              have hp : (if C j' = 41 then (j' + 1, some G) else (j', none)) = (j, some F) := hp
              by_cases c3 : C j' = 41
              · rw [if_pos c3] at hp; cases hp; omega
              · rw [if_neg c3] at hp; cases hp
        · rw [if_neg c2] at hp
          obtain ⟨a, b, c⟩ := pTs_b h hi
          cases hq : pTs C i with
          | mk j' r =>
            rw [hq] at hp a b c
            cases r with
            | none => cases hp
            | some t =>
              obtain ⟨q, sg, n⟩ := t
              have := (c q sg n rfl).2.2.2
              cases hp
              have : i + 3 ≤ j := this
              omega
    · rw [if_neg m0] at hp
      have two : ∀ (m1 m2 : Nat) (b : Int32) (op : ((Nat → Int32) → Bool) → ((Nat → Int32) → Bool) → (Nat → Int32) → Bool), b ≠ -1 → (match prs C f m1 d i with
        | (j, none) => (j, none)
        | (j, some F) => if C j = b then match prs C f m2 d (j + 1) with
          | (k, none) => (k, none)
          | (k, some G) => (k, some (op F G)) else (j, some F) : Nat × Option ((Nat → Int32) → Bool)) = (j, some F) → i < j := by
        intro m1 m2 b op hb hp
        cases hq : prs C f m1 d i with
        | mk j' r =>
          rw [hq] at hp
          cases r with
          | none => cases hp
          | some G =>
            have l1 := ih m1 d i j' G hi hq
            have hp : (if C j' = b then match prs C f m2 d (j' + 1) with
              | (k, none) => (k, none)
              | (k, some G') => (k, some (op G G')) else (j', some G) : Nat × Option ((Nat → Int32) → Bool)) = (j, some F) := hp
            by_cases c3 : C j' = b
            · rw [if_pos c3] at hp
              have k3 := tx_in h c3 hb
              obtain ⟨a2, -⟩ := prs_b h f m2 d (j' + 1) (by omega)
              cases hq2 : prs C f m2 d (j' + 1) with
              | mk k r2 =>
                rw [hq2] at hp a2
                have a2 : j' + 1 ≤ k := a2
                cases r2 with
                | none => cases hp
                | some G' => cases hp; omega
            · rw [if_neg c3] at hp; cases hp; exact l1
      by_cases m1 : mode = 1
      · rw [if_pos m1] at hp; exact two 0 1 38 (fun F G x => F x && G x) (by decide) hp
      · rw [if_neg m1] at hp; exact two 1 2 124 (fun F G x => F x || G x) (by decide) hp
/-! codes on the bits of a number -/
def stC (F : Nat → Int32) (t : TkT) (s : Nat) : Nat :=
  if t.1 = 0 then 2 * s + (tsB F t.2.1 t.2.2.1 t.2.2.2).toNat else if t.1 = 1 then (if s % 2 = 0 then s + 1 else s - 1) else if t.1 = 2 then (if s % 2 = 1 then s / 2 else s / 2 / 2 * 2) else (if s % 2 = 1 then s / 2 / 2 * 2 + 1 else s / 2)
def rnC (F : Nat → Int32) : List TkT → Nat → Option Nat
  | [], s => some s
  | t :: l, s => if s < 4096 then rnC F l (stC F t s) else none
theorem rnC_app (F : Nat → Int32) : ∀ (l l' : List TkT) (s u : Nat), rnC F l s = some u → rnC F (l ++ l') s = rnC F l' u
  | [], l', s, u, h => by cases h; rfl
  | t :: l, l', s, u, h => by
    have h : (if s < 4096 then rnC F l (stC F t s) else none) = some u := h
    show (if s < 4096 then rnC F (l ++ l') (stC F t s) else none) = _
    by_cases c : s < 4096
    · rw [if_pos c] at h
      rw [if_pos c]
      exact rnC_app F l l' _ u h
    · rw [if_neg c] at h; cases h
def GdC (h : Nat) (l : List TkT) (G : (Nat → Int32) → Bool) : Prop := ∀ F s, s < 2 ^ (12 - h) → rnC F l s = some (2 * s + (G F).toNat)
def GdA (h : Nat) (op : Bool → Bool → Bool) (l : List TkT) (G : (Nat → Int32) → Bool) : Prop := ∀ F s (b : Bool), s < 2 ^ (12 - h) → rnC F l (2 * s + b.toNat) = some (2 * s + (op b (G F)).toNat)
theorem b_le (b : Bool) : b.toNat ≤ 1 := by cases b <;> decide
theorem p2_le {a b : Nat} (h : a ≤ b) : 2 ^ a ≤ 2 ^ b := Nat.pow_le_pow_right (by decide) h
theorem p2_s {h : Nat} (h1 : 1 ≤ h) (h12 : h ≤ 12) : 2 * 2 ^ (12 - h) = 2 ^ (12 - (h - 1)) := by
  rw [show 12 - (h - 1) = (12 - h) + 1 by omega, Nat.pow_succ, Nat.mul_comm]
theorem p2_12 (h : Nat) : 2 ^ (12 - h) ≤ 4096 := by
  have := p2_le (show 12 - h ≤ 12 by omega)
  exact this
theorem g_up {h h' : Nat} {l : List TkT} {G : (Nat → Int32) → Bool} (hg : GdC h l G) (hh : h ≤ h') : GdC h' l G := fun F s hs => hg F s (Nat.lt_of_lt_of_le hs (p2_le (by omega)))
theorem g_test (q sg n : Nat) : GdC 1 [(0, q, sg, n)] (fun x => tsB x q sg n) := fun F s hs => by
  have := p2_12 1
  show (if s < 4096 then rnC F [] (stC F (0, q, sg, n) s) else none) = _
  rw [if_pos (by omega)]
  rfl
def tkN : TkT := (1, 0, 0, 0)
def tkA : TkT := (2, 0, 0, 0)
def tkO : TkT := (3, 0, 0, 0)
theorem rn1 {F : Nat → Int32} {t : TkT} {s : Nat} (h : s < 4096) : rnC F [t] s = some (stC F t s) := by
  show (if s < 4096 then rnC F [] (stC F t s) else none) = _
  rw [if_pos h]
  rfl
theorem g_not {h : Nat} {l : List TkT} {G : (Nat → Int32) → Bool} (h1 : 1 ≤ h) (h12 : h ≤ 12) (hg : GdC h l G) : GdC h (l ++ [tkN]) (fun x => !(G x)) := fun F s hs => by
  have e := hg F s hs
  have b := b_le (G F)
  have p := p2_s h1 h12
  have q := p2_12 (h - 1)
  rw [rnC_app F l [tkN] s _ e, rn1 (by omega)]
  refine congrArg some ?_
  show (if (2 * s + (G F).toNat) % 2 = 0 then 2 * s + (G F).toNat + 1 else 2 * s + (G F).toNat - 1) = 2 * s + (!(G F)).toNat
  cases G F with
  | true => rw [if_neg (by show ¬ (2 * s + 1) % 2 = 0; omega)]; show 2 * s + 1 - 1 = 2 * s + 0; omega
  | false => rw [if_pos (by show (2 * s + 0) % 2 = 0; omega)]; rfl
theorem st_op (F : Nat → Int32) (s : Nat) (a b : Bool) : stC F tkA (2 * (2 * s + a.toNat) + b.toNat) = 2 * s + (a && b).toNat ∧ stC F tkO (2 * (2 * s + a.toNat) + b.toNat) = 2 * s + (a || b).toNat := by
  have hA : stC F tkA (2 * (2 * s + a.toNat) + b.toNat) = (if (2 * (2 * s + a.toNat) + b.toNat) % 2 = 1 then (2 * (2 * s + a.toNat) + b.toNat) / 2 else (2 * (2 * s + a.toNat) + b.toNat) / 2 / 2 * 2) := rfl
  have hO : stC F tkO (2 * (2 * s + a.toNat) + b.toNat) = (if (2 * (2 * s + a.toNat) + b.toNat) % 2 = 1 then (2 * (2 * s + a.toNat) + b.toNat) / 2 / 2 * 2 + 1 else (2 * (2 * s + a.toNat) + b.toNat) / 2) := rfl
  rw [hA, hO]
  cases a <;> cases b <;> simp only [Bool.toNat_true, Bool.toNat_false, Bool.and_true, Bool.and_false, Bool.or_true, Bool.or_false] <;> constructor <;> split <;> omega
/-- a first part, then what goes on from it -/
theorem g_join0 {h1 h : Nat} {op : Bool → Bool → Bool} {l1 l2 : List TkT} {F1 G : (Nat → Int32) → Bool} (hh : h1 ≤ h) (a : GdC h1 l1 F1) (b : GdA h op l2 G) : GdC h (l1 ++ l2) (fun x => op (F1 x) (G x)) := fun F s hs => by
  rw [rnC_app F l1 l2 s _ (a F s (Nat.lt_of_lt_of_le hs (p2_le (by omega)))), b F s (F1 F) hs]
theorem g_end {h1 : Nat} {op : Bool → Bool → Bool} {t : TkT} {l1 : List TkT} {F1 : (Nat → Int32) → Bool} (h11 : 1 ≤ h1) (h12 : h1 ≤ 11) (a : GdC h1 l1 F1) (ht : ∀ F s x y, stC F t (2 * (2 * s + Bool.toNat x) + Bool.toNat y) = 2 * s + (op x y).toNat) : GdA (h1 + 1) op (l1 ++ [t]) F1 := fun F s b hs => by
  have p := p2_s (h := h1 + 1) (by omega) (by omega)
  have p' := p2_s (h := h1) h11 (by omega)
  have q := p2_12 (h1 - 1)
  have lb := b_le b
  have e1 : h1 + 1 - 1 = h1 := by omega
  rw [e1] at p
  have e := a F (2 * s + b.toNat) (by omega)
  have lb2 := b_le (F1 F)
  rw [rnC_app F l1 [t] _ _ e, rn1 (by omega), ht]
theorem g_join1 {h1 : Nat} {op : Bool → Bool → Bool} {t : TkT} {l1 l2 : List TkT} {F1 G : (Nat → Int32) → Bool} (h11 : 1 ≤ h1) (h12 : h1 ≤ 11) (a : GdC h1 l1 F1) (ht : ∀ F s x y, stC F t (2 * (2 * s + Bool.toNat x) + Bool.toNat y) = 2 * s + (op x y).toNat) (as : ∀ x y z, op (op x y) z = op x (op y z)) (b : GdA (h1 + 1) op l2 G) : GdA (h1 + 1) op (l1 ++ [t] ++ l2) (fun x => op (F1 x) (G x)) := fun F s b' hs => by
  rw [rnC_app F (l1 ++ [t]) l2 _ _ (g_end h11 h12 a ht F s b' hs), b F s _ hs, as]
/-! the class's state while it reads -/
def TxC (g : STt) (K : Nat) (C : Nat → Int32) : Prop := TxE C K ∧ g.1 20 0 = nI K ∧ ∀ i, i < K → g.2.1 21 0 i = C i
def FpC (L c : Nat) (g g' : STt) : Prop := (∀ c' i', c' ≠ 6 → ¬ (c' = 24 ∧ i' = L) → g'.1 c' i' = g.1 c' i') ∧ (∀ c' i', ¬ (c' = 28 ∧ i' = L) → g'.2.1 c' i' = g.2.1 c' i') ∧ (∀ k, k < c → g'.2.1 28 L k = g.2.1 28 L k) ∧ g'.2.2 = g.2.2
theorem FpC.rfl' (L c : Nat) (g : STt) : FpC L c g g := ⟨fun _ _ _ _ => rfl, fun _ _ _ => rfl, fun _ _ => rfl, rfl⟩
theorem FpC.tr {L c c' : Nat} {g g' g'' : STt} (h : FpC L c g g') (h' : FpC L c' g' g'') (hc : c ≤ c') : FpC L c g g'' := ⟨fun a i h1 h2 => (h'.1 a i h1 h2).trans (h.1 a i h1 h2), fun a i h1 => (h'.2.1 a i h1).trans (h.2.1 a i h1), fun k hk => (h'.2.2.1 k (by omega)).trans (h.2.2.1 k hk), h'.2.2.2.trans h.2.2.2⟩
theorem TxC_F {L c K : Nat} {C : Nat → Int32} {g g' : STt} (h : TxC g K C) (hF : FpC L c g g') : TxC g' K C := ⟨h.1, (hF.1 20 0 (by omega) (by omega)).trans h.2.1, fun i hi => (congrFun (hF.2.1 21 0 (by omega)) i).trans (h.2.2 i hi)⟩
theorem FpC_6 (L c : Nat) (g : STt) (v : Int32) : FpC L c g (sS g 6 0 v) := ⟨fun c' i' h1 h2 => sS_n _ _ (by omega), fun _ _ _ => rfl, fun _ _ => rfl, rfl⟩
theorem c_get0 {g : STt} {K : Nat} {C : Nat → Int32} (h : TxC g K C) {i : Nat} (hi : i < 1000) : fX5_get g 0 (nI i) = some (C i) := by
  obtain ⟨⟨h1, h2, h3⟩, h4, h5⟩ := h
  rw [eX5_get (n := 100) rfl (by omega) h4 h1]
  by_cases c : i < K
  · rw [if_pos (inB_nI c (by omega)), nI_c (by omega), h5 i c]
  · rw [if_neg (by rw [inB_iff, nI_toInt (by omega)]; omega), h3 i (by omega)]
theorem c_next {g : STt} {K i : Nat} {C : Nat → Int32} (h : TxC g K C) (hi : i < 1000) (h6 : g.1 6 0 = nI i) (b : Int32) : fX7_next g b = if C i = b then some (sS g 6 0 (nI (i + 1)), 1) else some (g, 0) := by
  unfold fX7_next
  rw [h6, c_get0 h hi, bnd1_e, nI_1]
def encC (t : TkT) : Int32 := if t.1 = 0 then nI (1000 * t.2.1 + 100 * t.2.2.1 + t.2.2.2) else if t.1 = 1 then -1 else if t.1 = 2 then -2 else -3
def HdC (Q : Nat → Int32) (c : Nat) : List TkT → Prop
  | [] => True
  | t :: l => Q c = encC t ∧ (t.1 = 0 → t.2.1 < 9 ∧ t.2.2.1 < 3 ∧ t.2.2.2 < 100) ∧ HdC Q (c + 1) l
theorem HdC_app (Q : Nat → Int32) : ∀ (l l' : List TkT) (c : Nat), HdC Q c l → HdC Q (c + l.length) l' → HdC Q c (l ++ l')
  | [], _, _, _, h => h
  | t :: l, l', c, h, h' => ⟨h.1, h.2.1, HdC_app Q l l' (c + 1) h.2.2 (by rw [show c + 1 + l.length = c + (t :: l).length by rw [List.length_cons]; omega]; exact h')⟩
theorem HdC_c {Q Q' : Nat → Int32} : ∀ (l : List TkT) (c : Nat), (∀ k, k < c + l.length → Q' k = Q k) → HdC Q c l → HdC Q' c l
  | [], _, _, _ => trivial
  | t :: l, c, h, h' => ⟨by rw [h c (by rw [List.length_cons]; omega)]; exact h'.1, h'.2.1, HdC_c l (c + 1) (fun k hk => h k (by rw [List.length_cons]; omega)) h'.2.2⟩
theorem c_add1 {g : STt} {L c : Nat} (hc : g.1 24 L = nI c) (h100 : c < 100) (t : TkT) (ht : t.1 = 0 → t.2.1 < 9 ∧ t.2.2.1 < 3 ∧ t.2.2.2 < 100) : ∃ g', fX2_addCode g L (encC t) = some g' ∧ FpC L c g g' ∧ g'.1 6 0 = g.1 6 0 ∧ g'.1 24 L = nI (c + 1) ∧ HdC (g'.2.1 28 L) c [t] := by
  refine ⟨sS (sA1 g 28 L c (encC t)) 24 L (nI (c + 1)), ?_, ⟨fun c' i' h1 h2 => sS_n _ _ h2, fun c' i' h1 => ?_, fun k hk => ?_, rfl⟩, sS_n _ _ (by omega), sS_s _ _ _ _, ?_, ht, trivial⟩
  · unfold fX2_addCode
    rw [sA1_1, hc, if_neg (nI_pos (by omega)), if_neg (show ¬ (100 : Int32) ≤ nI c from nI_ge (b := 100) h100 (by omega)), if_pos (inB_nI h100 (by omega)), nI_c (by omega), nI_1]
  · show (sA1 g 28 L c (encC t)).2.1 c' i' = _
    rw [sA1_n _ _ h1]
  · show (sA1 g 28 L c (encC t)).2.1 28 L k = _
    rw [sA1_s, upd_n _ _ (by omega)]
  · show (sA1 g 28 L c (encC t)).2.1 28 L c = _
    rw [sA1_s, upd_s]
/-! letters, signs, numbers -/
def gZ : STt := (fun _ _ => 0, fun _ _ _ => 0, fun _ _ _ => 0, 0)
def oI (x : Option Nat) : Int32 := match x with
  | none => -1
  | some q => nI q
theorem tab7 : ∀ c : Fin 128, fJ0_indexOf_0f7a4 gZ 7 (((nI c.val).toUInt32 % 65536).toInt32) = some (oI (leN (nI c.val))) := by decide +kernel
theorem tab8 : ∀ c : Fin 128, fJ0_indexOf_0f7a4 gZ 8 (((nI c.val).toUInt32 % 65536).toInt32) = some (oI (siN (nI c.val))) := by decide +kernel
theorem idx_g (g : STt) (d : Nat) (x : Int32) : fJ0_indexOf_0f7a4 g d x = fJ0_indexOf_0f7a4 gZ d x := rfl
theorem c_place {g : STt} {K i : Nat} {C : Nat → Int32} (h : TxC g K C) (hi : i < 1000) (h6 : g.1 6 0 = nI i) : fX7_placeIn g 7 = some (oI (leN (C i))) ∧ fX7_placeIn g 8 = some (oI (siN (C i))) := by
  unfold fX7_placeIn
  rw [h6, c_get0 h hi, bnd1_e, bnd1_e]
  rcases Nat.lt_or_ge i K with c | c
  · obtain ⟨k, hk, e⟩ := inB_of (x := C i) (n := 128) (inB_iff.mpr (by have := h.1.2.1 i c; have a := this.1; have b := this.2; omega)) (by omega)
    rw [e, if_pos (nI_pos' (by omega)), if_pos (nI_pos' (by omega)), idx_g g 7, idx_g g 8]
    have a7 := tab7 ⟨k, hk⟩
    have a8 := tab8 ⟨k, hk⟩
    rw [a7, a8]
    exact ⟨rfl, rfl⟩
  · rw [h.1.2.2 i c, if_neg (by decide), if_neg (by decide)]
    exact ⟨rfl, rfl⟩
theorem dg_cmp {c : Int32} (h : inR c (-1) 127) : ((c - 48 < 0) ↔ c.toInt < 48) ∧ ((c - 48 ≤ 9) ↔ c.toInt ≤ 57) := by
  obtain ⟨h1, h2⟩ := h
  have e48 : (48 : Int32).toInt = 48 := by decide
  have z := subZ (x := c) (y := 48) (by omega) (by omega)
  constructor
  · constructor <;> intro q <;> (simp only [Int32.lt_iff_toInt_lt, Int32.le_iff_toInt_le, ← Int32.toInt_inj, Int32.reduceToInt] at *; omega)
  · constructor <;> intro q <;> (simp only [Int32.lt_iff_toInt_lt, Int32.le_iff_toInt_le, ← Int32.toInt_inj, Int32.reduceToInt] at *; omega)
theorem tx_rng {C : Nat → Int32} {K : Nat} (h : TxE C K) (i : Nat) : inR (C i) (-1) 127 := by
  rcases Nat.lt_or_ge i K with c | c
  · have := h.2.1 i c
    exact ⟨by have := this.1; omega, this.2⟩
  · rw [h.2.2 i c]; exact ⟨by decide, by decide⟩
theorem c_num1 {g : STt} {K i : Nat} {C : Nat → Int32} (h : TxC g K C) (hi : i < 900) (h6 : g.1 6 0 = nI i) (l1 : Int32) (t : Nat) (ht : t < 2) (Q : (STt × Int32 × Int32) → Option (STt × Int32)) : fX7_readNumber_l4c Q g l1 (nI t) = if dgB (C i) = true then Q (sS g 6 0 (nI (i + 1)), (if t = 0 then nI (dvN (C i)) else l1 * 10 + nI (dvN (C i))), nI (t + 1)) else some (g, l1) := by
  obtain ⟨r1, r2⟩ := dg_cmp (tx_rng h.1 i)
  unfold fX7_readNumber_l4c fX7_readNumber_j50
  rw [if_neg (show ¬ (2 : Int32) ≤ nI t from nI_ge (b := 2) ht (by omega)), h6, c_get0 h (by omega), bnd1_e, nI_1, nI_1]
  by_cases c : dgB (C i) = true
  · obtain ⟨b1, b2⟩ := dgB_t.mp c
    rw [if_pos c, if_neg (fun q => by have := r1.mp q; omega), if_pos (r2.mpr b2), (dv_of c).1]
    by_cases e : t = 0
    · rw [if_pos e, e, if_pos (show nI 0 = 0 from rfl)]
    · rw [if_neg e, if_neg (c := nI t = 0) (fun q => e ((nI_eq (b := 0) (by omega) (by omega)).mp q))]
  · rw [if_neg c]
    by_cases b1 : C i - 48 < 0
    · rw [if_pos b1]
    · rw [if_neg b1, if_neg (fun q => c (dgB_t.mpr ⟨by have := (not_congr r1).mp b1; omega, r2.mp q⟩))]
theorem c_number {g : STt} {K i : Nat} {C : Nat → Int32} (h : TxC g K C) (hi : i < 800) (h6 : g.1 6 0 = nI i) : fX7_readNumber g = some ((if (pNm C i).1 = i then g else sS g 6 0 (nI (pNm C i).1)), oI (pNm C i).2) := by
  unfold fX7_readNumber fX7_readNumber_l4
  rw [show fuelN = 4997 + 1 + 1 + 1 from rfl, iterO_succ]
  refine (c_num1 h (by omega) h6 (-1) 0 (by omega) _).trans ?_
  unfold pNm
  by_cases c1 : dgB (C i) = true
  · have h' := TxC_F h (FpC_6 0 0 g (nI (i + 1)))
    rw [if_pos c1, if_pos c1, if_pos rfl, iterO_succ]
    refine (c_num1 h' (by omega) (sS_s _ _ _ _) (nI (dvN (C i))) 1 (by omega) _).trans ?_
    by_cases c2 : dgB (C (i + 1)) = true
    · rw [if_pos c2, if_pos c2, if_neg (by omega), iterO_succ, sS_sS, show (10 : Int32) = nI 10 from rfl, pk_mul, nI_add]
      show fX7_readNumber_l4c _ (sS g 6 0 (nI (i + 1 + 1))) (nI (dvN (C i) * 10 + dvN (C (i + 1)))) (nI (1 + 1)) = some ((if i + 2 = i then g else sS g 6 0 (nI (i + 2))), nI (10 * dvN (C i) + dvN (C (i + 1))))
      unfold fX7_readNumber_l4c
      rw [if_pos (by decide), if_neg (by omega), Nat.mul_comm 10]
    · rw [if_neg c2, if_neg c2]
      show _ = some ((if i + 1 = i then g else sS g 6 0 (nI (i + 1))), nI (dvN (C i)))
      rw [if_neg (by omega)]
  · rw [if_neg c1, if_neg c1]
    show _ = some ((if i = i then g else _), -1)
    rw [if_pos rfl]
theorem oI_none : oI none = -1 := rfl
theorem c_test {g : STt} {L K i c : Nat} {C : Nat → Int32} (h : TxC g K C) (hi : i ≤ K) (h6 : g.1 6 0 = nI i) (hc : g.1 24 L = nI c) (h100 : c < 100) : ((pTs C i).2 = none → ∃ g', fX7_readTest g L = some (g', 0) ∧ FpC L c g g' ∧ g'.1 6 0 = nI (pTs C i).1) ∧ (∀ q sg n, (pTs C i).2 = some (q, sg, n) → ∃ g', fX7_readTest g L = some (g', 1) ∧ FpC L c g g' ∧ g'.1 6 0 = nI (pTs C i).1 ∧ g'.1 24 L = nI (c + 1) ∧ HdC (g'.2.1 28 L) c [(0, q, sg, n)]) := by
  have hK := h.1.1
  obtain ⟨b1, b2, b3⟩ := pTs_b h.1 hi
  have p1 := (c_place h (by omega) h6).1
  have h1 := TxC_F h (FpC_6 0 0 g (nI (i + 1)))
  have p2 := (c_place h1 (i := i + 1) (by omega) (sS_s _ _ _ _)).2
  have h2 := TxC_F h (FpC_6 0 0 g (nI (i + 2)))
  have p3 := c_number h2 (i := i + 2) (by omega) (sS_s _ _ _ _)
  unfold fX7_readTest
  rw [p1, bnd1_e, h6, nI_1]
  revert b1 b2 b3
  unfold pTs
  cases e1 : leN (C i) with
  | none =>
    intro b1 b2 b3
    refine ⟨fun _ => ⟨g, ?_, FpC.rfl' L c g, h6⟩, fun q sg n hn => (by cases hn)⟩
    rw [oI_none, if_neg (by decide)]
  | some q =>
    obtain ⟨q9, eq⟩ := leN_of e1
    have e0 : (0 : Int32) ≤ oI (some q) := nI_pos' (show q < 2 ^ 31 by omega)
    rw [if_pos e0, p2, bnd1_e, sS_s, sS_sS, nI_1]
    show _ → _ → _ → ((match siN (C (i + 1)) with
      | none => (i + 1, none)
      | some sg => match pNm C (i + 2) with
        | (j, none) => (j, none)
        | (j, some n) => (j, some (q, sg, n)) : Nat × Option (Nat × Nat × Nat)).2 = none → _) ∧ (∀ q' sg n, (match siN (C (i + 1)) with
      | none => (i + 1, none)
      | some sg => match pNm C (i + 2) with
        | (j, none) => (j, none)
        | (j, some n) => (j, some (q, sg, n)) : Nat × Option (Nat × Nat × Nat)).2 = some (q', sg, n) → _)
    cases e2 : siN (C (i + 1)) with
    | none =>
      intro b1 b2 b3
      refine ⟨fun _ => ⟨sS g 6 0 (nI (i + 1)), ?_, FpC_6 L c g _, sS_s _ _ _ _⟩, fun q sg n hn => (by cases hn)⟩
      rw [oI_none, if_neg (by decide)]
    | some sg =>
      obtain ⟨s3, es⟩ := siN_of e2
      have e0' : (0 : Int32) ≤ oI (some sg) := nI_pos' (show sg < 2 ^ 31 by omega)
      rw [if_pos e0', show i + 1 + 1 = i + 2 by omega, p3, bnd_e]
      show _ → _ → _ → ((match pNm C (i + 2) with
        | (j, none) => (j, none)
        | (j, some n) => (j, some (q, sg, n)) : Nat × Option (Nat × Nat × Nat)).2 = none → _) ∧ (∀ q' sg' n, (match pNm C (i + 2) with
        | (j, none) => (j, none)
        | (j, some n) => (j, some (q, sg, n)) : Nat × Option (Nat × Nat × Nat)).2 = some (q', sg', n) → _)
      have hst : ∃ g3, (if (pNm C (i + 2)).1 = i + 2 then sS g 6 0 (nI (i + 2)) else sS (sS g 6 0 (nI (i + 2))) 6 0 (nI (pNm C (i + 2)).1)) = g3 ∧ FpC L c g g3 ∧ g3.1 6 0 = nI (pNm C (i + 2)).1 ∧ g3.1 24 L = nI c := by
        by_cases c3 : (pNm C (i + 2)).1 = i + 2
        · rw [if_pos c3, c3]
          exact ⟨_, rfl, FpC_6 L c g _, sS_s _ _ _ _, by rw [sS_n _ _ (by omega)]; exact hc⟩
        · rw [if_neg c3, sS_sS]
          exact ⟨_, rfl, FpC_6 L c g _, sS_s _ _ _ _, by rw [sS_n _ _ (by omega)]; exact hc⟩
      obtain ⟨g3, eg, f3, p6, c3⟩ := hst
      rw [eg]
      revert p6
      cases e3 : pNm C (i + 2) with
      | mk j r =>
        intro p6
        have p6 : g3.1 6 0 = nI j := p6
        cases r with
        | none =>
          intro b1 b2 b3
          refine ⟨fun _ => ⟨g3, ?_, f3, p6⟩, fun q sg n hn => (by cases hn)⟩
          show (if 0 ≤ oI none then _ else some (g3, 0)) = _
          rw [oI_none, if_neg (by decide)]
        | some n =>
          intro b1 b2 b3
          refine ⟨fun hn => (by cases hn), fun q' sg' n' hn => ?_⟩
          have hn : (q, sg, n) = (q', sg', n') := Option.some.inj hn
          cases hn
          obtain ⟨-, -, n100, -⟩ := b3 q sg n rfl
          obtain ⟨g4, a1, a2, a3, a4, a5⟩ := c_add1 (L := L) c3 h100 (0, q, sg, n) (fun _ => ⟨q9, s3, n100⟩)
          refine ⟨g4, ?_, f3.tr a2 (Nat.le_refl c), a3.trans p6, a4, a5⟩
          show (if 0 ≤ nI n then (bnd1 (fX2_codeOf g3 (nI q) (nI sg) (nI n)) fun r_12 => (bnd1 (fX2_addCode g3 L r_12) fun g_14 => (some (g_14, 1)))) else some (g3, 0)) = _
          have ec : nI q * 1000 + nI sg * 100 + nI n = encC (0, q, sg, n) := by
            show _ = nI (1000 * q + 100 * sg + n)
            rw [show (1000 : Int32) = nI 1000 from rfl, show (100 : Int32) = nI 100 from rfl, pk_mul, pk_mul, nI_add, nI_add, Nat.mul_comm q, Nat.mul_comm sg]
          unfold fX2_codeOf
          rw [if_pos (nI_pos' (by omega)), bnd1_e, ec, a1, bnd1_e]
