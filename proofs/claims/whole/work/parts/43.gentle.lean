/-! PURE: gentlest -/
def foV {σ : Type} (f : σ → Nat → σ) : Nat → Nat → σ → σ
  | 0, _, s => s
  | c + 1, lo, s => foV f c (lo + 1) (f s lo)
theorem foV_add {σ : Type} (f : σ → Nat → σ) : ∀ (a b lo : Nat) (s : σ), foV f (a + b) lo s = foV f b (lo + a) (foV f a lo s)
  | 0, b, lo, s => by rw [Nat.zero_add]; rfl
  | a + 1, b, lo, s => by
    rw [show a + 1 + b = (a + b) + 1 by omega]
    show foV f (a + b) (lo + 1) (f s lo) = _
    rw [foV_add f a b (lo + 1), show lo + 1 + a = lo + (a + 1) by omega]
    rfl
def upV (E : EVt) (X : Nat → Int32) (n : Nat) (gl : Int32) (s : Option Nat × Int32) (v : Nat) : Option Nat × Int32 :=
  if rnV E n X v 12 < gl then s else if s.1 = none then (some v, lrn (rnV E n X v)) else if s.2 ≤ lrn (rnV E n X v) then s else (some v, lrn (rnV E n X v))
def RsG (g : STt) (n : Nat) (s : Option Nat × Int32) : Prop := (s.1 = none ∧ g.1 9 0 = -5) ∨ ∃ v, s.1 = some v ∧ g.1 9 0 = nI n ∧ g.1 10 0 = s.2 ∧ ∀ k, k < n → g.2.1 13 0 k = nI (acN (dgV v (n - 1 - k)))
theorem c_keepT (g : STt) (x : Int32) : fX8_keepTried g x = some (sA (sS g 9 0 x) 13 0 (va_cpy (g.2.1 12 0) (g.2.1 13 0) 0 0 4)) := by
  unfold fX8_keepTried
  rw [if_pos (by decide)]
  rfl
theorem keep_13 (A B : Nat → Int32) {k : Nat} (hk : k < 4) : va_cpy A B 0 0 4 k = A k := by
  rw [pk_cpy_in (by omega) (by omega)]
  exact congrArg A (by omega)
theorem c_leaf {g : STt} {E : EVt} {X : Nat → Int32} {n p : Nat} {gl : Int32} {s : Option Nat × Int32} (hn : n ≤ 4) (hX : IsX (g.2.1 22 (2 + n)) (rnV E n X p)) (hT : ∀ k, k < n → g.2.1 12 0 k = nI (acN (dgV p (n - 1 - k)))) (hg : g.1 11 0 = gl) (hs : RsG g n s) : ∃ g', fX8_keepGentler g (2 + n) (nI n) = some g' ∧ SubC n g g' ∧ RsG g' n (upV E X n gl s p) := by
  unfold fX8_keepGentler fX8_keepGentler_j35 upV
  rw [eX1_learnt, bnd1_e, eX1_getk _ _ 12 12 (by omega) rfl, bnd1_e, hX 12 (by omega), hg, lrn_c hX]
  by_cases c1 : rnV E n X p 12 < gl
  · rw [if_pos c1, if_pos c1]; exact ⟨g, rfl, SubC.rfl' n g, hs⟩
  · rw [if_neg c1, if_neg c1]
    have fin : ∃ g', (bnd1 (fX8_keepTried (sS g 10 0 (lrn (rnV E n X p))) (nI n)) fun g_2 => some g_2) = some g' ∧ SubC n g g' ∧ RsG g' n (some p, lrn (rnV E n X p)) := by
      rw [c_keepT, bnd1_e]
      refine ⟨_, rfl, ⟨⟨fun c i h1 h2 h3 => ?_, fun c i h1 h2 h3 h4 h5 => ?_, rfl⟩, ?_, fun i hi => ?_, fun k hk => ?_⟩, Or.inr ⟨p, rfl, ?_, ?_, fun k hk => ?_⟩⟩
      · show (sS (sS g 10 0 (lrn (rnV E n X p))) 9 0 (nI n)).1 c i = _
        rw [sS_n _ _ (by omega), sS_n _ _ (by omega)]
      · rw [sA_n _ _ (by omega)]; rfl
      · show (sS (sS g 10 0 (lrn (rnV E n X p))) 9 0 (nI n)).1 11 0 = _
        rw [sS_n _ _ (by omega), sS_n _ _ (by omega)]
      · rw [sA_n _ _ (by omega)]; rfl
      · rw [sA_n _ _ (by omega)]; rfl
      · show (sS (sS g 10 0 (lrn (rnV E n X p))) 9 0 (nI n)).1 9 0 = _
        rw [sS_s]
      · show (sS (sS g 10 0 (lrn (rnV E n X p))) 9 0 (nI n)).1 10 0 = _
        rw [sS_n _ _ (by omega), sS_s]
      · rw [sA_s]
        show va_cpy (g.2.1 12 0) (g.2.1 13 0) 0 0 4 k = _
        rw [keep_13 _ _ (by omega)]; exact hT k hk
    rcases hs with ⟨s1, s2⟩ | ⟨v, s1, s2, s3, s4⟩
    · rw [s2, if_pos rfl, s1, if_pos rfl]; exact fin
    · rw [s2, if_neg (show ¬ nI n = -5 from fun e => nI_pos (n := n) (by omega) (by rw [e]; decide)), s3, s1, if_neg (c := some v = none) (by intro q; cases q)]
      by_cases c2 : s.2 ≤ lrn (rnV E n X p)
      · rw [if_pos c2, if_pos c2]; exact ⟨g, rfl, SubC.rfl' n g, Or.inr ⟨v, s1, s2, s3, s4⟩⟩
      · rw [if_neg c2, if_neg c2]; exact fin
section GL
variable {qT : STt → Int32 → Int32 → Option STt} {qW : STt → Int32 → Int32 → Int32 → Option STt} {K : (STt × Int32) → Option STt} {x1 x2 : Int32} {g g1 : STt}
theorem gl_skip : fX8_tryGentler_l18c qT qW K x1 x2 g (nI 6) = K (g, nI 7) := by
  unfold fX8_tryGentler_l18c fX8_tryGentler_j37
  rw [if_neg (by decide), if_pos (by decide)]
  rfl
theorem gl_end : fX8_tryGentler_l18c qT qW K x1 x2 g (nI 8) = some g := by
  unfold fX8_tryGentler_l18c
  rw [if_pos (by decide)]
theorem gl_step {a : Nat} (ha : a < 8) (h6 : a ≠ 6) (h : qW g x1 x2 (nI a) = some g1) : fX8_tryGentler_l18c qT qW K x1 x2 g (nI a) = K (g1, nI (a + 1)) := by
  unfold fX8_tryGentler_l18c fX8_tryGentler_j37
  rw [if_neg (show ¬ (7 : Int32) < nI a from nI_nlt (a := 7) (by omega) (by omega)), if_neg (c := nI a = 6) (fun q => h6 ((nI_eq (b := 6) (by omega) (by omega)).mp q)), h, bnd1_e, nI_1]
end GL
theorem c_gent {E : EVt} (hO : EOK E) {X : Nat → Int32} {n : Nat} {gl : Int32} (hn : n ≤ 4) (hD : DKn E.1 100 X) : ∀ (r d p f : Nat) (g : STt) (s : Option Nat × Int32), d + r = n → 2 * r < f → EnC g E → IsX (g.2.1 22 (2 + d)) (rnV E d X p) → (∀ k, k < d → g.2.1 12 0 k = nI (acN (dgV p (d - 1 - k)))) → g.1 11 0 = gl → RsG g n s → ∃ g', fX8_tryGentler f g (nI d) (nI n) = some g' ∧ SubC d g g' ∧ RsG g' n (foV (upV E X n gl) (7 ^ r) (p * 7 ^ r) s) := by
  intro r
  induction r with
  | zero =>
    intro d p f g s hdn hf hE hX hT hg hs
    obtain ⟨f, rfl⟩ : ∃ k, f = k + 1 := ⟨f - 1, by omega⟩
    have e : d = n := by omega
    subst e
    obtain ⟨g', a1, a2, a3⟩ := c_leaf hn hX hT hg hs
    refine ⟨g', ?_, a2, ?_⟩
    · show FX8_tryGentler (fX8_tryGentler f) (fX8_tryGentlerWith f) g (nI d) (nI d) = _
      unfold FX8_tryGentler
      rw [if_neg (nI_nlt (Nat.le_refl d) (by omega)), e_stage g (show d < 7 by omega), bnd1_e, if_pos (by omega), a1, bnd1_e]
    · rw [Nat.pow_zero, Nat.mul_one]
      exact a3
  | succ r ih =>
    intro d p f g s hdn hf hE hX hT hg hs
    obtain ⟨f, rfl⟩ : ∃ k, f = k + 1 + 1 := ⟨f - 2, by omega⟩
    have child : ∀ (g0 : STt) (s0 : Option Nat × Int32) (a : Nat), a < 7 → SubC d g g0 → RsG g0 n s0 → ∃ g', fX8_tryGentlerWith (f + 1) g0 (nI d) (nI n) (nI (acN a)) = some g' ∧ SubC d g0 g' ∧ RsG g' n (foV (upV E X n gl) (7 ^ r) ((p * 7 + a) * 7 ^ r) s0) := by
      intro g0 s0 a ha h0 hs0
      have hE0 := EnC_F hE h0.1
      have hX0 : IsX (g0.2.1 22 (2 + d)) (rnV E d X p) := by rw [h0.2.2.1 d (Nat.le_refl d)]; exact hX
      have iZ : IsX (cpY (g0.2.1 22 (2 + d)) (g0.2.1 22 (3 + d))) (rnV E d X p) := is_tr (cpY_is _ _) hX0
      have kZ : DKn E.1 1 (cpY (g0.2.1 22 (2 + d)) (g0.2.1 22 (3 + d))) := dok_is (dkn_rv hO d X p (dkn_le hD (by omega))) iZ
      obtain ⟨F', L', e1⟩ := c_step (d := 3 + d) hE0 hO (g0.2.1 7 0) (g0.2.1 8 0) (cpY (g0.2.1 22 (2 + d)) (g0.2.1 22 (3 + d))) (nI (acN a)) 0 (dkn_12 kZ)
      generalize hY : (stX E (cpY (g0.2.1 22 (2 + d)) (g0.2.1 22 (3 + d))) (nI (acN a)) 0).1 = Y at e1
      have iY : IsX Y (rnV E (d + 1) X (p * 7 + a)) := by
        rw [← hY, rv_end ha]; exact (is_st iZ hO _ 0).1
      have sb := sub_step (g := g0) (d := d) F' L' Y (nI (acN a))
      obtain ⟨g', a1, a2, a3⟩ := ih (d + 1) (p * 7 + a) f (sA1 (cs g0 (3 + d) F' L' Y) 12 0 d (nI (acN a))) s0 (by omega) (by omega) (EnC_F hE0 sb.1) (by rw [show 2 + (d + 1) = 3 + d by omega, step_22]; exact iY)
        (fun k hk => by
          rw [step_12]
          by_cases e : k = d
          · rw [if_pos e, e, show d + 1 - 1 - d = 0 by omega, dg_0 ha]
          · rw [if_neg e, h0.2.2.2 k (by omega), hT k (by omega), show d + 1 - 1 - k = (d - 1 - k) + 1 by omega, dg_s ha])
        (by rw [sb.2.1, h0.2.1]; exact hg) hs0
      refine ⟨g', ?_, sb.tr (a2.le (by omega)), a3⟩
      show FX8_tryGentlerWith (fX8_tryGentler f) (fX8_tryGentlerWith f) g0 (nI d) (nI n) (nI (acN a)) = _
      unfold FX8_tryGentlerWith
      rw [if_neg (nI_pos (by omega)), if_pos (show nI d < 4 from nI_lt (b := 4) (by omega) (by omega)), e_after g0 (by omega), bnd_e, if_pos (by omega), e1, bnd_e, if_pos (inB_nI (show d < 4 by omega) (by omega)), nI_c (by omega), nI_1, a1, bnd1_e]
    have loop : ∀ (c a fu : Nat) (g0 : STt) (s0 : Option Nat × Int32), a + c = 7 → 2 * c + 1 < fu → SubC d g g0 → RsG g0 n s0 → ∃ g', iterO (fun K z => fX8_tryGentler_l18c (fX8_tryGentler (f + 1)) (fX8_tryGentlerWith (f + 1)) K (nI d) (nI n) z.1 z.2) fu (g0, nI (if a = 7 then 8 else a)) = some g' ∧ SubC d g g' ∧ RsG g' n (foV (upV E X n gl) (c * 7 ^ r) ((p * 7 + a) * 7 ^ r) s0) := by
      intro c
      induction c with
      | zero =>
        intro a fu g0 s0 hac hfu h0 hs0
        obtain ⟨fu, rfl⟩ : ∃ k, fu = k + 1 := ⟨fu - 1, by omega⟩
        have e : a = 7 := by omega
        subst e
        rw [iterO_succ]
        refine ⟨g0, gl_end, h0, by rw [Nat.zero_mul]; exact hs0⟩
      | succ c ihc =>
        intro a fu g0 s0 hac hfu h0 hs0
        obtain ⟨fu, rfl⟩ : ∃ k, fu = k + 1 + 1 := ⟨fu - 2, by omega⟩
        obtain ⟨g1, a1, a2, a3⟩ := child g0 s0 a (by omega) h0 hs0
        have hfo : foV (upV E X n gl) ((c + 1) * 7 ^ r) ((p * 7 + a) * 7 ^ r) s0 = foV (upV E X n gl) (c * 7 ^ r) ((p * 7 + (a + 1)) * 7 ^ r) (foV (upV E X n gl) (7 ^ r) ((p * 7 + a) * 7 ^ r) s0) := by
          rw [show (c + 1) * 7 ^ r = 7 ^ r + c * 7 ^ r by rw [Nat.add_mul, Nat.one_mul, Nat.add_comm], foV_add]
          refine congrArg (fun q => foV (upV E X n gl) (c * 7 ^ r) q _) ?_
          rw [show p * 7 + (a + 1) = (p * 7 + a) + 1 by omega, Nat.add_mul (p * 7 + a) 1, Nat.one_mul]
        rw [hfo]
        by_cases c6 : a = 6
        · subst c6
          obtain ⟨g', b1, b2, b3⟩ := ihc 7 fu g1 _ (by omega) (by omega) (h0.tr a2) a3
          refine ⟨g', ?_, b2, b3⟩
          rw [iterO_succ]
          refine gl_skip.trans ?_
          rw [iterO_succ]
          exact (gl_step (a := 7) (by omega) (by omega) a1).trans b1
        · obtain ⟨g', b1, b2, b3⟩ := ihc (a + 1) (fu + 1) g1 _ (by omega) (by omega) (h0.tr a2) a3
          refine ⟨g', ?_, b2, b3⟩
          rw [iterO_succ, if_neg (show ¬ a = 7 by omega)]
          rw [if_neg (show ¬ a + 1 = 7 by omega)] at b1
          have ea : acN a = a := by unfold acN; rw [if_neg c6]
          rw [ea] at a1
          exact (gl_step (by omega) c6 a1).trans b1
    obtain ⟨g', b1, b2, b3⟩ := loop 7 0 fuelN g s (by omega) (by show 2 * 7 + 1 < 5000; omega) (SubC.rfl' d g) hs
    refine ⟨g', ?_, b2, ?_⟩
    · show FX8_tryGentler (fX8_tryGentler (f + 1)) (fX8_tryGentlerWith (f + 1)) g (nI d) (nI n) = _
      unfold FX8_tryGentler fX8_tryGentler_l18
      rw [if_pos (nI_lt (by omega) (by omega))]
      exact b1
    · rw [show 7 ^ (r + 1) = 7 * 7 ^ r by rw [Nat.pow_succ, Nat.mul_comm], show p * (7 * 7 ^ r) = (p * 7 + 0) * 7 ^ r by rw [Nat.add_zero, Nat.mul_assoc]]
      exact b3
def l3G (s : Option Nat × Int32) : Int32 := match s.1 with
  | none => -1
  | some v => nI v
theorem up_lt {E : EVt} {X : Nat → Int32} {n : Nat} {gl : Int32} {B : Nat} : ∀ (c lo : Nat) (s : Option Nat × Int32), lo + c ≤ B → (∀ v, s.1 = some v → v < B) → ∀ v, (foV (upV E X n gl) c lo s).1 = some v → v < B
  | 0, _, _, _, h, v, hv => h v hv
  | c + 1, lo, s, hb, h, v, hv => by
    refine up_lt c (lo + 1) (upV E X n gl s lo) (by omega) (fun u hu => ?_) v hv
    unfold upV at hu
    by_cases c1 : rnV E n X lo 12 < gl
    · rw [if_pos c1] at hu; exact h u hu
    · rw [if_neg c1] at hu
      have e : ∀ w : Int32, ((some lo, w) : Option Nat × Int32).1 = some u → u < B := fun w hw => by
        have : lo = u := Option.some.inj hw
        omega
      by_cases c2 : s.1 = none
      · rw [if_pos c2] at hu; exact e _ hu
      · rw [if_neg c2] at hu
        by_cases c3 : s.2 ≤ lrn (rnV E n X lo)
        · rw [if_pos c3] at hu; exact h u hu
        · rw [if_neg c3] at hu; exact e _ hu
def fin_G (m : STt) (n : Nat) (x2 : Int32) (s : Option Nat × Int32) : Option (STt × Int32) := if 0 ≤ l3G s then (if 0 ≤ x2 then (bnd1 (fX11_actOf m (l3G s) x2 (nI n)) fun r_7 => (some (m, r_7))) else (some (m, s.2))) else (some (m, -5))
theorem m_gent {m0 : STt} {E : EVt} (hM : EnM m0 E) (hO : EOK E) (h40 : m0.1 40 0 = 0) (h41 : m0.1 41 0 = 0) {n : Nat} (hn : n ≤ 4) {X : Nat → Int32} (hX : IsX (m0.2.1 57 0) X) (hD : DKn E.1 100 X) (x2 : Int32) : ∀ (fu v : Nat) (m : STt) (s : Option Nat × Int32), FM m0 m → v ≤ 7 ^ n → 7 ^ n - v < fu → (∀ u, s.1 = some u → u < 7 ^ n) → ∃ m', iterO (fun K z => fX11_gentlest_l43c K (nI n) x2 z.1 z.2.1 z.2.2.1 z.2.2.2) fu (m, l3G s, s.2, nI v) = fin_G m' n x2 (foV (upV E X n (X 12 + 1)) (7 ^ n - v) v s) ∧ FM m0 m' := by
  have h7 := lt7 hn
  intro fu
  induction fu with
  | zero => intro v m s h1 h2 h3; omega
  | succ fu ih =>
    intro v m s h1 h2 h3 hs
    rw [iterO_succ]
    generalize iterO (fun K z => fX11_gentlest_l43c K (nI n) x2 z.1 z.2.1 z.2.2.1 z.2.2.2) fu = K at ih ⊢
    show ∃ m', fX11_gentlest_l43c K (nI n) x2 m (l3G s) s.2 (nI v) = _ ∧ _
    unfold fX11_gentlest_l43c fX11_gentlest_j85 fX11_gentlest_j94
    rw [e_rows m hn, bnd1_e]
    by_cases c : v = 7 ^ n
    · rw [c, if_pos (nI_le (Nat.le_refl _) (by omega)), Nat.sub_self]
      exact ⟨m, rfl, h1⟩
    · have hs1 : 7 ^ n - v = (7 ^ n - (v + 1)) + 1 := by omega
      obtain ⟨m1, e1, f1, l1⟩ := m_beh (EnM_F hM h1) hO ((h1.1 40 0 (by omega)).trans h40) ((h1.1 41 0 (by omega)).trans h41) hn (show v < 2401 by omega) (is_tr h1.2.2.1 hX) hD
      have h1' := h1.tr f1
      have e12 : m1.2.1 57 0 12 = X 12 := (h1'.2.2.1 12 (by omega)).trans (hX 12 (by omega))
      have hup : ∀ u, (upV E X n (X 12 + 1) s v).1 = some u → u < 7 ^ n := up_lt (E := E) (X := X) (n := n) (gl := X 12 + 1) (B := 7 ^ n) 1 v s (by omega) hs
      obtain ⟨m2, e2, f2⟩ := ih (v + 1) m1 (upV E X n (X 12 + 1) s v) h1' (by omega) (by omega) hup
      obtain ⟨q1, q2⟩ : inR (X 12) 0 E.1 := dkn_12 hD
      have hP := hO.1
      have one : (1 : Int32).toInt = 1 := by decide
      have t1 : (X 12 + 1).toInt = (X 12).toInt + 1 := by rw [addZ (by omega) (by omega), one]
      refine ⟨m2, ?_, f2⟩
      rw [if_neg (nI_ge (by omega) (by omega)), e1, bnd_e, if_pos i15_12, tn12, e12, l1, hs1, nI_1]
      show _ = fin_G m2 n x2 (foV (upV E X n (X 12 + 1)) (7 ^ n - (v + 1)) (v + 1) (upV E X n (X 12 + 1) s v))
      rw [← e2]
      unfold upV
      generalize rnV E n X v 12 = w at *
      by_cases c1 : w < X 12 + 1
      · rw [if_pos c1, if_pos (by (simp only [Int32.lt_iff_toInt_lt, Int32.le_iff_toInt_le, ← Int32.toInt_inj, Int32.reduceToInt] at *; omega))]
      · rw [if_neg c1, if_neg (by (simp only [Int32.lt_iff_toInt_lt, Int32.le_iff_toInt_le, ← Int32.toInt_inj, Int32.reduceToInt] at *; omega))]
        obtain ⟨s1, s2⟩ := s
        cases s1 with
        | none =>
          rw [if_pos (show l3G (none, s2) < 0 by show (-1 : Int32) < 0; decide), if_pos rfl]
          rfl
        | some u =>
          have hu : u < 7 ^ n := hs u rfl
          rw [if_neg (show ¬ l3G (some u, s2) < 0 from nI_pos (by omega)), if_neg (c := some u = none) (by intro q; cases q)]
          by_cases c2 : s2 ≤ lrn (rnV E n X v)
          · rw [if_pos c2, if_neg (show ¬ lrn (rnV E n X v) < s2 by (simp only [Int32.lt_iff_toInt_lt, Int32.le_iff_toInt_le, ← Int32.toInt_inj, Int32.reduceToInt] at *; omega))]
          · rw [if_neg c2, if_pos (show lrn (rnV E n X v) < s2 by (simp only [Int32.lt_iff_toInt_lt, Int32.le_iff_toInt_le, ← Int32.toInt_inj, Int32.reduceToInt] at *; omega))]
            rfl
theorem q_gentlest {g m : STt} {P N : Nat} (h : RelE g m P N) (x y : Int32) : ∃ g' m' r, fX10_gentlest g x y = some (g', r) ∧ fX11_gentlest m x y = some (m', r) ∧ RelE g' m' P N := by
  obtain ⟨E, W, rfl, hO, hE, hM, eW, iW, i1, k1, k2, b4, b5, o1, o2, e12, hE0, hM0⟩ := try_of h
  unfold fX10_gentlest fX11_gentlest
  rw [rng2, eX11_in, b_if]
  by_cases c : (1 : Int32).toInt ≤ x.toInt ∧ x.toInt ≤ (4 : Int32).toInt
  · rw [if_pos c, if_pos c]
    have t1 : (1 : Int32).toInt = 1 := by decide
    have t4 : (4 : Int32).toInt = 4 := by decide
    obtain ⟨n, hn, rfl⟩ := inB_of (x := x) (n := 5) (inB_iff.mpr (by omega)) (by omega)
    have tn : (nI n).toInt = n := nI_toInt (by omega)
    have hn1 : 1 ≤ n := by omega
    have h7 := lt7 (show n ≤ 4 by omega)
    rw [eX11_in, b_if]
    have en : (nI n - 1).toInt = (n : Int) - 1 := pk_sub_toInt (a := n) (b := 1) (by omega) (by omega)
    have em : (-1 : Int32).toInt = -1 := by decide
    by_cases c2 : -1 ≤ y.toInt ∧ y.toInt ≤ (n : Int) - 1
    · rw [if_neg (show ¬ y < -1 by (simp only [Int32.lt_iff_toInt_lt, Int32.le_iff_toInt_le, ← Int32.toInt_inj, Int32.reduceToInt] at *; omega)), if_pos (show y < nI n by (simp only [Int32.lt_iff_toInt_lt, Int32.le_iff_toInt_le, ← Int32.toInt_inj, Int32.reduceToInt] at *; omega)), if_pos (by omega), o1, o2, b_if2, b_if2]
      by_cases cA : atX (m.2.1 57 0) < E.1
      · rw [if_pos cA, if_pos cA]
        obtain ⟨s, hs⟩ : ∃ s, foV (upV E (m.2.1 57 0) n (m.2.1 57 0 12 + 1)) (7 ^ n) 0 (none, 0) = s := ⟨_, rfl⟩
        have hsl : ∀ u, s.1 = some u → u < 7 ^ n := fun u hu => up_lt (E := E) (X := m.2.1 57 0) (n := n) (gl := m.2.1 57 0 12 + 1) (7 ^ n) 0 (none, 0) (by omega) (fun v hv => by cases hv) u (by rw [hs]; exact hu)
        obtain ⟨m2, e2, f2⟩ := m_gent hM0 hO b4 b5 (show n ≤ 4 by omega) (is_rf _) (dkn_le k2 (by omega)) y fuelN 0 m (none, 0) (FM.rfl' m) (Nat.zero_le _) (Nat.lt_of_le_of_lt (Nat.sub_le _ _) (Nat.lt_of_le_of_lt h7 (by decide))) (fun v hv => by cases hv)
        rw [Nat.sub_zero, hs] at e2
        have fC : FC g (sS (cs (G1 g) 2 (g.2.1 7 0) (g.2.1 8 0) (Y1 g)) 9 0 (-5)) := (FC_G1 g 2 (by omega) _ _ _).tr (FC_9 _ _)
        obtain ⟨g2, a1, a2, a3⟩ := c_gent hO (n := n) (X := m.2.1 57 0) (gl := m.2.1 57 0 12 + 1) (by omega) (dkn_le k2 (by omega)) n 0 0 20 (sS (cs (G1 g) 2 (g.2.1 7 0) (g.2.1 8 0) (Y1 g)) 9 0 (-5)) (none, 0) (by omega) (by omega) (EnC_F hE0 fC)
          (by show IsX ((cs (G1 g) 2 (g.2.1 7 0) (g.2.1 8 0) (Y1 g)).2.1 22 2) _; rw [cs_22]; exact i1) (fun k hk => by omega)
          (by show (sS (cs (G1 g) 2 (g.2.1 7 0) (g.2.1 8 0) (Y1 g)) 9 0 (-5)).1 11 0 = _; rw [sS_n _ _ (by omega), cs_1, G1_11, e12]) (Or.inl ⟨rfl, sS_s _ _ _ _⟩)
        rw [Nat.zero_mul, hs] at a3
        have e3 : fX8_findGentlest g (nI n) = if g2.1 9 0 = -5 then some (g2, -5) else some (g2, g2.1 10 0) := by
          unfold fX8_findGentlest
          rw [e_begin1, bnd_e, if_pos (by decide), show fuelX8_tryGentler = 20 from rfl, show (0 : Int32) = nI 0 from rfl, a1, bnd1_e]
        have rel : RelE g2 m2 E.1 N := rel_F h (fC.tr a2.1) f2
        rw [e3]
        have e2 : fX11_gentlest_l43 (nI n) y m (-1) 0 0 = fin_G m2 n y s := e2
        rw [e2]
        unfold fin_G
        rcases a3 with ⟨z1, z2⟩ | ⟨v, z1, z2, z3, z4⟩
        · have el : l3G s = -1 := by unfold l3G; rw [z1]
          rw [z2, if_pos rfl, bnd_e, el, if_neg (c := (0 : Int32) ≤ -1) (by decide)]
          by_cases cy : y = -1
          · rw [if_pos cy]; exact ⟨_, _, _, rfl, rfl, rel⟩
          · have ef : fX8_found g2 y = some (-5) := by
              unfold fX8_found
              rw [z2, if_neg (show ¬ y < 0 by (simp only [Int32.lt_iff_toInt_lt, Int32.le_iff_toInt_le, ← Int32.toInt_inj, Int32.reduceToInt] at *; omega)), if_pos (show (-5 : Int32) ≤ y by (simp only [Int32.lt_iff_toInt_lt, Int32.le_iff_toInt_le, ← Int32.toInt_inj, Int32.reduceToInt] at *; omega))]
            rw [if_neg cy, ef, bnd1_e]; exact ⟨_, _, _, rfl, rfl, rel⟩
        · have el : l3G s = nI v := by unfold l3G; rw [z1]
          have hv := hsl v z1
          rw [z2, if_neg (show ¬ nI n = -5 from fun e => nI_pos (n := n) (by omega) (by rw [e]; decide)), bnd_e, el, if_pos (nI_pos' (by omega)), z3]
          by_cases cy : y = -1
          · subst cy
            rw [if_pos rfl, if_neg (by decide)]; exact ⟨_, _, _, rfl, rfl, rel⟩
          · have hy0 : 0 ≤ y.toInt := by (simp only [Int32.lt_iff_toInt_lt, Int32.le_iff_toInt_le, ← Int32.toInt_inj, Int32.reduceToInt] at *; omega)
            obtain ⟨j, hj, rfl⟩ := inB_of (x := y) (n := n) (inB_iff.mpr (by omega)) (by omega)
            have ef : fX8_found g2 (nI j) = some (nI (acN (dgV v (n - 1 - j)))) := by
              unfold fX8_found
              rw [z2, if_neg (nI_pos (by omega)), if_neg (nI_ge hj (by omega)), if_neg (show ¬ (4 : Int32) ≤ nI j from nI_ge (b := 4) (by omega) (by omega)), if_pos (inB_nI (by omega) (by omega)), nI_c (by omega), z4 j hj]
            rw [if_neg cy, ef, bnd1_e, if_pos (nI_pos' (by omega)), e_act m2 (by omega) (by omega) hj, bnd1_e]
            exact ⟨_, _, _, rfl, rfl, rel⟩
      · rw [if_neg cA, if_neg cA]; exact ⟨_, _, _, rfl, rfl, h⟩
    · rw [if_neg (c := (-1 : Int32).toInt ≤ y.toInt ∧ _) (by omega)]
      by_cases c3 : y < -1
      · rw [if_pos c3]; exact ⟨_, _, _, rfl, rfl, h⟩
      · rw [if_neg c3, if_neg (show ¬ y < nI n by (simp only [Int32.lt_iff_toInt_lt, Int32.le_iff_toInt_le, ← Int32.toInt_inj, Int32.reduceToInt] at *; omega))]; exact ⟨_, _, _, rfl, rfl, h⟩
  · rw [if_neg c, if_neg c]; exact ⟨_, _, _, rfl, rfl, h⟩
