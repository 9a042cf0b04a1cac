/-! PURE: soonest -/
def scB (P : Nat → Bool) : Nat → Nat → Option Nat
  | 0, _ => none
  | c + 1, lo => if P lo = true then some lo else scB P c (lo + 1)
theorem scB_add (P : Nat → Bool) : ∀ (a b lo : Nat), scB P (a + b) lo = match scB P a lo with
    | some v => some v
    | none => scB P b (lo + a)
  | 0, b, lo => by rw [Nat.zero_add]; rfl
  | a + 1, b, lo => by
    rw [show a + 1 + b = (a + b) + 1 by omega]
    show (if P lo = true then some lo else scB P (a + b) (lo + 1)) = match (if P lo = true then some lo else scB P a (lo + 1)) with
      | some v => some v
      | none => scB P b (lo + (a + 1))
    by_cases c : P lo = true
    · rw [if_pos c, if_pos c]
    · rw [if_neg c, if_neg c, scB_add P a b (lo + 1), show lo + 1 + a = lo + (a + 1) by omega]
theorem scB_sh (P Q : Nat → Bool) (b : Nat) : ∀ (c lo : Nat), (∀ w, lo ≤ w → w < lo + c → P (b + w) = Q w) → scB P c (b + lo) = (scB Q c lo).map (b + ·)
  | 0, _, _ => rfl
  | c + 1, lo, h => by
    show (if P (b + lo) = true then some (b + lo) else scB P c (b + lo + 1)) = Option.map (b + ·) (if Q lo = true then some lo else scB Q c (lo + 1))
    rw [h lo (by omega) (by omega)]
    by_cases e : Q lo = true
    · rw [if_pos e, if_pos e]; rfl
    · rw [if_neg e, if_neg e, Nat.add_assoc]
      exact scB_sh P Q b c (lo + 1) (fun w h1 h2 => h w (by omega) (by omega))
theorem scB_lt (P : Nat → Bool) : ∀ (c lo v : Nat), scB P c lo = some v → lo ≤ v ∧ v < lo + c
  | 0, _, _, h => by cases h
  | c + 1, lo, v, h => by
    have h : (if P lo = true then some lo else scB P c (lo + 1)) = some v := h
    by_cases e : P lo = true
    · rw [if_pos e] at h
      have := Option.some.inj h
      omega
    · rw [if_neg e] at h
      have := scB_lt P c (lo + 1) v h
      omega
def hiV (E : EVt) (gl : Int32) (n : Nat) (X : Nat → Int32) (w : Nat) : Bool := decide (rnV E n X w 12 = gl)
def phX (E : EVt) (gl : Int32) (X : Nat → Int32) (n : Nat) : Option Nat := scB (hiV E gl n X) (7 ^ n) 0
def psX (E : EVt) (gl : Int32) (X : Nat → Int32) (a n : Nat) : Option Nat := scB (hiV E gl (n + 1) X) ((7 - a) * 7 ^ n) (a * 7 ^ n)
theorem ps_0 (E : EVt) (gl : Int32) (X : Nat → Int32) (n : Nat) : psX E gl X 0 n = phX E gl X (n + 1) := by
  unfold psX phX
  rw [Nat.zero_mul, Nat.sub_zero, Nat.pow_succ, Nat.mul_comm 7]
theorem ps_7 (E : EVt) (gl : Int32) (X : Nat → Int32) (n : Nat) : psX E gl X 7 n = none := by
  unfold psX
  rw [Nat.sub_self, Nat.zero_mul]
  rfl
theorem ps_s (E : EVt) (gl : Int32) (X : Nat → Int32) {a : Nat} (ha : a < 7) (n : Nat) : psX E gl X a n = match phX E gl (stX E X (nI (acN a)) 0).1 n with
    | some w => some (a * 7 ^ n + w)
    | none => psX E gl X (a + 1) n := by
  unfold psX phX
  rw [show (7 - a) * 7 ^ n = 7 ^ n + (7 - (a + 1)) * 7 ^ n by rw [show 7 - a = 1 + (7 - (a + 1)) by omega, Nat.add_mul, Nat.one_mul], scB_add]
  have h := scB_sh (hiV E gl (n + 1) X) (hiV E gl n (stX E X (nI (acN a)) 0).1) (a * 7 ^ n) (7 ^ n) 0 (fun w _ hw => by
    unfold hiV
    rw [rv_blk X ha (by omega)])
  have h : scB (hiV E gl (n + 1) X) (7 ^ n) (a * 7 ^ n) = _ := h
  rw [h]
  cases scB (hiV E gl n (stX E X (nI (acN a)) 0).1) (7 ^ n) 0 with
  | some w => rfl
  | none =>
    show scB (hiV E gl (n + 1) X) ((7 - (a + 1)) * 7 ^ n) (a * 7 ^ n + 7 ^ n) = scB (hiV E gl (n + 1) X) ((7 - (a + 1)) * 7 ^ n) ((a + 1) * 7 ^ n)
    rw [Nat.add_mul, Nat.one_mul]
/-- bestSize, and the best row by its number, as the class's state holds them -/
def RsS (g : STt) (s : Nat × Option Nat) : Prop := g.1 9 0 = nI s.1 ∧ ∀ v, s.2 = some v → ∀ k, k < s.1 → g.2.1 13 0 k = nI (acN (dgV v (s.1 - 1 - k)))
/-- what a search from length d1 on finds: the least length within, and its first row -/
def ReS (φ : Nat → Option Nat) (d1 : Nat) (num : Nat → Nat → Nat) (s s' : Nat × Option Nat) : Prop := (∃ n w, d1 + n < s.1 ∧ φ n = some w ∧ (∀ n', n' < n → φ n' = none) ∧ s' = (d1 + n, some (num n w))) ∨ ((∀ n, d1 + n < s.1 → φ n = none) ∧ s' = s)
theorem re_join {E : EVt} {gl : Int32} {X : Nat → Int32} {a d p : Nat} (ha : a < 7) {s s1 s2 : Nat × Option Nat} (h1 : ReS (phX E gl (stX E X (nI (acN a)) 0).1) (d + 1) (fun n w => (p * 7 + a) * 7 ^ n + w) s s1) (h2 : ReS (psX E gl X (a + 1)) (d + 1) (fun n w => p * 7 ^ (n + 1) + w) s1 s2) : ReS (psX E gl X a) (d + 1) (fun n w => p * 7 ^ (n + 1) + w) s s2 := by
  have hn : ∀ n, phX E gl (stX E X (nI (acN a)) 0).1 n = none → psX E gl X a n = psX E gl X (a + 1) n := fun n h => by rw [ps_s E gl X ha n, h]
  rcases h1 with ⟨n1, w1, a1, a2, a3, rfl⟩ | ⟨a1, rfl⟩
  · rcases h2 with ⟨n2, w2, b1, b2, b3, rfl⟩ | ⟨b1, rfl⟩
    · have b1 : d + 1 + n2 < d + 1 + n1 := b1
      exact Or.inl ⟨n2, w2, by omega, by rw [hn n2 (a3 n2 (by omega))]; exact b2, fun n' h' => by rw [hn n' (a3 n' (by omega))]; exact b3 n' h', rfl⟩
    · have b1 : ∀ n, d + 1 + n < d + 1 + n1 → psX E gl X (a + 1) n = none := b1
      refine Or.inl ⟨n1, a * 7 ^ n1 + w1, a1, by rw [ps_s E gl X ha n1, a2], fun n' h' => by rw [hn n' (a3 n' h')]; exact b1 n' (by omega), ?_⟩
      have e : (p * 7 + a) * 7 ^ n1 + w1 = p * 7 ^ (n1 + 1) + (a * 7 ^ n1 + w1) := by
        rw [Nat.add_mul, Nat.pow_succ, Nat.mul_assoc, Nat.mul_comm 7, Nat.add_assoc]
      exact congrArg (fun q => (d + 1 + n1, some q)) e
  · rcases h2 with ⟨n2, w2, b1, b2, b3, rfl⟩ | ⟨b1, rfl⟩
    · exact Or.inl ⟨n2, w2, b1, by rw [hn n2 (a1 n2 b1)]; exact b2, fun n' h' => by rw [hn n' (a1 n' (by omega))]; exact b3 n' h', rfl⟩
    · exact Or.inr ⟨fun n h => by rw [hn n (a1 n h)]; exact b1 n h, rfl⟩
theorem re_le {φ : Nat → Option Nat} {d1 : Nat} {num : Nat → Nat → Nat} {s s' : Nat × Option Nat} (h : ReS φ d1 num s s') : s'.1 ≤ s.1 := by
  rcases h with ⟨n, w, a1, a2, a3, rfl⟩ | ⟨-, rfl⟩
  · exact Nat.le_of_lt a1
  · exact Nat.le_refl _
section SL
variable {qT : STt → Int32 → Option STt} {qW : STt → Int32 → Int32 → Option STt} {K : (STt × Int32) → Option STt} {x1 : Int32} {g g1 : STt}
theorem sl_skip : fX8_trySooner_l2c qT qW K x1 g (nI 6) = K (g, nI 7) := by
  unfold fX8_trySooner_l2c fX8_trySooner_j20
  rw [if_neg (by decide), if_pos (by decide)]
  rfl
theorem sl_end : fX8_trySooner_l2c qT qW K x1 g (nI 8) = some g := by
  unfold fX8_trySooner_l2c
  rw [if_pos (by decide)]
theorem sl_step {a : Nat} (ha : a < 8) (h6 : a ≠ 6) (h : qW g x1 (nI a) = some g1) : fX8_trySooner_l2c qT qW K x1 g (nI a) = K (g1, nI (a + 1)) := by
  unfold fX8_trySooner_l2c fX8_trySooner_j20
  rw [if_neg (show ¬ (7 : Int32) < nI a from nI_nlt (a := 7) (by omega) (by omega)), if_neg (c := nI a = 6) (fun q => h6 ((nI_eq (b := 6) (by omega) (by omega)).mp q)), h, bnd1_e, nI_1]
end SL
theorem c_soonLoop {E : EVt} {X : Nat → Int32} {gl : Int32} {d p : Nat} (qT : STt → Int32 → Option STt) (qW : STt → Int32 → Int32 → Option STt) (g : STt) (child : ∀ (g0 : STt) (s0 : Nat × Option Nat) (a : Nat), a < 7 → SubC d g g0 → RsS g0 s0 → s0.1 ≤ 5 → ∃ g' s', qW g0 (nI d) (nI (acN a)) = some g' ∧ SubC d g0 g' ∧ RsS g' s' ∧ ReS (phX E gl (stX E X (nI (acN a)) 0).1) (d + 1) (fun n w => (p * 7 + a) * 7 ^ n + w) s0 s') : ∀ (c a fu : Nat) (g0 : STt) (s0 : Nat × Option Nat), a + c = 7 → 2 * c + 1 < fu → SubC d g g0 → RsS g0 s0 → s0.1 ≤ 5 → ∃ g' s', iterO (fun K z => fX8_trySooner_l2c qT qW K (nI d) z.1 z.2) fu (g0, nI (if a = 7 then 8 else a)) = some g' ∧ SubC d g g' ∧ RsS g' s' ∧ ReS (psX E gl X a) (d + 1) (fun n w => p * 7 ^ (n + 1) + w) s0 s' := by
  intro c
  induction c with
  | zero =>
    intro a fu g0 s0 hac hfu h0 hs0 h5
    obtain ⟨fu, rfl⟩ : ∃ k, fu = k + 1 := ⟨fu - 1, by omega⟩
    have e : a = 7 := by omega
    subst e
    rw [iterO_succ]
    exact ⟨g0, s0, sl_end, h0, hs0, Or.inr ⟨fun n _ => ps_7 E gl X n, rfl⟩⟩
  | succ c ihc =>
    intro a fu g0 s0 hac hfu h0 hs0 h5
    obtain ⟨fu, rfl⟩ : ∃ k, fu = k + 1 + 1 := ⟨fu - 2, by omega⟩
    obtain ⟨g1, s1, a1, a2, a3, a4⟩ := child g0 s0 a (by omega) h0 hs0 h5
    have h5' : s1.1 ≤ 5 := Nat.le_trans (re_le a4) h5
    by_cases c6 : a = 6
    · subst c6
      obtain ⟨g', s', b1, b2, b3, b4⟩ := ihc 7 fu g1 s1 (by omega) (by omega) (h0.tr a2) a3 h5'
      refine ⟨g', s', ?_, b2, b3, re_join (by omega) a4 b4⟩
      rw [iterO_succ]
      refine sl_skip.trans ?_
      rw [iterO_succ]
      exact (sl_step (a := 7) (by omega) (by omega) a1).trans b1
    · obtain ⟨g', s', b1, b2, b3, b4⟩ := ihc (a + 1) (fu + 1) g1 s1 (by omega) (by omega) (h0.tr a2) a3 h5'
      refine ⟨g', s', ?_, b2, b3, re_join (by omega) a4 b4⟩
      rw [iterO_succ, if_neg (show ¬ a = 7 by omega)]
      rw [if_neg (show ¬ a + 1 = 7 by omega)] at b1
      have ea : acN a = a := by unfold acN; rw [if_neg c6]
      rw [ea] at a1
      exact (sl_step (by omega) c6 a1).trans b1
theorem ph_0 (E : EVt) (gl : Int32) (X : Nat → Int32) : phX E gl X 0 = if X 12 = gl then some 0 else none := by
  show (if decide (X 12 = gl) = true then some 0 else none) = _
  by_cases c : X 12 = gl
  · rw [if_pos c, if_pos (decide_eq_true c)]
  · rw [if_neg c, if_neg (fun q => c (of_decide_eq_true q))]
theorem rv_is_hi {E : EVt} (hO : EOK E) {gl : Int32} {A B : Nat → Int32} (h : IsX A B) (n : Nat) : phX E gl A n = phX E gl B n := by
  unfold phX
  refine congrArg (fun q => scB q (7 ^ n) 0) (funext fun w => ?_)
  unfold hiV
  rw [is_rv hO n A B w h 12 (by omega)]
theorem ps_is {E : EVt} (hO : EOK E) {gl : Int32} {A B : Nat → Int32} (h : IsX A B) (a n : Nat) : psX E gl A a n = psX E gl B a n := by
  unfold psX
  refine congrArg (fun q => scB q ((7 - a) * 7 ^ n) (a * 7 ^ n)) (funext fun w => ?_)
  unfold hiV
  rw [is_rv hO (n + 1) A B w h 12 (by omega)]
theorem c_soon {E : EVt} (hO : EOK E) {gl : Int32} : ∀ (r d p f : Nat) (X : Nat → Int32) (g : STt) (s : Nat × Option Nat), d + r = 4 → 2 * r + 1 < f → DKn E.1 (r + 1) X → EnC g E → IsX (g.2.1 22 (2 + d)) X → (∀ k, k < d → g.2.1 12 0 k = nI (acN (dgV p (d - 1 - k)))) → g.1 11 0 = gl → RsS g s → s.1 ≤ 5 → ∃ g' s', fX8_trySooner f g (nI d) = some g' ∧ SubC d g g' ∧ RsS g' s' ∧ ReS (psX E gl X 0) (d + 1) (fun n w => p * 7 ^ (n + 1) + w) s s' := by
  intro r
  induction r with
  | zero =>
    intro d p f X g s hd hf hD hE hX hT hg hs h5
    obtain ⟨f, rfl⟩ : ∃ k, f = k + 1 + 1 := ⟨f - 2, by omega⟩
    have e : d = 4 := by omega
    subst e
    refine c_soonLoop (fX8_trySooner (f + 1)) (fX8_trySoonerWith (f + 1)) g (fun g0 s0 a ha h0 hs0 h5 => ⟨g0, s0, ?_, SubC.rfl' 4 g0, hs0, Or.inr ⟨fun n hn => by omega, rfl⟩⟩) 7 0 fuelN g s (by omega) (by show 2 * 7 + 1 < 5000; omega) (SubC.rfl' 4 g) hs h5
    show FX8_trySoonerWith (fX8_trySooner f) (fX8_trySoonerWith f) g0 (nI 4) (nI (acN a)) = _
    unfold FX8_trySoonerWith
    rw [if_neg (by decide), if_pos (by decide)]
  | succ r ih =>
    intro d p f X g s hd hf hD hE hX hT hg hs h5
    obtain ⟨f, rfl⟩ : ∃ k, f = k + 1 + 1 := ⟨f - 2, by omega⟩
    refine c_soonLoop (fX8_trySooner (f + 1)) (fX8_trySoonerWith (f + 1)) g (fun g0 s0 a ha h0 hs0 h5 => ?_) 7 0 fuelN g s (by omega) (by show 2 * 7 + 1 < 5000; omega) (SubC.rfl' d g) hs h5
    have u : ∀ A, fX8_trySoonerWith (f + 1) g0 (nI d) (nI (acN a)) = A ↔ FX8_trySoonerWith (fX8_trySooner f) (fX8_trySoonerWith f) g0 (nI d) (nI (acN a)) = A := fun A => Iff.rfl
    have hB := hs0.1
    by_cases cB : d + 1 < s0.1
    · have hE0 := EnC_F hE h0.1
      have hX0 : IsX (g0.2.1 22 (2 + d)) X := by rw [h0.2.2.1 d (Nat.le_refl d)]; exact hX
      have iZ : IsX (cpY (g0.2.1 22 (2 + d)) (g0.2.1 22 (3 + d))) X := is_tr (cpY_is _ _) hX0
      have kZ : DKn E.1 (r + 1 + 1) (cpY (g0.2.1 22 (2 + d)) (g0.2.1 22 (3 + d))) := dok_is hD iZ
      obtain ⟨F', L', e1⟩ := c_step (d := 3 + d) hE0 hO (g0.2.1 7 0) (g0.2.1 8 0) (cpY (g0.2.1 22 (2 + d)) (g0.2.1 22 (3 + d))) (nI (acN a)) 0 (dkn_12 kZ)
      have iY0 := (is_st iZ hO (nI (acN a)) 0).1
      generalize (stX E (cpY (g0.2.1 22 (2 + d)) (g0.2.1 22 (3 + d))) (nI (acN a)) 0).1 = Y at e1 iY0
      have kX := dkn_st hO hD (nI (acN a)) 0
      generalize (stX E X (nI (acN a)) 0).1 = X' at iY0 kX ⊢
      have sb := sub_step (g := g0) (d := d) F' L' Y (nI (acN a))
      have hT' : ∀ k, k < d + 1 → (sA1 (cs g0 (3 + d) F' L' Y) 12 0 d (nI (acN a))).2.1 12 0 k = nI (acN (dgV (p * 7 + a) (d + 1 - 1 - k))) := fun k hk => by
        rw [step_12]
        by_cases e : k = d
        · rw [if_pos e, e, show d + 1 - 1 - d = 0 by omega, dg_0 ha]
        · rw [if_neg e, h0.2.2.2 k (by omega), hT k (by omega), show d + 1 - 1 - k = (d - 1 - k) + 1 by omega, dg_s ha]
      have hg' : (sA1 (cs g0 (3 + d) F' L' Y) 12 0 d (nI (acN a))).1 11 0 = gl := by rw [sb.2.1, h0.2.1]; exact hg
      have hs' : RsS (sA1 (cs g0 (3 + d) F' L' Y) 12 0 d (nI (acN a))) s0 := by
        refine ⟨hB, fun v hv k hk => ?_⟩
        rw [sA1_n _ _ (by omega), cs_n _ _ _ _ _ (by omega) (by omega) (by omega)]
        exact hs0.2 v hv k hk
      have hrun : ∀ A, FX8_trySoonerWith (fX8_trySooner f) (fX8_trySoonerWith f) g0 (nI d) (nI (acN a)) = A ↔ (if Y 12 = gl then (bnd1 (fX8_keepTried (sA1 (cs g0 (3 + d) F' L' Y) 12 0 d (nI (acN a))) (nI (d + 1))) fun g_16 => some g_16) else (bnd1 (fX8_trySooner f (sA1 (cs g0 (3 + d) F' L' Y) 12 0 d (nI (acN a))) (nI (d + 1))) fun g_16 => some g_16)) = A := by
        intro A
        unfold FX8_trySoonerWith
        rw [if_neg (nI_pos (by omega)), if_neg (show ¬ (4 : Int32) ≤ nI d from nI_ge (b := 4) (by omega) (by omega)), nI_1, hB, if_pos (nI_lt cB (by omega)), e_after g0 (by omega), bnd_e, if_pos (by omega), e1, bnd_e, if_pos (inB_nI (show d < 4 by omega) (by omega)), nI_c (by omega), eX1_getk _ _ 12 12 (by omega) rfl, bnd1_e, step_22, hg']
      rw [iY0 12 (by omega)] at hrun
      by_cases cg : X' 12 = gl
      · refine ⟨sA (sS (sA1 (cs g0 (3 + d) F' L' Y) 12 0 d (nI (acN a))) 9 0 (nI (d + 1))) 13 0 (va_cpy ((sA1 (cs g0 (3 + d) F' L' Y) 12 0 d (nI (acN a))).2.1 12 0) ((sA1 (cs g0 (3 + d) F' L' Y) 12 0 d (nI (acN a))).2.1 13 0) 0 0 4), (d + 1, some (p * 7 + a)), ?_, sb.tr ?_, ?_, ?_⟩
        · rw [u, hrun, if_pos cg, c_keepT, bnd1_e]
        · refine ⟨⟨fun c i h1 h2 h3 => ?_, fun c i h1 h2 h3 h4 h5 => ?_, rfl⟩, ?_, fun i hi => ?_, fun k hk => ?_⟩
          · show (sS (sA1 (cs g0 (3 + d) F' L' Y) 12 0 d (nI (acN a))) 9 0 (nI (d + 1))).1 c i = _
            rw [sS_n _ _ (by omega)]
          · rw [sA_n _ _ (by omega)]; rfl
          · show (sS (sA1 (cs g0 (3 + d) F' L' Y) 12 0 d (nI (acN a))) 9 0 (nI (d + 1))).1 11 0 = _
            rw [sS_n _ _ (by omega)]
          · rw [sA_n _ _ (by omega)]; rfl
          · rw [sA_n _ _ (by omega)]; rfl
        · refine ⟨sS_s (sA1 (cs g0 (3 + d) F' L' Y) 12 0 d (nI (acN a))) 9 0 (nI (d + 1)), fun v hv k hk => ?_⟩
          have hv : p * 7 + a = v := Option.some.inj hv
          subst hv
          rw [sA_s, keep_13 _ _ (show k < 4 by have : k < d + 1 := hk; omega)]
          exact hT' k hk
        · refine Or.inl ⟨0, 0, cB, by rw [ph_0, if_pos cg], fun n' h' => by omega, ?_⟩
          show (d + 1, some (p * 7 + a)) = (d + 1, some ((p * 7 + a) * 1))
          rw [Nat.mul_one]
      · obtain ⟨g', s', a1, a2, a3, a4⟩ := ih (d + 1) (p * 7 + a) f X' (sA1 (cs g0 (3 + d) F' L' Y) 12 0 d (nI (acN a))) s0 (by omega) (by omega) kX (EnC_F hE0 sb.1) (by rw [show 2 + (d + 1) = 3 + d by omega, step_22]; exact iY0) hT' hg' hs' h5
        refine ⟨g', s', ?_, sb.tr (a2.le (by omega)), a3, ?_⟩
        · rw [u, hrun, if_neg cg, a1, bnd1_e]
        · have p0 : phX E gl X' 0 = none := by rw [ph_0, if_neg cg]
          rcases a4 with ⟨n, w, b1, b2, b3, rfl⟩ | ⟨b1, rfl⟩
          · refine Or.inl ⟨n + 1, w, by omega, by rw [← ps_0]; exact b2, fun n' h' => ?_, ?_⟩
            · cases n' with
              | zero => exact p0
              | succ k => rw [← ps_0]; exact b3 k (by omega)
            · show (d + 1 + 1 + n, some ((p * 7 + a) * 7 ^ (n + 1) + w)) = (d + 1 + (n + 1), some ((p * 7 + a) * 7 ^ (n + 1) + w))
              rw [show d + 1 + 1 + n = d + 1 + (n + 1) by omega]
          · refine Or.inr ⟨fun n hn => ?_, rfl⟩
            cases n with
            | zero => exact p0
            | succ k => rw [← ps_0]; exact b1 k (by omega)
    · refine ⟨g0, s0, ?_, SubC.rfl' d g0, hs0, Or.inr ⟨fun n hn => by omega, rfl⟩⟩
      rw [u]
      unfold FX8_trySoonerWith
      rw [if_neg (nI_pos (by omega)), if_neg (show ¬ (4 : Int32) ≤ nI d from nI_ge (b := 4) (by omega) (by omega)), nI_1, hB, if_neg (nI_nlt (by omega) (by omega))]
