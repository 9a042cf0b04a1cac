/-! PURE: rows by their numbers; the model looks behind one -/
def acN (d : Nat) : Nat := if d = 6 then 7 else d
def dgV (v j : Nat) : Nat := v / 7 ^ j % 7
def rnV (E : EVt) : Nat → (Nat → Int32) → Nat → (Nat → Int32)
  | 0, X, _ => X
  | n + 1, X, v => rnV E n (stX E X (nI (acN (dgV v n))) 0).1 v
theorem is_rv {E : EVt} (hO : EOK E) : ∀ (n : Nat) (A B : Nat → Int32) (v : Nat), IsX A B → IsX (rnV E n A v) (rnV E n B v)
  | 0, _, _, _, h => h
  | n + 1, A, B, v, h => is_rv hO n _ _ v (is_st h hO _ _).1
theorem dkn_rv {E : EVt} (hO : EOK E) {B : Nat} : ∀ (n : Nat) (A : Nat → Int32) (v : Nat), DKn E.1 (n + B) A → DKn E.1 B (rnV E n A v)
  | 0, _, _, h => by rw [Nat.zero_add] at h; exact h
  | n + 1, A, v, h => dkn_rv hO n _ v (dkn_st hO (by rw [show n + 1 + B = n + B + 1 by omega] at h; exact h) _ _)
theorem ac_lt {d : Nat} (h : d < 7) : acN d < 8 := by
  unfold acN
  split <;> omega
theorem dg_lt (v j : Nat) : dgV v j < 7 := Nat.mod_lt _ (by decide)
theorem lt7 {n : Nat} (h : n ≤ 4) : 7 ^ n ≤ 2401 := Nat.pow_le_pow_right (by decide) h
theorem e_actL (g : STt) {at_ n v0 : Nat} (hv : v0 < 2401) (hn : n ≤ 4) : ∀ (fu j : Nat), at_ + j < n → j < fu → ∀ v : Nat, v < 2401 → v / 7 ^ j = v0 → iterO (fun K z => fX11_actOf_l7c K g (nI at_) z.1 z.2) fu (nI v, nI (at_ + j)) = some (nI (acN (v0 % 7))) := by
  intro fu
  induction fu with
  | zero => intro j h1 h2; omega
  | succ fu ih =>
    intro j h1 h2 v hv2 he
    rw [iterO_succ]
    generalize iterO (fun K z => fX11_actOf_l7c K g (nI at_) z.1 z.2) fu = K at ih ⊢
    show fX11_actOf_l7c K g (nI at_) (nI v) (nI (at_ + j)) = _
    unfold fX11_actOf_l7c
    rw [show (7 : Int32) = nI 7 from rfl, pk_rem (by omega) (by omega) (by omega), pk_div (by omega) (by omega) (by omega)]
    cases j with
    | zero =>
      rw [Nat.pow_zero, Nat.div_one] at he
      subst he
      rw [if_pos (nI_le (by omega) (by omega))]
      unfold acN
      have hm : v % 7 < 7 := Nat.mod_lt _ (by decide)
      by_cases c : v % 7 = 6
      · rw [c, if_pos rfl, if_pos (by decide)]
      · rw [if_neg c, if_neg (c := nI (v % 7) = 6) (fun q => c ((nI_eq (b := 6) (by omega) (by omega)).mp q))]
    | succ j =>
      have e1 : nI (at_ + (j + 1)) + (-1) = nI (at_ + j) := by
        rw [show nI (at_ + (j + 1)) + (-1) = nI (at_ + (j + 1)) - 1 by grind, show at_ + (j + 1) = (at_ + j) + 1 by omega, nI_pred]
      rw [if_neg (nI_ge (by omega) (by omega)), e1]
      refine ih j (by omega) (by omega) (v / 7) ?_ ?_
      · have := Nat.div_le_self v 7
        omega
      · rw [Nat.div_div_eq_div_mul, ← he, Nat.pow_succ, Nat.mul_comm]
theorem e_act (g : STt) {v i n : Nat} (hv : v < 2401) (hn : n ≤ 4) (hi : i < n) : fX11_actOf g (nI v) (nI i) (nI n) = some (nI (acN (dgV v (n - 1 - i)))) := by
  have h := e_actL g (at_ := i) (n := n) (v0 := v / 7 ^ (n - 1 - i)) (by have := Nat.div_le_self v (7 ^ (n - 1 - i)); omega) hn fuelN (n - 1 - i) (by omega) (by show _ < 5000; omega) v hv rfl
  unfold fX11_actOf fX11_actOf_l7
  rw [show nI n - 1 = nI (i + (n - 1 - i)) by rw [show n = (i + (n - 1 - i)) + 1 by omega, nI_pred]; exact congrArg nI (by omega)]
  exact h
theorem e_rowsL (g : STt) {n : Nat} (hn : n ≤ 4) : ∀ (fu k : Nat), k ≤ n → n - k < fu → iterO (fun K z => fX11_rowsOf_l4c K g (nI n) z.1 z.2) fu (nI (7 ^ k), nI k) = some (nI (7 ^ n)) := by
  intro fu
  induction fu with
  | zero => intro k h1 h2; omega
  | succ fu ih =>
    intro k h1 h2
    rw [iterO_succ]
    generalize iterO (fun K z => fX11_rowsOf_l4c K g (nI n) z.1 z.2) fu = K at ih ⊢
    show fX11_rowsOf_l4c K g (nI n) (nI (7 ^ k)) (nI k) = _
    unfold fX11_rowsOf_l4c
    by_cases c : k = n
    · rw [c, if_pos (nI_le (Nat.le_refl n) (by omega))]
    · rw [if_neg (nI_ge (by omega) (by omega)), nI_1, show (7 : Int32) = nI 7 from rfl, pk_mul, ← Nat.pow_succ]
      exact ih (k + 1) (by omega) (by omega)
theorem e_rows (g : STt) {n : Nat} (hn : n ≤ 4) : fX11_rowsOf g (nI n) = some (nI (7 ^ n)) := e_rowsL g hn fuelN 0 (by omega) (by show _ < 5000; omega)
theorem sS_ms (m : STt) (p Y : Nat → Int32) (c i : Nat) (v : Int32) : sS (ms m p Y) c i v = ms (sS m c i v) p Y := rfl
theorem m_behL {m : STt} {E : EVt} (hM : EnM m E) (hO : EOK E) (h40 : m.1 40 0 = 0) (h41 : m.1 41 0 = 0) {n v : Nat} (hn : n ≤ 4) (hv : v < 2401) : ∀ (fu i : Nat) (pl Y : Nat → Int32), i ≤ n → n - i < fu → DKn E.1 (n - i) Y → ∃ p Y', iterO (fun K z => fX11_atBehind_l6c K (nI v) (nI n) z.1 z.2) fu (ms m pl Y, nI i) = some (ms (sS m 43 0 (lrn (rnV E (n - i) Y v))) p Y', rnV E (n - i) Y v 12) ∧ IsX Y' (m.2.1 71 0) := by
  intro fu
  induction fu with
  | zero => intro i pl Y h1 h2; omega
  | succ fu ih =>
    intro i pl Y h1 h2 hY
    rw [iterO_succ]
    generalize iterO (fun K z => fX11_atBehind_l6c K (nI v) (nI n) z.1 z.2) fu = K at ih ⊢
    show ∃ p Y', fX11_atBehind_l6c K (nI v) (nI n) (ms m pl Y) (nI i) = _ ∧ _
    unfold fX11_atBehind_l6c
    by_cases c : i = n
    · subst c
      obtain ⟨Y', e1, e2⟩ := e_lay (sS m 43 0 (lrn Y)) pl Y
      rw [if_pos (nI_le (Nat.le_refl i) (by omega)), if_pos i15_12, tn12, eX11_learnt, bnd1_e, ms_57, sS_ms, e1, bnd1_e, show i - i = 0 by omega]
      exact ⟨pl, Y', rfl, e2⟩
    · have hs : n - i = (n - (i + 1)) + 1 := by omega
      rw [hs] at hY
      rw [if_neg (nI_ge (by omega) (by omega)), e_act _ hv hn (by omega), bnd1_e, show n - 1 - i = n - (i + 1) by omega]
      obtain ⟨p1, e1⟩ := m_stp hM hO pl hY (nI (acN (dgV v (n - (i + 1))))) h40 h41
      obtain ⟨p2, Y', e2, e3⟩ := ih (i + 1) p1 _ (by omega) (by omega) (dkn_st hO hY (nI (acN (dgV v (n - (i + 1))))) 0)
      rw [e1, bnd_e, nI_1, e2, hs]
      exact ⟨p2, Y', rfl, e3⟩
theorem m_beh {m : STt} {E : EVt} (hM : EnM m E) (hO : EOK E) (h40 : m.1 40 0 = 0) (h41 : m.1 41 0 = 0) {n v : Nat} (hn : n ≤ 4) (hv : v < 2401) {X : Nat → Int32} (hX : IsX (m.2.1 57 0) X) (hD : DKn E.1 100 X) : ∃ m', fX11_atBehind m (nI v) (nI n) = some (m', rnV E n X v 12) ∧ FM m m' ∧ m'.1 43 0 = lrn (rnV E n X v) := by
  obtain ⟨W, eW, iW⟩ := e_keep m
  have hM1 : EnM (sA m 71 0 W) E := EnM_F hM (FM_71 m W)
  have hD1 : DKn E.1 n (m.2.1 57 0) := dkn_le (dok_is hD hX) (by omega)
  obtain ⟨p, Y', e1, e2⟩ := m_behL hM1 hO h40 h41 hn hv fuelN 0 (m.2.1 69 0) (m.2.1 57 0) (by omega) (by show _ < 5000; omega) hD1
  rw [ms_71 W, show n - 0 = n by omega] at e1
  have ii := is_rv hO n _ _ v hX
  rw [ii 12 (by omega), lrn_c ii] at e1
  refine ⟨ms (sS (sA m 71 0 W) 43 0 (lrn (rnV E n X v))) p Y', ?_, ?_, ?_⟩
  · unfold fX11_atBehind fX11_atBehind_l6
    rw [eW, bnd1_e]
    exact e1
  · exact ((FM_71 m W).tr (FM_43 _ _)).tr (FM_ms _ p (is_tr e2 iW))
  · show (sS (sA m 71 0 W) 43 0 (lrn (rnV E n X v))).1 43 0 = _
    exact sS_s _ _ _ _
/-! digits -/
theorem dg_pre {a w n j : Nat} (hj : j < n) : dgV (a * 7 ^ n + w) j = dgV w j := by
  unfold dgV
  have e7 : 7 ^ n = 7 ^ j * (7 * 7 ^ (n - j - 1)) := by
    rw [← Nat.pow_succ', ← Nat.pow_add]
    exact congrArg (7 ^ ·) (by omega)
  have e : a * 7 ^ n + w = w + 7 ^ j * (7 * (a * 7 ^ (n - j - 1))) := by
    rw [e7, Nat.add_comm]
    refine congrArg (w + ·) ?_
    ac_rfl
  rw [e, Nat.add_mul_div_left _ _ (Nat.pow_pos (by decide)), Nat.add_mul_mod_self_left]
theorem dg_top {a w n : Nat} (ha : a < 7) (hw : w < 7 ^ n) : dgV (a * 7 ^ n + w) n = a := by
  unfold dgV
  rw [Nat.mul_comm, Nat.mul_add_div (Nat.pow_pos (by decide)), Nat.div_eq_of_lt hw, Nat.add_zero, Nat.mod_eq_of_lt ha]
theorem rv_c {E : EVt} {v v' : Nat} : ∀ (n : Nat) (X : Nat → Int32), (∀ j, j < n → dgV v j = dgV v' j) → rnV E n X v = rnV E n X v'
  | 0, _, _ => rfl
  | n + 1, X, h => by
    show rnV E n (stX E X (nI (acN (dgV v n))) 0).1 v = rnV E n (stX E X (nI (acN (dgV v' n))) 0).1 v'
    rw [h n (by omega)]
    exact rv_c n _ (fun j hj => h j (by omega))
theorem rv_blk {E : EVt} {a w n : Nat} (X : Nat → Int32) (ha : a < 7) (hw : w < 7 ^ n) : rnV E (n + 1) X (a * 7 ^ n + w) = rnV E n (stX E X (nI (acN a)) 0).1 w := by
  show rnV E n (stX E X (nI (acN (dgV (a * 7 ^ n + w) n))) 0).1 (a * 7 ^ n + w) = _
  rw [dg_top ha hw]
  exact rv_c n _ (fun j hj => dg_pre hj)
theorem rv_end {E : EVt} {a : Nat} (ha : a < 7) : ∀ (n : Nat) (X : Nat → Int32) (p : Nat), rnV E (n + 1) X (p * 7 + a) = (stX E (rnV E n X p) (nI (acN a)) 0).1
  | 0, X, p => by
    show (stX E X (nI (acN (dgV (p * 7 + a) 0))) 0).1 = _
    have : dgV (p * 7 + a) 0 = a := by
      unfold dgV
      rw [Nat.pow_zero, Nat.div_one, Nat.add_comm, Nat.add_mul_mod_self_right, Nat.mod_eq_of_lt ha]
    rw [this]
    rfl
  | n + 1, X, p => by
    show rnV E (n + 1) (stX E X (nI (acN (dgV (p * 7 + a) (n + 1)))) 0).1 (p * 7 + a) = (stX E (rnV E n (stX E X (nI (acN (dgV p n))) 0).1 p) (nI (acN a)) 0).1
    have : dgV (p * 7 + a) (n + 1) = dgV p n := by
      unfold dgV
      rw [Nat.pow_succ, Nat.mul_comm (7 ^ n) 7, ← Nat.div_div_eq_div_mul, Nat.mul_comm p 7, Nat.mul_add_div (by decide), Nat.div_eq_of_lt ha, Nat.add_zero]
    rw [this]
    exact rv_end ha n _ p
theorem dg_0 {a : Nat} (ha : a < 7) (p : Nat) : dgV (p * 7 + a) 0 = a := by
  unfold dgV
  rw [Nat.pow_zero, Nat.div_one, Nat.add_comm, Nat.add_mul_mod_self_right, Nat.mod_eq_of_lt ha]
theorem dg_s {a : Nat} (ha : a < 7) (p j : Nat) : dgV (p * 7 + a) (j + 1) = dgV p j := by
  unfold dgV
  rw [Nat.pow_succ, Nat.mul_comm (7 ^ j) 7, ← Nat.div_div_eq_div_mul, Nat.mul_comm p 7, Nat.mul_add_div (by decide), Nat.div_eq_of_lt ha, Nat.add_zero]
/-! the class's search: what a part of it leaves as it was -/
def SubC (d : Nat) (g g' : STt) : Prop := FC g g' ∧ g'.1 11 0 = g.1 11 0 ∧ (∀ i, i ≤ d → g'.2.1 22 (2 + i) = g.2.1 22 (2 + i)) ∧ (∀ k, k < d → g'.2.1 12 0 k = g.2.1 12 0 k)
theorem SubC.rfl' (d : Nat) (g : STt) : SubC d g g := ⟨FC.rfl' g, rfl, fun _ _ => rfl, fun _ _ => rfl⟩
theorem SubC.tr {d : Nat} {g g' g'' : STt} (h : SubC d g g') (h' : SubC d g' g'') : SubC d g g'' := ⟨h.1.tr h'.1, h'.2.1.trans h.2.1, fun i hi => (h'.2.2.1 i hi).trans (h.2.2.1 i hi), fun k hk => (h'.2.2.2 k hk).trans (h.2.2.2 k hk)⟩
theorem SubC.le {d d' : Nat} {g g' : STt} (h : SubC d g g') (hd : d' ≤ d) : SubC d' g g' := ⟨h.1, h.2.1, fun i hi => h.2.2.1 i (by omega), fun k hk => h.2.2.2 k (by omega)⟩
theorem e_after (g : STt) {d : Nat} (hd : d < 6) : fX8_stageAfter g (nI d) = some (cs g (3 + d) (g.2.1 7 0) (g.2.1 8 0) (cpY (g.2.1 22 (2 + d)) (g.2.1 22 (3 + d))), 3 + d) := by
  unfold fX8_stageAfter
  rw [nI_1, e_stage g (show d + 1 < 7 by omega), bnd1_e, if_pos (by omega), e_stage g (show d < 7 by omega), bnd1_e, if_pos (by omega), e_become, bnd1_e, show 2 + (d + 1) = 3 + d by omega, cs_A]
theorem sub_step {g : STt} {d : Nat} (F L Y : Nat → Int32) (v : Int32) : SubC d g (sA1 (cs g (3 + d) F L Y) 12 0 d v) := by
  refine ⟨⟨fun _ _ _ _ _ => rfl, fun c i h1 h2 h3 h4 h5 => ?_, rfl⟩, rfl, fun i hi => ?_, fun k hk => ?_⟩
  · rw [sA1_n _ _ (by omega)]
    show (sA (sA (sA g 7 0 F) 8 0 L) 22 (3 + d) Y).2.1 c i = _
    rw [sA_n _ _ (by omega), sA_n _ _ (by omega), sA_n _ _ (by omega)]
  · rw [sA1_n _ _ (by omega), cs_22n _ _ _ _ _ (by omega)]
  · rw [sA1_s, upd_n _ _ (by omega), cs_n _ _ _ _ _ (by omega) (by omega) (by omega)]
theorem step_22 {g : STt} {d : Nat} (F L Y : Nat → Int32) (v : Int32) : (sA1 (cs g (3 + d) F L Y) 12 0 d v).2.1 22 (3 + d) = Y := by
  rw [sA1_n _ _ (by omega), cs_22]
theorem step_12 {g : STt} {d : Nat} (F L Y : Nat → Int32) (v : Int32) (k : Nat) : (sA1 (cs g (3 + d) F L Y) 12 0 d v).2.1 12 0 k = if k = d then v else g.2.1 12 0 k := by
  rw [sA1_s, cs_n _ _ _ _ _ (by omega) (by omega) (by omega)]
  rfl
