/-! PURE: sure, the model and both sides -/
def suF (f : Nat → Nat) : Nat → Nat
  | 0 => 0
  | n + 1 => suF f n + f n
theorem su_c {f f' : Nat → Nat} : ∀ n, (∀ i, i < n → f i = f' i) → suF f n = suF f' n
  | 0, _ => rfl
  | n + 1, h => by
    show suF f n + f n = suF f' n + f' n
    rw [su_c n (fun i hi => h i (by omega)), h n (by omega)]
theorem su_2 (f : Nat → Nat) : ∀ n, suF f (2 * n) = suF (fun t => f (2 * t) + f (2 * t + 1)) n
  | 0 => rfl
  | n + 1 => by
    rw [show 2 * (n + 1) = 2 * n + 1 + 1 by omega]
    show suF f (2 * n) + f (2 * n) + f (2 * n + 1) = suF (fun t => f (2 * t) + f (2 * t + 1)) n + (f (2 * n) + f (2 * n + 1))
    rw [su_2 f n, Nat.add_assoc]
theorem su_lin (f f' : Nat → Nat) (a b : Nat) : ∀ n, suF (fun t => a * f t + b * f' t) n = a * suF f n + b * suF f' n
  | 0 => by show 0 = a * 0 + b * 0; rw [Nat.mul_zero, Nat.mul_zero]
  | n + 1 => by
    show suF (fun t => a * f t + b * f' t) n + (a * f n + b * f' n) = a * (suF f n + f n) + b * (suF f' n + f' n)
    rw [su_lin f f' a b n, Nat.mul_add, Nat.mul_add]
    omega
/-- from a number on -/
def suG (f : Nat → Nat) : Nat → Nat → Nat
  | 0, _ => 0
  | n + 1, lo => f lo + suG f n (lo + 1)
theorem su_G (f : Nat → Nat) : ∀ (n lo : Nat), suF f (lo + n) = suF f lo + suG f n lo
  | 0, lo => rfl
  | n + 1, lo => by
    show suF f (lo + (n + 1)) = suF f lo + (f lo + suG f n (lo + 1))
    rw [show lo + (n + 1) = (lo + 1) + n by omega, su_G f n (lo + 1)]
    show suF f lo + f lo + suG f n (lo + 1) = _
    omega
def mlX (E : EVt) (b : Int32) (o : Nat) (R : Nat → Int32) : Nat → (Nat → Int32) → Nat → Nat → Nat
  | 0, X, _, _ => if X 12 ≤ b then 0 else 1
  | r + 1, X, i, s => (if s % 2 = 1 then o else 10 - o) * mlX E b o R r (stX E X (R i) (if s % 2 = 1 then (if R i = 6 then 0 else 10) else 0)).1 (i + 1) (s / 2)
theorem ml_is {E : EVt} (hO : EOK E) {b : Int32} {o : Nat} {R : Nat → Int32} : ∀ (r : Nat) (A B : Nat → Int32) (i s : Nat), IsX A B → mlX E b o R r A i s = mlX E b o R r B i s
  | 0, A, B, i, s, h => by
    show (if A 12 ≤ b then 0 else 1) = (if B 12 ≤ b then 0 else 1)
    rw [h 12 (by omega)]
  | r + 1, A, B, i, s, h => by
    show (if s % 2 = 1 then o else 10 - o) * _ = (if s % 2 = 1 then o else 10 - o) * _
    rw [ml_is hO r _ _ (i + 1) (s / 2) (is_st h hO (R i) (if s % 2 = 1 then (if R i = 6 then 0 else 10) else 0)).1]
theorem ml_le {E : EVt} {b : Int32} {o : Nat} (ho : o ≤ 10) {R : Nat → Int32} : ∀ (r : Nat) (X : Nat → Int32) (i s : Nat), mlX E b o R r X i s ≤ 10 ^ r
  | 0, X, i, s => by
    show (if X 12 ≤ b then 0 else 1) ≤ 1
    split <;> omega
  | r + 1, X, i, s => by
    have h1 := ml_le (E := E) (b := b) ho (R := R) r (stX E X (R i) (if s % 2 = 1 then (if R i = 6 then 0 else 10) else 0)).1 (i + 1) (s / 2)
    show (if s % 2 = 1 then o else 10 - o) * _ ≤ 10 ^ (r + 1)
    rw [Nat.pow_succ, Nat.mul_comm (10 ^ r)]
    refine Nat.mul_le_mul ?_ h1
    split <;> omega
theorem sum_ml {E : EVt} {b gl : Int32} {o : Nat} (ho : o ≤ 10) {R : Nat → Int32} (hb : ∀ x : Int32, x < gl ↔ x ≤ b) : ∀ (r : Nat) (X : Nat → Int32) (i : Nat), suF (mlX E b o R r X i) (2 ^ r) = wyX E gl o R r X i
  | 0, X, i => by
    show 0 + (if X 12 ≤ b then 0 else 1) = (if X 12 < gl then 0 else 1)
    by_cases c : X 12 ≤ b
    · rw [if_pos c, if_pos ((hb _).mpr c)]
    · rw [if_neg c, if_neg (fun q => c ((hb _).mp q))]
  | r + 1, X, i => by
    have h0 := sum_ml (E := E) (R := R) ho hb r (stX E X (R i) 0).1 (i + 1)
    rw [Nat.pow_succ, Nat.mul_comm, su_2]
    have e : ∀ t, t < 2 ^ r → mlX E b o R (r + 1) X i (2 * t) + mlX E b o R (r + 1) X i (2 * t + 1) = (10 - o) * mlX E b o R r (stX E X (R i) 0).1 (i + 1) t + o * mlX E b o R r (stX E X (R i) (if R i = 6 then 0 else 10)).1 (i + 1) t := by
      intro t _
      show (if 2 * t % 2 = 1 then o else 10 - o) * mlX E b o R r (stX E X (R i) (if 2 * t % 2 = 1 then (if R i = 6 then 0 else 10) else 0)).1 (i + 1) (2 * t / 2) + (if (2 * t + 1) % 2 = 1 then o else 10 - o) * mlX E b o R r (stX E X (R i) (if (2 * t + 1) % 2 = 1 then (if R i = 6 then 0 else 10) else 0)).1 (i + 1) ((2 * t + 1) / 2) = _
      rw [if_neg (show ¬ 2 * t % 2 = 1 by omega), if_neg (show ¬ 2 * t % 2 = 1 by omega), if_pos (show (2 * t + 1) % 2 = 1 by omega), if_pos (show (2 * t + 1) % 2 = 1 by omega), show 2 * t / 2 = t by omega, show (2 * t + 1) / 2 = t by omega]
    rw [su_c _ e, su_lin, h0]
    show _ = (10 - (if R i = 6 then 0 else o)) * wyX E gl o R r (stX E X (R i) 0).1 (i + 1) + (if R i = 6 then 0 else o) * wyX E gl o R r (stX E X (R i) 10).1 (i + 1)
    by_cases c : R i = 6
    · rw [if_pos c, if_pos c, h0, ← Nat.add_mul, show 10 - o + o = 10 by omega, Nat.zero_mul, Nat.sub_zero]
      rfl
    · rw [if_neg c, if_neg c, sum_ml (E := E) (R := R) ho hb r (stX E X (R i) 10).1 (i + 1)]
theorem bit_tab : ∀ (k : Fin 6) (s : Fin 64), (((nI s.val >>> (nI k.val &&& 31)) &&& 1) = 1) = (s.val / 2 ^ k.val % 2 = 1) := by decide +kernel
theorem bit_of {k s : Nat} (hk : k < 6) (hs : s < 64) : (((nI s >>> (nI k &&& 31)) &&& 1) = 1) ↔ s / 2 ^ k % 2 = 1 := by
  have h := bit_tab ⟨k, hk⟩ ⟨s, hs⟩
  exact Eq.to_iff h
theorem shl_tab : ∀ (k : Fin 7), (1 : Int32) <<< (nI k.val &&& 31) = nI (2 ^ k.val) := by decide +kernel
theorem sS_id (g : STt) (c i : Nat) : sS g c i (g.1 c i) = g := by
  obtain ⟨a, b⟩ := g
  refine congrArg (fun q => (q, b)) ?_
  funext c' i'
  show (if c' = c ∧ i' = i then a c i else a c' i') = a c' i'
  by_cases h : c' = c ∧ i' = i
  · rw [if_pos h, h.1, h.2]
  · rw [if_neg h]
theorem m_inn {m : STt} {E : EVt} (hM : EnM m E) (hO : EOK E) (h40 : m.1 40 0 = 0) {n K o set gd : Nat} (hn : n ≤ 6) (hK : n ≤ K) (hK12 : K ≤ 12) (hset : set < 64) (ho : o ≤ 10) (h44 : m.1 44 0 = nI o) (K62 : (STt × Int64 × Int32) → Option (STt × Int64)) (l2 : Int32) (l5 : Int64) : ∀ (fu k : Nat) (w : Int32) (p Y : Nat → Int32) (wt : Nat), k ≤ n → n - k < fu → DKn E.1 (n - k) Y → ∃ p' Y', iterO (fun Q z => fX11_sure_l80c K62 Q (nI n) l2 (lN gd) l5 (nI set) z.1 z.2.1 z.2.2) fu (ms (sS m 41 0 w) p Y, lN wt, nI k) = K62 (ms (sS m 41 0 0) p' Y', lN (gd + wt * mlX E (m.2.1 71 0 12) o (m.2.1 70 0) (n - k) Y k (set / 2 ^ k)), nI (set + 1)) ∧ IsX Y' (m.2.1 71 0) := by
  intro fu
  induction fu with
  | zero => intro k w p Y wt h1 h2; omega
  | succ fu ih =>
    intro k w p Y wt h1 h2 hY
    rw [iterO_succ]
    generalize iterO (fun Q z => fX11_sure_l80c K62 Q (nI n) l2 (lN gd) l5 (nI set) z.1 z.2.1 z.2.2) fu = Q at ih ⊢
    show ∃ p' Y', fX11_sure_l80c K62 Q (nI n) l2 (lN gd) l5 (nI set) (ms (sS m 41 0 w) p Y) (lN wt) (nI k) = _ ∧ _
    by_cases c : k = n
    · subst c
      obtain ⟨Y', e1, e2⟩ := e_lay (sS m 41 0 0) p Y
      refine ⟨p, Y', ?_, e2⟩
      unfold fX11_sure_l80c fX11_sure_j202
      rw [if_pos (nI_le (Nat.le_refl k) (by omega)), if_pos i15_12, if_pos i15_12, sS_ms, sS_sS, tn12, ms_57, ms_n _ _ _ (by omega) (by omega), e1, bnd1_e, bnd1_e, Nat.sub_self, nI_1, lN_add]
      show (if Y 12 ≤ m.2.1 71 0 12 then _ else _) = K62 (_, lN (gd + wt * (if Y 12 ≤ m.2.1 71 0 12 then 0 else 1)), _)
      by_cases c2 : Y 12 ≤ m.2.1 71 0 12
      · rw [if_pos c2, if_pos c2, Nat.mul_zero]
        rfl
      · rw [if_neg c2, if_neg c2, Nat.mul_one]
    · have hs : n - k = (n - (k + 1)) + 1 := by omega
      rw [hs] at hY
      have main : ∀ (s0 : Nat) (w' : Int32), (s0 = 0 ∧ w' = 0 ∧ ¬ set / 2 ^ k % 2 = 1) ∨ (s0 = 1 ∧ set / 2 ^ k % 2 = 1 ∧ w' = (if m.2.1 70 0 k = 6 then 0 else 10)) → ∃ p' Y', fX11_sure_j128 K62 Q (ms (sS m 41 0 w) p Y) (nI n) l2 (lN gd) l5 (nI set) (lN wt) (nI k) (nI s0) w' = K62 (ms (sS m 41 0 0) p' Y', lN (gd + wt * mlX E (m.2.1 71 0 12) o (m.2.1 70 0) (n - (k + 1) + 1) Y k (set / 2 ^ k)), nI (set + 1)) ∧ IsX Y' (m.2.1 71 0) := by
        intro s0 w' hw
        have hM1 : EnM (sS m 41 0 w') E := hM
        obtain ⟨p1, e1⟩ := m_stp hM1 hO p hY (m.2.1 70 0 k) h40 (w := w') (sS_s _ _ _ _)
        have j154 : ∀ fac : Nat, fX11_sure_j154 K62 Q (ms (sS m 41 0 w') p Y) (nI n) l2 (lN gd) l5 (nI set) (nI k) (lN fac) (lN wt) = Q (ms (sS m 41 0 w') p1 (stX E Y (m.2.1 70 0 k) w').1, lN (wt * fac), nI (k + 1)) := by
          intro fac
          unfold fX11_sure_j154
          rw [if_pos (inB_nI (by omega) (by omega)), nI_c (by omega), ms_n _ _ _ (by omega) (by omega)]
          show bnd (fX11_does (ms (sS m 41 0 w') p Y) (m.2.1 70 0 k)) _ = _
          rw [e1, bnd_e, lN_mul, nI_1]
        obtain ⟨p2, Y', e2, e3⟩ := ih (k + 1) w' p1 (stX E Y (m.2.1 70 0 k) w').1 (wt * (if set / 2 ^ k % 2 = 1 then o else 10 - o)) (by omega) (by omega) (dkn_st hO hY (m.2.1 70 0 k) w')
        refine ⟨p2, Y', ?_, e3⟩
        have q44 : (ms (sS m 41 0 w') p Y).1 44 0 = nI o := h44
        have d2 : set / 2 ^ k / 2 = set / 2 ^ (k + 1) := by rw [Nat.div_div_eq_div_mul, Nat.pow_succ]
        unfold fX11_sure_j128
        rw [sS_ms, sS_sS, q44, show (10 : Int32) = nI 10 from rfl, pk_sub ho, nI_l (by omega), nI_l (by omega), j154, j154]
        show _ = K62 (_, lN (gd + wt * ((if set / 2 ^ k % 2 = 1 then o else 10 - o) * mlX E (m.2.1 71 0 12) o (m.2.1 70 0) (n - (k + 1)) (stX E Y (m.2.1 70 0 k) (if set / 2 ^ k % 2 = 1 then (if m.2.1 70 0 k = 6 then 0 else 10) else 0)).1 (k + 1) (set / 2 ^ k / 2))), _)
        rw [← Nat.mul_assoc, d2]
        rcases hw with ⟨rfl, rfl, hb⟩ | ⟨rfl, hb, rfl⟩
        · rw [if_pos (show nI 0 = 0 from rfl), if_neg hb, if_neg hb]
          rw [if_neg hb] at e2
          exact e2
        · rw [if_neg (show ¬ nI 1 = 0 by decide), if_pos hb, if_pos hb]
          rw [if_pos hb] at e2
          exact e2
      rw [hs]
      unfold fX11_sure_l80c fX11_sure_j102 fX11_sure_j127
      rw [if_neg (nI_ge (by omega) (by omega))]
      by_cases hb : set / 2 ^ k % 2 = 1
      · rw [if_pos ((bit_of (by omega) hset).mpr hb), if_neg (show ¬ (1 : Int32) = 0 by decide), if_pos (inB_nI (by omega) (by omega)), nI_c (by omega), ms_n _ _ _ (by omega) (by omega)]
        show ∃ p' Y', (if m.2.1 70 0 k = 6 then _ else _) = _ ∧ _
        by_cases c6 : m.2.1 70 0 k = 6
        · rw [if_pos c6]
          exact main 1 0 (Or.inr ⟨rfl, hb, by rw [if_pos c6]⟩)
        · rw [if_neg c6]
          exact main 1 10 (Or.inr ⟨rfl, hb, by rw [if_neg c6]⟩)
      · rw [if_neg (fun q => hb ((bit_of (by omega) hset).mp q)), if_pos rfl]
        exact main 0 0 (Or.inl ⟨rfl, rfl, hb⟩)
theorem m_out {m0 : STt} {E : EVt} (hM : EnM m0 E) (hO : EOK E) (h40 : m0.1 40 0 = 0) (h41 : m0.1 41 0 = 0) {n K o : Nat} (hn : n ≤ 6) (hK : n ≤ K) (hK12 : K ≤ 12) (ho : o ≤ 10) (h44 : m0.1 44 0 = nI o) {X : Nat → Int32} (hX : IsX (m0.2.1 57 0) X) (hD : DKn E.1 100 X) (l2 : Int32) (l5 : Int64) : ∀ (fu set : Nat) (m : STt) (gd : Nat), FM m0 m → set ≤ 2 ^ n → 2 ^ n - set < fu → ∃ m', iterO (fun Q z => fX11_sure_l62c Q (nI n) l2 l5 z.1 z.2.1 z.2.2) fu (m, lN gd, nI set) = fX11_sure_j224 m' (if l2 = 0 then 1 else 0) l5 (lN (gd + suG (mlX E (X 12) o (m0.2.1 70 0) n X 0) (2 ^ n - set) set)) ∧ FM m0 m' := by
  have h64 : 2 ^ n ≤ 64 := Nat.pow_le_pow_right (by decide) hn
  have hsh : (1 : Int32) <<< (nI n &&& 31) = nI (2 ^ n) := shl_tab ⟨n, by omega⟩
  intro fu
  induction fu with
  | zero => intro set m gd h1 h2 h3; omega
  | succ fu ih =>
    intro set m gd h1 h2 h3
    rw [iterO_succ]
    generalize iterO (fun Q z => fX11_sure_l62c Q (nI n) l2 l5 z.1 z.2.1 z.2.2) fu = Q at ih ⊢
    show ∃ m', fX11_sure_l62c Q (nI n) l2 l5 m (lN gd) (nI set) = _ ∧ _
    unfold fX11_sure_l62c
    rw [hsh]
    by_cases c : set = 2 ^ n
    · rw [c, if_pos (nI_le (Nat.le_refl _) (by omega)), Nat.sub_self]
      refine ⟨m, ?_, h1⟩
      show _ = fX11_sure_j224 m _ l5 (lN (gd + 0))
      rw [Nat.add_zero]
      by_cases e : l2 = 0
      · rw [if_pos e, if_pos e]
      · rw [if_neg e, if_neg e]
    · obtain ⟨W, eW, iW⟩ := e_keep m
      have hs1 : 2 ^ n - set = (2 ^ n - (set + 1)) + 1 := by omega
      have hM1 : EnM (sA m 71 0 W) E := EnM_F hM (h1.tr (FM_71 m W))
      have iX : IsX (m.2.1 57 0) X := is_tr h1.2.2.1 hX
      have z41 : (sA m 71 0 W).1 41 0 = 0 := (h1.1 41 0 (by omega)).trans h41
      have z40 : (sA m 71 0 W).1 40 0 = 0 := (h1.1 40 0 (by omega)).trans h40
      have z44 : (sA m 71 0 W).1 44 0 = nI o := (h1.1 44 0 (by omega)).trans h44
      have r70 : (sA m 71 0 W).2.1 70 0 = m0.2.1 70 0 := by rw [sA_n _ _ (by omega)]; exact h1.2.1 70 0 (by omega) (by omega) (by omega)
      have idd : sS (sA m 71 0 W) 41 0 0 = sA m 71 0 W := by
        have := sS_id (sA m 71 0 W) 41 0
        rwa [z41] at this
      obtain ⟨p', Y', e1, e2⟩ := m_inn hM1 hO z40 (n := n) (K := K) (o := o) (set := set) (gd := gd) hn hK hK12 (by omega) ho z44 Q l2 l5 fuelN 0 0 (m.2.1 69 0) (m.2.1 57 0) 1 (by omega) (by show n - 0 < 5000; omega) (dkn_le (dok_is hD iX) (by omega))
      rw [idd, ms_71 W, Nat.sub_zero, Nat.pow_zero, Nat.div_one, Nat.one_mul, r70, ml_is hO n _ _ 0 set iX] at e1
      have e12 : (sA m 71 0 W).2.1 71 0 12 = X 12 := by
        rw [sA_s, iW 12 (by omega)]; exact iX 12 (by omega)
      rw [e12] at e1
      have hF : FM m0 (ms (sA m 71 0 W) p' Y') := h1.tr (FM_kept m W p' iW (by rw [sA_s] at e2; exact e2))
      obtain ⟨m2, e3, f3⟩ := ih (set + 1) (ms (sA m 71 0 W) p' Y') (gd + mlX E (X 12) o (m0.2.1 70 0) n X 0 set) hF (by omega) (by omega)
      refine ⟨m2, ?_, f3⟩
      rw [if_neg (nI_ge (by omega) (by omega)), eW, bnd1_e]
      unfold fX11_sure_l80
      refine e1.trans (e3.trans ?_)
      rw [hs1]
      show _ = fX11_sure_j224 m2 _ l5 (lN (gd + (mlX E (X 12) o (m0.2.1 70 0) n X 0 set + suG (mlX E (X 12) o (m0.2.1 70 0) n X 0) (2 ^ n - (set + 1)) (set + 1))))
      rw [Nat.add_assoc]
theorem m_euc (g : STt) (a0 b0 : Nat) (l4 : Int32) : ∀ (k x y fu : Nat), y < 2 ^ k → 0 < x → x < 2 ^ 62 → y < 2 ^ 62 → 2 * k + 1 < fu → iterO (fun K z => fX11_lowest_l23c K g (lN a0) (lN b0) l4 z.1 z.2) fu (lN x, lN y) = if l4 = 0 then some (lN b0 / lN (Nat.gcd x y)) else some (lN a0 / lN (Nat.gcd x y)) := by
  have done : ∀ (x fu : Nat), 0 < x → x < 2 ^ 62 → iterO (fun K z => fX11_lowest_l23c K g (lN a0) (lN b0) l4 z.1 z.2) (fu + 1) (lN x, lN 0) = if l4 = 0 then some (lN b0 / lN (Nat.gcd x 0)) else some (lN a0 / lN (Nat.gcd x 0)) := by
    intro x fu hx hx2
    rw [iterO_succ]
    show fX11_lowest_l23c _ g (lN a0) (lN b0) l4 (lN x) (lN 0) = _
    unfold fX11_lowest_l23c
    have hx0 : ¬ lN x = 0 := fun q => by
      have := (pk_lEQ (a := x) (b := 0) (by omega) (by omega)).mp q
      omega
    rw [if_pos ((lN_cmp0 (by omega)).mpr rfl), if_pos hx0, if_pos hx0, Nat.gcd_zero_right]
  have one : ∀ (x y : Nat) (K : (Int64 × Int64) → Option Int64), 0 < y → x < 2 ^ 62 → y < 2 ^ 62 → fX11_lowest_l23c K g (lN a0) (lN b0) l4 (lN x) (lN y) = K (lN y, lN (x % y)) := by
    intro x y K hy hx2 hy2
    unfold fX11_lowest_l23c
    have hy0 : ¬ lN y = 0 := fun q => by
      have := (pk_lEQ (a := y) (b := 0) (by omega) (by omega)).mp q
      omega
    rw [if_neg (fun q => by have := (lN_cmp0 (n := y) (by omega)).mp q; omega), if_pos hy0, pk_lRem (by omega) hy (by omega)]
  intro k
  induction k with
  | zero =>
    intro x y fu h1 h2 h3 h4 h5
    obtain ⟨fu, rfl⟩ : ∃ j, fu = j + 1 := ⟨fu - 1, by omega⟩
    have e : y = 0 := by omega
    subst e
    exact done x fu h2 h3
  | succ k ih =>
    intro x y fu h1 h2 h3 h4 h5
    obtain ⟨fu, rfl⟩ : ∃ j, fu = j + 1 + 1 := ⟨fu - 2, by omega⟩
    by_cases cy : y = 0
    · subst cy
      exact done x (fu + 1) h2 h3
    · have hy : 0 < y := by omega
      have hz : x % y < y := Nat.mod_lt _ hy
      rw [iterO_succ]
      refine (one x y _ hy h3 h4).trans ?_
      have hg : Nat.gcd x y = Nat.gcd y (x % y) := by rw [Nat.gcd_comm x y, Nat.gcd_rec y x, Nat.gcd_comm]
      rw [hg]
      by_cases cz : x % y = 0
      · rw [cz]
        exact done y fu hy h4
      · have hz0 : 0 < x % y := by omega
        have hw : y % (x % y) < x % y := Nat.mod_lt _ hz0
        have hle : y % (x % y) + x % y ≤ y := by
          have q := Nat.div_add_mod y (x % y)
          have d1 : 1 ≤ y / (x % y) := (Nat.le_div_iff_mul_le hz0).mpr (by omega)
          have d2 := Nat.mul_le_mul_left (x % y) d1
          rw [Nat.mul_one] at d2
          omega
        rw [iterO_succ]
        refine (one y (x % y) _ hz0 h4 (by omega)).trans ?_
        have hg2 : Nat.gcd y (x % y) = Nat.gcd (x % y) (y % (x % y)) := by rw [Nat.gcd_comm y (x % y), Nat.gcd_rec (x % y) y, Nat.gcd_comm]
        rw [hg2]
        have hp : 2 ^ (k + 1) = 2 ^ k * 2 := Nat.pow_succ ..
        exact ih (x % y) (y % (x % y)) fu (by omega) hz0 (by omega) (by omega) (by omega)
theorem m_low (g : STt) {a b : Nat} (hb : 0 < b) (ha : a ≤ b) (hb2 : b < 2 ^ 20) (l4 : Int32) : fX11_lowest g (lN a) (lN b) l4 = some (if l4 = 0 then lN (b / Nat.gcd a b) else lN (a / Nat.gcd a b)) := by
  unfold fX11_lowest fX11_lowest_l23
  by_cases c : a = 0
  · rw [c, if_pos ((lN_cmp0 (by omega)).mpr rfl), Nat.gcd_zero_left, Nat.div_self hb, Nat.zero_div]
    by_cases e : l4 = 0
    · rw [if_pos e, if_pos e]; rfl
    · rw [if_neg e, if_neg e]; rfl
  · have hg : 0 < Nat.gcd a b := Nat.gcd_pos_of_pos_right a hb
    have hgl : Nat.gcd a b ≤ b := Nat.le_of_dvd hb (Nat.gcd_dvd_right a b)
    rw [if_neg (fun q => c ((lN_cmp0 (by omega)).mp q)), m_euc g a b l4 20 a b fuelN hb2 (by omega) (by omega) (by omega) (by decide), pk_lDiv (by omega) hg (by omega), pk_lDiv (by omega) hg (by omega)]
    by_cases e : l4 = 0
    · rw [if_pos e, if_pos e]
    · rw [if_neg e, if_neg e]
theorem m_all (g : STt) (l2 : Int32) {n : Nat} (hn : n ≤ 6) (l3 : Int64) : ∀ (fu k : Nat), k ≤ n → n - k < fu → iterO (fun K z => fX11_sure_l39c K g (nI n) l2 l3 z.1 z.2) fu (lN (10 ^ k), nI k) = fX11_sure_l62 (nI n) l2 (lN (10 ^ n)) g l3 0 := by
  intro fu
  induction fu with
  | zero => intro k h1 h2; omega
  | succ fu ih =>
    intro k h1 h2
    rw [iterO_succ]
    generalize iterO (fun K z => fX11_sure_l39c K g (nI n) l2 l3 z.1 z.2) fu = K at ih ⊢
    show fX11_sure_l39c K g (nI n) l2 l3 (lN (10 ^ k)) (nI k) = _
    unfold fX11_sure_l39c
    by_cases c : k = n
    · rw [c, if_pos (nI_le (Nat.le_refl n) (by omega))]
    · rw [if_neg (nI_ge (by omega) (by omega)), nI_1, show (10 : Int64) = lN 10 from rfl, lN_mul, ← Nat.pow_succ]
      exact ih (k + 1) (by omega) (by omega)
theorem q_sure {g m : STt} {P N : Nat} (h : RelE g m P N) (x y : Int32) : ∃ (g' m' : STt) (r : Int64), fX10_sure g x y = some (g', r) ∧ fX11_sure m x y = some (m', r) ∧ RelE g' m' P N := by
  obtain ⟨E, W, rfl, hO, hE, hM, eW, iW, i1, k1, k2, b4, b5, o1, o2, e12, hE0, hM0⟩ := try_of h
  obtain ⟨K, hK, hK', hR⟩ := rows_of h
  have hOd : ROd g m := h.2.2.2.2.2.2.2.1
  have h12 := hK.1
  unfold fX10_sure fX11_sure fX5_size
  rw [rng1, eX11_in, b_if, hK.2, hK'.2, bnd1_e, rng2, eX11_in, b_if]
  by_cases c : (1 : Int32).toInt ≤ x.toInt ∧ x.toInt ≤ (6 : Int32).toInt
  · rw [if_pos c, if_pos c]
    have t1 : (1 : Int32).toInt = 1 := by decide
    have t6 : (6 : Int32).toInt = 6 := by decide
    obtain ⟨n, hn, rfl⟩ := inB_of (x := x) (n := 7) (inB_iff.mpr (by omega)) (by omega)
    by_cases cK : K < n
    · rw [if_pos (nI_lt cK (by omega)), if_pos (nI_lt cK (by omega))]; exact ⟨_, _, _, rfl, rfl, h⟩
    · rw [if_neg (nI_nlt (by omega) (by omega)), if_neg (nI_nlt (by omega) (by omega))]
      by_cases cp : (0 : Int32).toInt ≤ y.toInt ∧ y.toInt ≤ (1 : Int32).toInt
      · rw [if_pos cp, if_pos cp, bnd_id]
        obtain ⟨ho1, ho2⟩ := hOd
        obtain ⟨o, ho, eo⟩ := inB_of (x := g.1 18 0) (n := 11) (inB_iff.mpr (by have := ho2.1; have := ho2.2; omega)) (by omega)
        have e44 : m.1 44 0 = nI o := ho1.symm.trans eo
        have hb : ∀ z : Int32, z < m.2.1 57 0 12 + 1 ↔ z ≤ m.2.1 57 0 12 := by
          intro z
          obtain ⟨q1, q2⟩ : inR (m.2.1 57 0 12) 0 E.1 := dkn_12 k2
          have hP := hO.1
          have one : (1 : Int32).toInt = 1 := by decide
          have s1 : (m.2.1 57 0 12 + 1).toInt = (m.2.1 57 0 12).toInt + 1 := by rw [addZ (by omega) (by omega), one]
          constructor
          · intro q; (simp only [Int32.lt_iff_toInt_lt, Int32.le_iff_toInt_le, ← Int32.toInt_inj, Int32.reduceToInt] at *; omega)
          · intro q; (simp only [Int32.lt_iff_toInt_lt, Int32.le_iff_toInt_le, ← Int32.toInt_inj, Int32.reduceToInt] at *; omega)
        obtain ⟨a, ha⟩ : ∃ a, wyX E (m.2.1 57 0 12 + 1) o (m.2.1 70 0) n (m.2.1 57 0) 0 = a := ⟨_, rfl⟩
        have hale : a ≤ 10 ^ n := by rw [← ha]; exact wy_le (by omega) n _ 0
        have h10 : 10 ^ n ≤ 1000000 := Nat.pow_le_pow_right (n := 10) (by decide) (show n ≤ 6 by omega)
        have hpos : 0 < 10 ^ n := Nat.pow_pos (by decide)
        obtain ⟨g2, e2, s2⟩ := c_ways hO (gl := m.2.1 57 0 12 + 1) (o := o) (n := n) (K := K) (by omega) (by omega) (by omega) hK.1 (R := g.2.1 21 1) n 0 20 (m.2.1 57 0) (cs (G1 g) 2 (g.2.1 7 0) (g.2.1 8 0) (Y1 g)) (by omega) (by omega) (dkn_le k2 (by omega)) (EnC_F hE0 (FC_G1 g 2 (by omega) _ _ _)) (by rw [cs_22]; exact i1) (by rw [cs_1, G1_11, e12]) hK.2 eo (by rw [cs_n _ _ _ _ _ (by omega) (by omega) (by omega)]; rfl)
        rw [wy_is hO n _ _ 0 (is_rf _) (fun j _ hj => (hR j (by omega)).1), ha] at e2
        have cc : fX8_chanceOf g (nI n) y = some (g2, if y = 0 then lN (a / Nat.gcd a (10 ^ n)) else lN (10 ^ n / Nat.gcd a (10 ^ n))) := by
          unfold fX8_chanceOf fX8_chanceOf_l18
          rw [e_begin1, bnd_e, if_pos (by decide), show fuelX8_waysFrom = 20 from rfl, show (0 : Int32) = nI 0 from rfl, e2, bnd_e, show (1 : Int64) = lN (10 ^ 0) from rfl, c_below g2 y (show n ≤ 6 by omega) (lN a) fuelN 0 (by omega) (by show n - 0 < 5000; omega)]
          unfold fX8_chanceOf_j45 fX8_chanceOf_l48
          have hr := c_red g2 y fuelN 0 (a, 10 ^ n) (by omega) (by show 6 - 0 < 5000; omega) (by show a < 2 ^ 62; omega) (by show 10 ^ n < 2 ^ 62; omega)
          rw [show 6 - 0 = 6 from rfl, rd_gcd (show n ≤ 6 by omega)] at hr
          exact hr
        have hall := m_all m y (show n ≤ 6 by omega) 0 fuelN 0 (by omega) (by show n - 0 < 5000; omega)
        obtain ⟨m2, e3, f3⟩ := m_out hM0 hO b4 b5 (n := n) (K := K) (o := o) (by omega) (by omega) h12 (by omega) e44 (is_rf _) (dkn_le k2 (by omega)) y (lN (10 ^ n)) fuelN 0 m 0 (FM.rfl' m) (Nat.zero_le _) (Nat.lt_of_le_of_lt (Nat.sub_le _ _) (Nat.lt_of_le_of_lt (Nat.pow_le_pow_right (n := 2) (by decide) (show n ≤ 6 by omega)) (by decide)))
        have hsum : 0 + suG (mlX E (m.2.1 57 0 12) o (m.2.1 70 0) n (m.2.1 57 0) 0) (2 ^ n - 0) 0 = a := by
          have q := su_G (mlX E (m.2.1 57 0 12) o (m.2.1 70 0) n (m.2.1 57 0) 0) (2 ^ n) 0
          rw [Nat.zero_add, sum_ml (by omega) hb, ha] at q
          rw [Nat.sub_zero]
          exact q.symm
        rw [hsum] at e3
        have mm : fX11_sure_l39 m (nI n) y 0 1 0 = some (m2, if y = 0 then lN (a / Nat.gcd a (10 ^ n)) else lN (10 ^ n / Nat.gcd a (10 ^ n))) := by
          unfold fX11_sure_l39
          refine hall.trans ?_
          unfold fX11_sure_l62
          refine e3.trans ?_
          unfold fX11_sure_j224
          rw [m_low m2 hpos hale (by omega), bnd1_e]
          by_cases cy : y = 0
          · rw [if_pos cy, if_pos cy, if_neg (show ¬ (1 : Int32) = 0 by decide)]
          · rw [if_neg cy, if_neg cy, if_pos rfl]
        rw [cc, mm]
        exact ⟨_, _, _, rfl, rfl, rel_F h ((FC_G1 g 2 (by omega) _ _ _).tr s2.1) f3⟩
      · rw [if_neg cp, if_neg cp]; exact ⟨_, _, _, rfl, rfl, h⟩
  · rw [if_neg c, if_neg c]; exact ⟨_, _, _, rfl, rfl, h⟩
