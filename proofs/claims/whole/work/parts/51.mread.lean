/-! PURE: the model's small readers; its steps on the pile -/
def bI (b : Bool) : Int32 := if b = true then 1 else 0
def stM (F : Nat → Int32) (t : TkT) (p : Nat → Int32) (h : Nat) : Option ((Nat → Int32) × Nat) :=
  if t.1 = 0 then (if h < 100 then some (upd p h (bI (tsB F t.2.1 t.2.2.1 t.2.2.2)), h + 1) else none)
  else if t.1 = 1 then (if 1 ≤ h then some (upd p (h - 1) (if p (h - 1) = 0 then 1 else 0), h) else none)
  else if t.1 = 2 then (if 2 ≤ h then some (upd p (h - 2) (if p (h - 2) = 0 then 0 else if p (h - 1) = 0 then 0 else 1), h - 1) else none)
  else (if 2 ≤ h then some (upd p (h - 2) (if p (h - 2) = 0 then (if p (h - 1) = 0 then 0 else 1) else 1), h - 1) else none)
def rnM (F : Nat → Int32) : List TkT → (Nat → Int32) → Nat → Option ((Nat → Int32) × Nat)
  | [], p, h => some (p, h)
  | t :: l, p, h => match stM F t p h with
    | none => none
    | some (p', h') => rnM F l p' h'
theorem rnM_app (F : Nat → Int32) : ∀ (l l' : List TkT) (p : Nat → Int32) (h : Nat) (p' : Nat → Int32) (h' : Nat), rnM F l p h = some (p', h') → rnM F (l ++ l') p h = rnM F l' p' h'
  | [], l', p, h, p', h', e => by cases e; rfl
  | t :: l, l', p, h, p', h', e => by
    have e : (match stM F t p h with
      | none => none
      | some (p', h') => rnM F l p' h') = some (p', h') := e
    show (match stM F t p h with
      | none => none
      | some (p', h') => rnM F (l ++ l') p' h') = _
    cases hs : stM F t p h with
    | none => rw [hs] at e; cases e
    | some q =>
      obtain ⟨p1, h1⟩ := q
      rw [hs] at e
      exact rnM_app F l l' p1 h1 p' h' e
def GdM (l : List TkT) (G : (Nat → Int32) → Bool) : Prop := ∀ F p h, h + l.length ≤ 100 → ∃ p', rnM F l p h = some (p', h + 1) ∧ p' h = bI (G F) ∧ ∀ k, k < h → p' k = p k
theorem rnM1 {F : Nat → Int32} {t : TkT} {p p' : Nat → Int32} {h h' : Nat} (e : stM F t p h = some (p', h')) : rnM F [t] p h = some (p', h') := by
  show (match stM F t p h with
    | none => none
    | some (p', h') => rnM F [] p' h') = _
  rw [e]
  rfl
theorem gm_test (q sg n : Nat) : GdM [(0, q, sg, n)] (fun x => tsB x q sg n) := fun F p h hh => by
  have hh : h + 1 ≤ 100 := hh
  refine ⟨upd p h (bI (tsB F q sg n)), rnM1 ?_, upd_s _ _ _, fun k hk => upd_n _ _ (by omega)⟩
  show (if h < 100 then some (upd p h (bI (tsB F q sg n)), h + 1) else none) = _
  rw [if_pos (by omega)]
theorem gm_not {l : List TkT} {G : (Nat → Int32) → Bool} (a : GdM l G) : GdM (l ++ [tkN]) (fun x => !(G x)) := fun F p h hh => by
  rw [List.length_append] at hh
  have hh : h + (l.length + 1) ≤ 100 := hh
  obtain ⟨p1, a1, a2, a3⟩ := a F p h (by omega)
  refine ⟨upd p1 h (if p1 h = 0 then 1 else 0), ?_, ?_, fun k hk => by rw [upd_n _ _ (by omega)]; exact a3 k hk⟩
  · rw [rnM_app F l [tkN] p h p1 (h + 1) a1]
    refine rnM1 ?_
    show (if 1 ≤ h + 1 then some (upd p1 (h + 1 - 1) (if p1 (h + 1 - 1) = 0 then 1 else 0), h + 1) else none) = _
    rw [if_pos (by omega), show h + 1 - 1 = h by omega]
  · rw [upd_s, a2]
    show (if bI (G F) = 0 then 1 else 0) = bI (!(G F))
    cases G F <;> rfl
theorem gm_op {l1 l2 : List TkT} {G1 G2 : (Nat → Int32) → Bool} (a : GdM l1 G1) (b : GdM l2 G2) : GdM (l1 ++ (l2 ++ [tkA])) (fun x => G1 x && G2 x) ∧ GdM (l1 ++ (l2 ++ [tkO])) (fun x => G1 x || G2 x) := by
  have key : ∀ (t : TkT) (val : Int32 → Int32 → Int32), (∀ F (p : Nat → Int32) h, stM F t p (h + 2) = some (upd p h (val (p h) (p (h + 1))), h + 1)) → ∀ F p h, h + (l1 ++ (l2 ++ [t])).length ≤ 100 → ∃ p', rnM F (l1 ++ (l2 ++ [t])) p h = some (p', h + 1) ∧ p' h = val (bI (G1 F)) (bI (G2 F)) ∧ ∀ k, k < h → p' k = p k := by
    intro t val hv F p h hh
    rw [List.length_append, List.length_append] at hh
    have hh : h + (l1.length + (l2.length + 1)) ≤ 100 := hh
    obtain ⟨p1, a1, a2, a3⟩ := a F p h (by omega)
    obtain ⟨p2, b1, b2, b3⟩ := b F p1 (h + 1) (by rcases Nat.eq_zero_or_pos l1.length with e | e <;> omega)
    refine ⟨upd p2 h (val (p2 h) (p2 (h + 1))), ?_, ?_, fun k hk => by rw [upd_n _ _ (by omega), b3 k (by omega)]; exact a3 k hk⟩
    · rw [rnM_app F l1 (l2 ++ [t]) p h p1 (h + 1) a1, rnM_app F l2 [t] p1 (h + 1) p2 (h + 1 + 1) b1]
      exact rnM1 (hv F p2 h)
    · rw [upd_s, b2, b3 h (by omega), a2]
  constructor
  · intro F p h hh
    obtain ⟨p', e1, e2, e3⟩ := key tkA (fun x y => if x = 0 then 0 else if y = 0 then 0 else 1) (fun F p h => by
      show (if 2 ≤ h + 2 then some (upd p (h + 2 - 2) (if p (h + 2 - 2) = 0 then 0 else if p (h + 2 - 1) = 0 then 0 else 1), h + 2 - 1) else none) = _
      rw [if_pos (by omega), show h + 2 - 2 = h by omega, show h + 2 - 1 = h + 1 by omega]) F p h hh
    refine ⟨p', e1, ?_, e3⟩
    rw [e2]
    show (if bI (G1 F) = 0 then 0 else if bI (G2 F) = 0 then 0 else 1) = bI (G1 F && G2 F)
    cases G1 F <;> cases G2 F <;> rfl
  · intro F p h hh
    obtain ⟨p', e1, e2, e3⟩ := key tkO (fun x y => if x = 0 then (if y = 0 then 0 else 1) else 1) (fun F p h => by
      show (if 2 ≤ h + 2 then some (upd p (h + 2 - 2) (if p (h + 2 - 2) = 0 then (if p (h + 2 - 1) = 0 then 0 else 1) else 1), h + 2 - 1) else none) = _
      rw [if_pos (by omega), show h + 2 - 2 = h by omega, show h + 2 - 1 = h + 1 by omega]) F p h hh
    refine ⟨p', e1, ?_, e3⟩
    rw [e2]
    show (if bI (G1 F) = 0 then (if bI (G2 F) = 0 then 0 else 1) else 1) = bI (G1 F || G2 F)
    cases G1 F <;> cases G2 F <;> rfl
/-! its state while it reads -/
def TxM (m : STt) (K N : Nat) (C : Nat → Int32) : Prop := TxE C K ∧ m.1 34 0 = nI K ∧ (∀ i, i < K → m.2.1 58 0 i = C i) ∧ m.1 35 0 = nI N ∧ N < 6
def FpM (e : Nat) (m m' : STt) : Prop := (∀ c i, c ≠ 37 → c ≠ 38 → c ≠ 39 → m'.1 c i = m.1 c i) ∧ (∀ c i, c ≠ 64 → c ≠ 65 → c ≠ 66 → c ≠ 67 → m'.2.1 c i = m.2.1 c i) ∧ (∀ c k, 64 ≤ c → c ≤ 67 → k < e → m'.2.1 c 0 k = m.2.1 c 0 k) ∧ m'.2.2 = m.2.2
theorem FpM.rfl' (e : Nat) (m : STt) : FpM e m m := ⟨fun _ _ _ _ _ => rfl, fun _ _ _ _ _ _ => rfl, fun _ _ _ _ _ => rfl, rfl⟩
theorem FpM.tr {e e' : Nat} {m m' m'' : STt} (h : FpM e m m') (h' : FpM e' m' m'') (he : e ≤ e') : FpM e m m'' := ⟨fun c i a b d => (h'.1 c i a b d).trans (h.1 c i a b d), fun c i a b d f => (h'.2.1 c i a b d f).trans (h.2.1 c i a b d f), fun c k a b d => (h'.2.2.1 c k a b (by omega)).trans (h.2.2.1 c k a b d), h'.2.2.2.trans h.2.2.2⟩
theorem TxM_F {e K N : Nat} {C : Nat → Int32} {m m' : STt} (h : TxM m K N C) (hF : FpM e m m') : TxM m' K N C := ⟨h.1, (hF.1 34 0 (by omega) (by omega) (by omega)).trans h.2.1, fun i hi => (congrFun (hF.2.1 58 0 (by omega) (by omega) (by omega) (by omega)) i).trans (h.2.2.1 i hi), (hF.1 35 0 (by omega) (by omega) (by omega)).trans h.2.2.2.1, h.2.2.2.2⟩
theorem FpM_S (e : Nat) (m : STt) {c : Nat} (hc : c = 37 ∨ c = 38 ∨ c = 39) (v : Int32) : FpM e m (sS m c 0 v) := ⟨fun c' i' h1 h2 h3 => sS_n _ _ (by omega), fun _ _ _ _ _ _ => rfl, fun _ _ _ _ _ => rfl, rfl⟩
theorem FpM_A (e : Nat) (m : STt) {c k : Nat} (hc : 64 ≤ c ∧ c ≤ 67) (hk : e ≤ k) (v : Int32) : FpM e m (sA1 m c 0 k v) := ⟨fun _ _ _ _ _ => rfl, fun c' i' h1 h2 h3 h4 => sA1_n _ _ (by omega), fun c' k' h1 h2 h3 => by
  by_cases h : c' = c
  · subst h; rw [sA1_s, upd_n _ _ (by omega)]
  · rw [sA1_n _ _ (by omega)], rfl⟩
def HdM (m : STt) (e : Nat) : List TkT → Prop
  | [] => True
  | t :: l => (m.2.1 64 0 e = nI t.1 ∧ t.1 ≤ 3 ∧ (t.1 = 0 → t.2.1 < 9 ∧ t.2.2.1 < 3 ∧ t.2.2.2 < 100 ∧ m.2.1 65 0 e = ltF t.2.1 ∧ m.2.1 66 0 e = nI (60 + t.2.2.1) ∧ m.2.1 67 0 e = nI t.2.2.2)) ∧ HdM m (e + 1) l
theorem HdM_app (m : STt) : ∀ (l l' : List TkT) (e : Nat), HdM m e l → HdM m (e + l.length) l' → HdM m e (l ++ l')
  | [], _, _, _, h => h
  | t :: l, l', e, h, h' => ⟨h.1, HdM_app m l l' (e + 1) h.2 (by rw [show e + 1 + l.length = e + (t :: l).length by rw [List.length_cons]; omega]; exact h')⟩
theorem HdM_c {m m' : STt} {e' : Nat} (hF : FpM e' m m') : ∀ (l : List TkT) (e : Nat), e + l.length ≤ e' → HdM m e l → HdM m' e l
  | [], _, _, _ => trivial
  | t :: l, e, he, h => by
    rw [List.length_cons] at he
    refine ⟨?_, HdM_c hF l (e + 1) (by omega) h.2⟩
    rw [hF.2.2.1 64 e (by omega) (by omega) (by omega), hF.2.2.1 65 e (by omega) (by omega) (by omega), hF.2.2.1 66 e (by omega) (by omega) (by omega), hF.2.2.1 67 e (by omega) (by omega) (by omega)]
    exact h.1
section MR
variable {m : STt} {K N i : Nat} {C : Nat → Int32}
theorem m_here (h : TxM m K N C) (hi : i ≤ K) (h37 : m.1 37 0 = nI i) (h38 : m.1 38 0 = -1) {b : Int32} (hb : b ≠ -1) : fX11_isHere m b = some (if C i = b then 1 else 0) := by
  have hK := h.1.1
  unfold fX11_isHere
  rw [h38, if_neg (by decide), h37, h.2.1]
  by_cases c : K ≤ i
  · have e : i = K := by omega
    rw [if_pos (nI_le c (by omega)), h.1.2.2 i c, if_neg (fun q => hb q.symm)]
  · rw [if_neg (nI_ge (by omega) (by omega)), if_pos (inB_nI (by omega) (by omega)), nI_c (by omega), h.2.2.1 i (by omega)]
    by_cases e : C i = b
    · rw [if_pos e, if_pos e]
    · rw [if_neg e, if_neg e]
theorem m_hereF {j : Nat} (hj : j < 1000) (h38 : m.1 38 0 = nI j) (b : Int32) : fX11_isHere m b = some 0 := by
  unfold fX11_isHere
  rw [h38, if_pos (nI_pos' (by omega))]
theorem m_faulty (h38 : m.1 38 0 = -1) (h37 : m.1 37 0 = nI i) : fX11_faulty m = some (sS m 38 0 (nI i)) := by
  unfold fX11_faulty
  rw [h38, if_neg (by decide), h37]
theorem m_faultyF {j : Nat} (hj : j < 1000) (h38 : m.1 38 0 = nI j) : fX11_faulty m = some m := by
  unfold fX11_faulty
  rw [h38, if_pos (nI_pos' (by omega))]
theorem m_lay {c v : Nat} (h : TxM m K N C) (h39 : m.1 39 0 = nI c) (hc : c < 100) : fX11_lay m (nI v) = some (sS (sA1 m 64 0 (100 * N + c) (nI v)) 39 0 (nI (c + 1))) := by
  have hN := h.2.2.2.2
  unfold fX11_lay
  rw [sA1_1, h39, h.2.2.2.1, show (100 : Int32) = nI 100 from rfl, pk_mul, nI_add, if_pos (inB_nI (show 100 * N + c < 700 by omega) (by omega)), nI_c (by omega), nI_1]
theorem m_digit (h : TxM m K N C) (hi : i ≤ K) (h37 : m.1 37 0 = nI i) (h38 : m.1 38 0 = -1) : fX11_isDigit m = some (if dgB (C i) = true then 1 else 0) := by
  have hK := h.1.1
  unfold fX11_isDigit
  rw [h38, if_neg (by decide), h37, h.2.1]
  by_cases c : K ≤ i
  · rw [if_pos (nI_le c (by omega)), h.1.2.2 i c, if_neg (by decide)]
  · rw [if_neg (nI_ge (by omega) (by omega)), if_pos (inB_nI (by omega) (by omega)), nI_c (by omega), h.2.2.1 i (by omega), eX11_in, b_if, show (48 : Int32).toInt = 48 from by decide, show (57 : Int32).toInt = 57 from by decide]
    by_cases e : dgB (C i) = true
    · rw [if_pos e, if_pos (dgB_t.mp e)]
    · rw [if_neg e, if_neg (fun q => e (dgB_t.mpr q))]
theorem m_numF {j : Nat} (hj : j < 1000) (h38 : m.1 38 0 = nI j) : fX11_readNumber m = some (m, 0) := by
  unfold fX11_readNumber fX11_isDigit
  rw [h38, if_pos (nI_pos' (by omega)), bnd1_e, if_pos rfl, m_faultyF hj h38, bnd1_e]
theorem m_num (h : TxM m K N C) (hi : i ≤ K) (h37 : m.1 37 0 = nI i) (h38 : m.1 38 0 = -1) : ((pNm C i).2 = none → (pNm C i).1 = i ∧ fX11_readNumber m = some (sS m 38 0 (nI i), 0)) ∧ (∀ n, (pNm C i).2 = some n → fX11_readNumber m = some (sS m 37 0 (nI (pNm C i).1), nI n)) := by
  have hK := h.1.1
  unfold fX11_readNumber pNm
  rw [m_digit h hi h37 h38, b_if]
  by_cases c1 : dgB (C i) = true
  · have k1 := tx_dg h.1 c1
    have d1 := dv_of c1
    rw [if_pos c1, if_pos c1, h37, if_pos (inB_nI (by omega) (by omega)), nI_c (by omega), nI_1, h.2.2.1 i k1, d1.1, m_digit (TxM_F h (FpM_S 0 m (Or.inl rfl) (nI (i + 1)))) (by omega) (sS_s _ _ _ _) (by rw [sS_n _ _ (by omega)]; exact h38), b_if]
    by_cases c2 : dgB (C (i + 1)) = true
    · have k2 := tx_dg h.1 c2
      have d2 := dv_of c2
      rw [if_pos c2, if_pos c2]
      refine ⟨fun hn => (by cases hn), fun n hn => ?_⟩
      have hn : 10 * dvN (C i) + dvN (C (i + 1)) = n := Option.some.inj hn
      subst hn
      rw [sS_s, if_pos (inB_nI (by omega) (by omega)), sS_sS, nI_c (by omega), nI_1, show (sS m 37 0 (nI (i + 1))).2.1 58 0 (i + 1) = C (i + 1) from h.2.2.1 (i + 1) k2, show (10 : Int32) = nI 10 from rfl, pk_mul]
      have e : nI (10 * dvN (C i)) + C (i + 1) - 48 = nI (10 * dvN (C i) + dvN (C (i + 1))) := by
        rw [← nI_add, ← d2.1]; grind
      rw [e]
    · rw [if_neg c2, if_neg c2]
      refine ⟨fun hn => (by cases hn), fun n hn => ?_⟩
      have hn : dvN (C i) = n := Option.some.inj hn
      subst hn
      rfl
  · rw [if_neg c1, if_neg c1]
    refine ⟨fun _ => ⟨rfl, ?_⟩, fun n hn => (by cases hn)⟩
    rw [m_faulty h38 h37, bnd1_e]
theorem m_letter (h : TxM m K N C) (hi : i ≤ K) (h37 : m.1 37 0 = nI i) (h38 : m.1 38 0 = -1) : fX11_isLetter m = some (if leN (C i) = none then 0 else 1) := by
  have hK := h.1.1
  unfold fX11_isLetter fX11_isLetter_j84
  rw [h38, if_neg (by decide), h37, h.2.1]
  by_cases c : K ≤ i
  · rw [if_neg (nI_nlt c (by omega)), h.1.2.2 i c, if_pos (by rfl)]
  · rw [if_pos (nI_lt (by omega) (by omega)), if_pos (inB_nI (by omega) (by omega)), nI_c (by omega), h.2.2.1 i (by omega)]
    have key : ∀ z : Int32, (if z = 102 then (some 1 : Option Int32) else if z = 104 then some 1 else if z = 112 then some 1 else if z = 119 then some 1 else if z = 108 then some 1 else if z = 115 then some 1 else if z = 97 then some 1 else if z = 107 then some 1 else if z = 116 then some 1 else some 0) = some (if leN z = none then 0 else 1) := by
      intro z
      unfold leN
      by_cases c0 : z = 102
      · simp only [if_pos c0]; rfl
      · simp only [if_neg c0]
        by_cases c1 : z = 104
        · simp only [if_pos c1]; rfl
        · simp only [if_neg c1]
          by_cases c2 : z = 112
          · simp only [if_pos c2]; rfl
          · simp only [if_neg c2]
            by_cases c3 : z = 119
            · simp only [if_pos c3]; rfl
            · simp only [if_neg c3]
              by_cases c4 : z = 108
              · simp only [if_pos c4]; rfl
              · simp only [if_neg c4]
                by_cases c5 : z = 115
                · simp only [if_pos c5]; rfl
                · simp only [if_neg c5]
                  by_cases c6 : z = 97
                  · simp only [if_pos c6]; rfl
                  · simp only [if_neg c6]
                    by_cases c7 : z = 107
                    · simp only [if_pos c7]; rfl
                    · simp only [if_neg c7]
                      by_cases c8 : z = 116
                      · simp only [if_pos c8]; rfl
                      · simp only [if_neg c8]; rfl
    exact key (C i)
end MR
