/-! PURE: the class reads an E -/
def OutC (L c i pend : Nat) (g : STt) (r : Nat × Option ((Nat → Int32) → Bool)) (out : Option (STt × Int32)) (Pr : List TkT → ((Nat → Int32) → Bool) → Prop) : Prop := (r.2 = none → ∃ g', out = some (g', 0) ∧ FpC L c g g' ∧ g'.1 6 0 = nI r.1) ∧ (∀ F, r.2 = some F → ∃ g' l, out = some (g', 1) ∧ FpC L c g g' ∧ g'.1 6 0 = nI r.1 ∧ g'.1 24 L = nI (c + l.length) ∧ l.length + i ≤ r.1 + pend ∧ HdC (g'.2.1 28 L) c l ∧ Pr l F)
theorem FpC.le {L c c' : Nat} {g g' : STt} (h : FpC L c' g g') (hc : c ≤ c') : FpC L c g g' := ⟨h.1, h.2.1, fun k hk => h.2.2.1 k (by omega), h.2.2.2⟩
theorem hd_keep {L c c' : Nat} {g g' : STt} {l : List TkT} (h : HdC (g.2.1 28 L) c l) (hF : FpC L c' g g') (hc : c + l.length ≤ c') : HdC (g'.2.1 28 L) c l := HdC_c l c (fun k hk => hF.2.2.1 k (by omega)) h
theorem c_nots {qB qE qS : STt → Nat → Int32 → Option (STt × Int32)} {L t : Nat} (ht : t ≤ 4) : ∀ (n k fu c : Nat) (g : STt), k + n = t → n < fu → g.1 24 L = nI c → c + n ≤ 100 → ∃ g', iterO (fun Q z => fX7_readSingle_l92c qB qE qS Q L (nI t) 1 z.1 z.2) fu (g, nI k) = some (g', 1) ∧ FpC L c g g' ∧ g'.1 6 0 = g.1 6 0 ∧ g'.1 24 L = nI (c + n) ∧ HdC (g'.2.1 28 L) c (List.replicate n tkN) := by
  intro n
  induction n with
  | zero =>
    intro k fu c g hk hf hc h100
    obtain ⟨fu, rfl⟩ : ∃ j, fu = j + 1 := ⟨fu - 1, by omega⟩
    rw [iterO_succ]
    refine ⟨g, ?_, FpC.rfl' L c g, rfl, hc, trivial⟩
    show fX7_readSingle_l92c qB qE qS _ L (nI t) 1 g (nI k) = _
    unfold fX7_readSingle_l92c
    rw [if_pos (nI_le (by omega) (by omega)), if_pos (by decide)]
  | succ n ih =>
    intro k fu c g hk hf hc h100
    obtain ⟨fu, rfl⟩ : ∃ j, fu = j + 1 := ⟨fu - 1, by omega⟩
    rw [iterO_succ]
    obtain ⟨g1, a1, a2, a3, a4, a5⟩ := c_add1 (L := L) hc (by omega) tkN (fun q => absurd q (by decide))
    obtain ⟨g2, b1, b2, b3, b4, b5⟩ := ih (k + 1) fu (c + 1) g1 (by omega) (by omega) a4 (by omega)
    refine ⟨g2, ?_, a2.tr b2 (by omega), b3.trans a3, by rw [b4]; exact congrArg nI (by omega), ?_⟩
    · show fX7_readSingle_l92c qB qE qS _ L (nI t) 1 g (nI k) = _
      unfold fX7_readSingle_l92c
      have a1 : fX2_addCode g L (-1) = some g1 := a1
      rw [if_neg (nI_ge (by omega) (by omega)), if_neg (by decide), a1, bnd1_e, nI_1]
      exact b1
    · rw [List.replicate_succ]
      have h1 := hd_keep a5 b2 (by show c + 1 ≤ c + 1; omega)
      exact ⟨h1.1, h1.2.1, b5⟩
section RD
variable {C : Nat → Int32} {K L : Nat}
def StS (C : Nat → Int32) (K L f : Nat) : Prop := ∀ (d0 t i c : Nat) (g : STt) (fu cf : Nat), d0 + t ≤ 4 → 3 * (K - i) < f → i ≤ K → c + t + (K - i) ≤ 100 → 3 * (4 - (d0 + t)) ≤ cf → 5 - t < fu → TxC g K C → g.1 6 0 = nI i → g.1 24 L = nI c → OutC L c i t g (prs C f 0 (d0 + t) i) (iterO (fun Q z => fX7_readSingle_l2c (fX7_readBoth cf) (fX7_readEither cf) (fX7_readSingle cf) Q L (nI d0) z.1 z.2) fu (g, nI t)) (fun l F => ∃ l0, l = l0 ++ List.replicate t tkN ∧ GdC (2 * (4 - (d0 + t)) + 1) l0 F)
def StB (C : Nat → Int32) (K L f : Nat) : Prop := ∀ (d t i c : Nat) (g : STt) (fu cf : Nat), d ≤ 4 → 3 * (K - i) + 1 < f → i ≤ K → t ≤ i → t < 100 → c + min t 1 + (K - i) ≤ 100 → 3 * (4 - d) + 1 ≤ cf → K - i + 2 ≤ fu → TxC g K C → g.1 6 0 = nI i → g.1 24 L = nI c → OutC L c i (min t 1) g (prs C f 1 d i) (iterO (fun Q z => fX7_readBoth_l5c (fX7_readBoth cf) (fX7_readEither cf) (fX7_readSingle cf) Q L (nI d) z.1 z.2.1 z.2.2) fu (g, 0, nI t)) (fun l F => (t = 0 → GdC (2 * (4 - d) + 2) l F) ∧ (0 < t → GdA (2 * (4 - d) + 2) and l F))
def StE (C : Nat → Int32) (K L f : Nat) : Prop := ∀ (d t i c : Nat) (g : STt) (fu cf : Nat), d ≤ 4 → 3 * (K - i) + 2 < f → i ≤ K → t ≤ i → t < 100 → c + min t 1 + (K - i) ≤ 100 → 3 * (4 - d) + 2 ≤ cf → K - i + 2 ≤ fu → TxC g K C → g.1 6 0 = nI i → g.1 24 L = nI c → OutC L c i (min t 1) g (prs C f 2 d i) (iterO (fun Q z => fX7_readEither_l5c (fX7_readBoth cf) (fX7_readEither cf) (fX7_readSingle cf) Q L (nI d) z.1 z.2.1 z.2.2) fu (g, 0, nI t)) (fun l F => (t = 0 → GdC (2 * (4 - d) + 3) l F) ∧ (0 < t → GdA (2 * (4 - d) + 3) or l F))
/-- behind the NOTs: what was read, then as many NOT codes -/
theorem c_j87 {qB qE qS : STt → Nat → Int32 → Option (STt × Int32)} {t c : Nat} (ht : t ≤ 4) {g : STt} (hc : g.1 24 L = nI c) (h100 : c + t ≤ 100) : ∃ g', fX7_readSingle_j87 qB qE qS g L (nI t) 1 = some (g', 1) ∧ FpC L c g g' ∧ g'.1 6 0 = g.1 6 0 ∧ g'.1 24 L = nI (c + t) ∧ HdC (g'.2.1 28 L) c (List.replicate t tkN) := c_nots ht t 0 fuelN c g (by omega) (by show t < 5000; omega) hc h100
theorem c_j87n {qB qE qS : STt → Nat → Int32 → Option (STt × Int32)} {t : Nat} (ht : t ≤ 4) (g : STt) : fX7_readSingle_j87 qB qE qS g L (nI t) 0 = some (g, 0) := by
  unfold fX7_readSingle_j87 fX7_readSingle_l92
  rw [fuel_s, iterO_succ]
  show fX7_readSingle_l92c qB qE qS _ L (nI t) 0 g 0 = _
  unfold fX7_readSingle_l92c
  rw [if_pos (c := vp_nar .boolean 0 = 0) (by decide), if_pos (c := (0 : Int32) = 0) rfl, ite_self]
theorem c_S {f : Nat} (hS : StS C K L f) (hE : StE C K L f) : StS C K L (f + 1) := by
  intro d0 t i c g fu cf hd hf hi h100 hcf hfu hT h6 h24
  have hK := hT.1.1
  obtain ⟨fu, rfl⟩ : ∃ j, fu = j + 1 := ⟨fu - 1, by omega⟩
  rw [iterO_succ]
  show OutC L c i t g (prs C (f + 1) 0 (d0 + t) i) (fX7_readSingle_l2c (fX7_readBoth cf) (fX7_readEither cf) (fX7_readSingle cf) (iterO (fun Q z => fX7_readSingle_l2c (fX7_readBoth cf) (fX7_readEither cf) (fX7_readSingle cf) Q L (nI d0) z.1 z.2) fu) L (nI d0) g (nI t)) _
  have ihn := fun (t' i' : Nat) (g' : STt) => hS d0 t' i' c g' fu cf
  generalize iterO (fun Q z => fX7_readSingle_l2c (fX7_readBoth cf) (fX7_readEither cf) (fX7_readSingle cf) Q L (nI d0) z.1 z.2) fu = Q at ihn ⊢
  have hsum : nI d0 + nI t = nI (d0 + t) := nI_add _ _
  -- the test
  have jtest : OutC L c i t g (match pTs C i with
        | (j, none) => (j, none)
        | (j, some (q, sg, n)) => (j, some (fun x => tsB x q sg n))) (bnd (fX7_readTest g L) fun g_3 r_4 => (fX7_readSingle_j87 (fX7_readBoth cf) (fX7_readEither cf) (fX7_readSingle cf) g_3 L (nI t) r_4)) (fun l F => ∃ l0, l = l0 ++ List.replicate t tkN ∧ GdC (2 * (4 - (d0 + t)) + 1) l0 F) := by
    obtain ⟨p1, p2, p3⟩ := pTs_b hT.1 hi
    rcases Nat.lt_or_ge i K with hiK | hiK
    · obtain ⟨t1, t2⟩ := c_test hT hi h6 h24 (by omega)
      cases hp : pTs C i with
      | mk j r =>
        rw [hp] at t1 t2 p3
        cases r with
        | none =>
          obtain ⟨g', a1, a2, a3⟩ := t1 rfl
          refine ⟨fun _ => ⟨g', ?_, a2, a3⟩, fun F hF => (by cases hF)⟩
          rw [a1, bnd_e, c_j87n (by omega)]
        | some q3 =>
          obtain ⟨q, sg, n⟩ := q3
          obtain ⟨-, -, -, hj⟩ := p3 q sg n rfl
          have hj : i + 3 ≤ j := hj
          obtain ⟨g1, a1, a2, a3, a4, a5⟩ := t2 q sg n rfl
          obtain ⟨g2, b1, b2, b3, b4, b5⟩ := c_j87 (L := L) (qB := fX7_readBoth cf) (qE := fX7_readEither cf) (qS := fX7_readSingle cf) (t := t) (by omega) a4 (by omega)
          refine ⟨fun hn => (by cases hn), fun F hF => ?_⟩
          have hF : (fun x => tsB x q sg n) = F := Option.some.inj hF
          subst hF
          refine ⟨g2, [(0, q, sg, n)] ++ List.replicate t tkN, ?_, a2.tr b2 (by omega), b3.trans a3, ?_, ?_, ?_, [(0, q, sg, n)], rfl, g_up (g_test q sg n) (by omega)⟩
          · rw [a1, bnd_e, b1]
          · rw [b4, List.length_append, List.length_replicate]
            exact congrArg nI (by show c + 1 + t = c + (1 + t); omega)
          · rw [List.length_append, List.length_replicate]
            show 1 + t + i ≤ j + t
            omega
          · exact HdC_app _ _ _ _ (hd_keep a5 b2 (Nat.le_refl _)) b5
    · have e : i = K := by omega
      have le : leN (C i) = none := by rw [hT.1.2.2 i hiK]; rfl
      have hp : pTs C i = (i, none) := by unfold pTs; rw [le]
      rw [hp]
      refine ⟨fun _ => ⟨g, ?_, FpC.rfl' L c g, h6⟩, fun F hF => (by cases hF)⟩
      have q1 := (c_place hT (by omega) h6).1
      rw [le] at q1
      unfold fX7_readTest
      rw [q1, bnd1_e, oI_none, if_neg (by decide), bnd_e, c_j87n (by omega)]
  unfold fX7_readSingle_l2c
  rw [hsum]
  have hpr : prs C (f + 1) 0 (d0 + t) i = (if d0 + t < 4 ∧ C i = 33 then match prs C f 0 (d0 + t + 1) (i + 1) with
        | (j, none) => (j, none)
        | (j, some F) => (j, some (fun x => !(F x)))
      else if d0 + t < 4 ∧ C i = 40 then match prs C f 2 (d0 + t + 1) (i + 1) with
        | (j, none) => (j, none)
        | (j, some F) => if C j = 41 then (j + 1, some F) else (j, none)
      else match pTs C i with
        | (j, none) => (j, none)
        | (j, some (q, sg, n)) => (j, some (fun x => tsB x q sg n))) := by
    show (if 0 = 0 then _ else _) = _
    rw [if_pos rfl]
    rfl
  rw [hpr]
  by_cases c4 : d0 + t < 4
  · rw [if_neg (show ¬ (4 : Int32) ≤ nI (d0 + t) from nI_ge (b := 4) c4 (by omega)), c_next hT (by omega) h6]
    by_cases c33 : C i = 33
    · have k1 := tx_in hT.1 c33 (by decide)
      rw [if_pos ⟨c4, c33⟩, if_pos c33, bnd_e, if_neg (by decide), nI_1]
      have h1 := TxC_F hT (FpC_6 L c g (nI (i + 1)))
      obtain ⟨r1, r2⟩ := ihn (t + 1) (i + 1) (sS g 6 0 (nI (i + 1))) (by omega) (by omega) (by omega) (by omega) (by omega) (by omega) h1 (sS_s _ _ _ _) (by rw [sS_n _ _ (by omega)]; exact h24)
      rw [show d0 + (t + 1) = d0 + t + 1 by omega] at r1 r2
      cases hp : prs C f 0 (d0 + t + 1) (i + 1) with
      | mk j r =>
        rw [hp] at r1 r2
        cases r with
        | none =>
          obtain ⟨g', a1, a2, a3⟩ := r1 rfl
          exact ⟨fun _ => ⟨g', a1, (FpC_6 L c g _).tr a2 (Nat.le_refl c), a3⟩, fun F hF => (by cases hF)⟩
        | some G =>
          obtain ⟨g', l, a1, a2, a3, a4, a5, a6, l0, e0, gd⟩ := r2 G rfl
          refine ⟨fun hn => (by cases hn), fun F hF => ?_⟩
          have hF : (fun x => !(G x)) = F := Option.some.inj hF
          subst hF
          have a5 : l.length + (i + 1) ≤ j + (t + 1) := a5
          refine ⟨g', l, a1, (FpC_6 L c g _).tr a2 (Nat.le_refl c), a3, a4, (by show l.length + i ≤ j + t; omega), a6, l0 ++ [tkN], ?_, g_up (g_not (by omega) (by omega) gd) (by omega)⟩
          rw [e0, List.replicate_succ, List.append_assoc]
          rfl
    · rw [if_neg (fun q => c33 q.2), if_neg c33, bnd_e, if_pos rfl]
      unfold fX7_readSingle_j24 fX7_readSingle_j44
      rw [hsum, if_neg (show ¬ (4 : Int32) ≤ nI (d0 + t) from nI_ge (b := 4) c4 (by omega)), c_next hT (by omega) h6]
      by_cases c40 : C i = 40
      · have k1 := tx_in hT.1 c40 (by decide)
        rw [if_pos ⟨c4, c40⟩, if_pos c40, bnd_e, if_neg (by decide)]
        unfold fX7_readSingle_j45 fX7_readSingle_j78
        rw [if_neg (by decide), hsum, nI_1]
        have h1 := TxC_F hT (FpC_6 L c g (nI (i + 1)))
        obtain ⟨cf, rfl⟩ : ∃ k, cf = k + 1 := ⟨cf - 1, by omega⟩
        obtain ⟨r1, r2⟩ := hE (d0 + t + 1) 0 (i + 1) c (sS g 6 0 (nI (i + 1))) fuelN cf (by omega) (by omega) (by omega) (by omega) (by omega) (by omega) (by omega) (by show K - (i + 1) + 2 ≤ 5000; omega) h1 (sS_s _ _ _ _) (by rw [sS_n _ _ (by omega)]; exact h24)
        have hun : fX7_readEither (cf + 1) (sS g 6 0 (nI (i + 1))) L (nI (d0 + t + 1)) = iterO (fun Q z => fX7_readEither_l5c (fX7_readBoth cf) (fX7_readEither cf) (fX7_readSingle cf) Q L (nI (d0 + t + 1)) z.1 z.2.1 z.2.2) fuelN (sS g 6 0 (nI (i + 1)), 0, nI 0) := rfl
        rw [hun]
        obtain ⟨pb1, pb2⟩ := prs_b hT.1 f 2 (d0 + t + 1) (i + 1) (by omega)
        cases hp : prs C f 2 (d0 + t + 1) (i + 1) with
        | mk j r =>
          rw [hp] at r1 r2 pb1 pb2
          have pb1 : i + 1 ≤ j := pb1
          have pb2 : j ≤ K := pb2
          cases r with
          | none =>
            obtain ⟨g', a1, a2, a3⟩ := r1 rfl
            refine ⟨fun _ => ⟨g', ?_, (FpC_6 L c g _).tr a2 (Nat.le_refl c), a3⟩, fun F hF => (by cases hF)⟩
            rw [a1, bnd_e, if_pos rfl, c_j87n (by omega)]
          | some G =>
            obtain ⟨g1, l, a1, a2, a3, a4, a5, a6, gd, -⟩ := r2 G rfl
            have gd := gd rfl
            have a3 : g1.1 6 0 = nI j := a3
            have a5 : l.length + (i + 1) ≤ j + 0 := a5
            have hT1 := TxC_F h1 a2
            have f1 := (FpC_6 L c g (nI (i + 1))).tr a2 (Nat.le_refl c)
            rw [a1, bnd_e, if_neg (by decide), c_next hT1 (by omega) a3]
            show OutC L c i t g (if C j = 41 then (j + 1, some G) else (j, none)) _ _
            by_cases c41 : C j = 41
            · have k2 := tx_in hT.1 c41 (by decide)
              rw [if_pos c41, if_pos c41, bnd_e, if_neg (by decide)]
              obtain ⟨g2, b1, b2, b3, b4, b5⟩ := c_j87 (L := L) (qB := fX7_readBoth (cf + 1)) (qE := fX7_readEither (cf + 1)) (qS := fX7_readSingle (cf + 1)) (t := t) (g := sS g1 6 0 (nI (j + 1))) (by omega) (c := c + l.length) (by rw [sS_n _ _ (by omega)]; exact a4) (by omega)
              have f6 := FpC_6 L (c + l.length) g1 (nI (j + 1))
              refine ⟨fun hn => (by cases hn), fun F hF => ?_⟩
              have hF : G = F := Option.some.inj hF
              subst hF
              refine ⟨g2, l ++ List.replicate t tkN, b1, f1.tr (f6.tr b2 (Nat.le_refl _)) (by omega), b3.trans (sS_s _ _ _ _), ?_, ?_, HdC_app _ _ _ _ (hd_keep a6 (f6.tr b2 (Nat.le_refl _)) (Nat.le_refl _)) b5, l, rfl, g_up gd (by omega)⟩
              · rw [b4, List.length_append, List.length_replicate]
                exact congrArg nI (by omega)
              · rw [List.length_append, List.length_replicate]
                show l.length + t + i ≤ j + 1 + t
                omega
            · rw [if_neg c41, if_neg c41, bnd_e, if_pos rfl]
              refine ⟨fun _ => ⟨g1, c_j87n (by omega) g1, f1, a3⟩, fun F hF => (by cases hF)⟩
      · rw [if_neg (fun q => c40 q.2), if_neg c40, bnd_e, if_pos rfl]
        unfold fX7_readSingle_j45
        rw [if_pos rfl]
        exact jtest
  · rw [if_neg (fun q => c4 q.1), if_neg (fun q => c4 q.1), if_pos (show (4 : Int32) ≤ nI (d0 + t) from nI_le (a := 4) (by omega) (by omega))]
    unfold fX7_readSingle_j24 fX7_readSingle_j44 fX7_readSingle_j45
    rw [hsum, if_pos (show (4 : Int32) ≤ nI (d0 + t) from nI_le (a := 4) (by omega) (by omega)), if_pos rfl]
    exact jtest
theorem c_B {f : Nat} (hI : StS C K L f) (hR : StB C K L f) : StB C K L (f + 1) := by
  intro d t i c g fu cf hd hf hi hti ht100 h100 hcf hfu hT h6 h24
  have hK := hT.1.1
  obtain ⟨fu, rfl⟩ : ∃ j, fu = j + 1 + 1 := ⟨fu - 2, by omega⟩
  rw [iterO_succ]
  show OutC L c i (min t 1) g (prs C (f + 1) 1 d i) (fX7_readBoth_l5c (fX7_readBoth cf) (fX7_readEither cf) (fX7_readSingle cf) (iterO (fun Q z => fX7_readBoth_l5c (fX7_readBoth cf) (fX7_readEither cf) (fX7_readSingle cf) Q L (nI d) z.1 z.2.1 z.2.2) (fu + 1)) L (nI d) g 0 (nI t)) _
  have ended : ∀ (g' : STt) (t' : Nat), iterO (fun Q z => fX7_readBoth_l5c (fX7_readBoth cf) (fX7_readEither cf) (fX7_readSingle cf) Q L (nI d) z.1 z.2.1 z.2.2) (fu + 1) (g', 1, nI t') = some (g', 1) := by
    intro g' t'
    rw [iterO_succ]
    show fX7_readBoth_l5c _ _ _ _ L (nI d) g' 1 (nI t') = _
    unfold fX7_readBoth_l5c
    rw [if_neg (show ¬ (1 : Int32) = 0 by decide), if_pos (show vp_nar .boolean 1 = 1 by decide), ite_self]
  have ihn := fun (t' i' c' : Nat) (g' : STt) => hR d t' i' c' g' (fu + 1) cf
  generalize iterO (fun Q z => fX7_readBoth_l5c (fX7_readBoth cf) (fX7_readEither cf) (fX7_readSingle cf) Q L (nI d) z.1 z.2.1 z.2.2) (fu + 1) = Q at ihn ended ⊢
  have hpr : prs C (f + 1) 1 d i = (match prs C f 0 d i with
      | (j, none) => (j, none)
      | (j, some F) => if C j = 38 then match prs C f 1 d (j + 1) with
        | (k, none) => (k, none)
        | (k, some G) => (k, some (fun x => F x && G x)) else (j, some F)) := by
    show (if 1 = 0 then _ else if 1 = 1 then _ else _) = _
    rw [if_neg (by omega), if_pos rfl]
    rfl
  rw [hpr]
  obtain ⟨cf, rfl⟩ : ∃ k, cf = k + 1 := ⟨cf - 1, by omega⟩
  unfold fX7_readBoth_l5c
  rw [if_neg (show ¬ (100 : Int32) ≤ nI t from nI_ge (b := 100) ht100 (by omega)), if_pos rfl]
  have hun : fX7_readSingle (cf + 1) g L (nI d) = iterO (fun Q z => fX7_readSingle_l2c (fX7_readBoth cf) (fX7_readEither cf) (fX7_readSingle cf) Q L (nI d) z.1 z.2) fuelN (g, nI 0) := rfl
  obtain ⟨r1, r2⟩ := hI d 0 i c g fuelN cf (by omega) (by omega) hi (by omega) (by omega) (by show 5 - 0 < 5000; omega) hT h6 h24
  rw [Nat.add_zero] at r1 r2
  rw [hun]
  obtain ⟨pb1, pb2⟩ := prs_b hT.1 f 0 d i hi
  have pbs := prs_s hT.1 f 0 d i
  cases hp : prs C f 0 d i with
  | mk j r =>
    rw [hp] at r1 r2 pb1 pb2
    have pb2 : j ≤ K := pb2
    cases r with
    | none =>
      obtain ⟨g', a1, a2, a3⟩ := r1 rfl
      refine ⟨fun _ => ⟨g', ?_, a2, a3⟩, fun F hF => (by cases hF)⟩
      rw [a1, bnd_e, if_pos rfl]
    | some F1 =>
      have hij := pbs j F1 hi hp
      obtain ⟨g1, l1, a1, a2, a3, a4, a5, a6, gd0⟩ := r2 F1 rfl
      have a3 : g1.1 6 0 = nI j := a3
      have a5 : l1.length + i ≤ j + 0 := a5
      have gd : GdC (2 * (4 - d) + 1) l1 F1 := by obtain ⟨l0, e0, gd⟩ := gd0; rw [e0, List.replicate_zero, List.append_nil]; exact gd
      rw [a1, bnd_e, if_neg (by decide)]
      -- behind the operator, if there is one due
      have mid : ∃ (g2 : STt) (lm : List TkT), (if nI t ≤ 0 then fX7_readBoth_j38 (fX7_readBoth (cf + 1)) (fX7_readEither (cf + 1)) (fX7_readSingle (cf + 1)) Q g1 L (nI d) (nI t) else (bnd1 (fX2_addCode g1 L (-2)) fun g_9 => fX7_readBoth_j38 (fX7_readBoth (cf + 1)) (fX7_readEither (cf + 1)) (fX7_readSingle (cf + 1)) Q g_9 L (nI d) (nI t))) = fX7_readBoth_j38 (fX7_readBoth (cf + 1)) (fX7_readEither (cf + 1)) (fX7_readSingle (cf + 1)) Q g2 L (nI d) (nI t) ∧ FpC L c g g2 ∧ g2.1 6 0 = nI j ∧ g2.1 24 L = nI (c + lm.length) ∧ lm.length + i ≤ j + min t 1 ∧ HdC (g2.2.1 28 L) c lm ∧ (t = 0 → lm = l1) ∧ (0 < t → lm = l1 ++ [tkA]) := by
        by_cases ct : t = 0
        · subst ct
          exact ⟨g1, l1, by rw [if_pos (by decide)], a2, a3, a4, a5, a6, fun _ => rfl, fun q => (by omega)⟩
        · have hm : min t 1 = 1 := by omega
          rw [hm] at h100
          obtain ⟨g2, b1, b2, b3, b4, b5⟩ := c_add1 (L := L) a4 (by omega) tkA (fun q => absurd q (by decide))
          have b1 : fX2_addCode g1 L (-2) = some g2 := b1
          refine ⟨g2, l1 ++ [tkA], by rw [if_neg (show ¬ nI t ≤ 0 from nI_nle (by omega) (by omega)), b1, bnd1_e], a2.tr b2 (by omega), b3.trans a3, ?_, ?_, HdC_app _ _ _ _ (hd_keep a6 b2 (Nat.le_refl _)) b5, fun q => absurd q ct, fun _ => rfl⟩
          · rw [b4, List.length_append]; exact congrArg nI (by show c + l1.length + 1 = c + (l1.length + 1); omega)
          · rw [List.length_append, hm]; show l1.length + 1 + i ≤ j + 1; omega
      obtain ⟨g2, lm, m1, m2, m3, m4, m5, m6, m7, m8⟩ := mid
      rw [m1]
      unfold fX7_readBoth_j38 fX7_readBoth_j52
      rw [c_next (TxC_F hT m2) (by omega) m3]
      show OutC L c i (min t 1) g (if C j = 38 then match prs C f 1 d (j + 1) with
        | (k, none) => (k, none)
        | (k, some G) => (k, some (fun x => F1 x && G x)) else (j, some F1)) _ _
      by_cases cs : C j = 38
      · have k1 := tx_in hT.1 cs (by decide)
        rw [if_pos cs, if_pos cs, bnd_e, if_neg (by decide), nI_1]
        have fj := FpC_6 L (c + lm.length) g2 (nI (j + 1))
        have hT2 := TxC_F (TxC_F hT m2) fj
        obtain ⟨s1, s2⟩ := ihn (t + 1) (j + 1) (c + lm.length) (sS g2 6 0 (nI (j + 1))) hd (by omega) (by omega) (by omega) (by omega) (by omega) hcf (by omega) hT2 (sS_s _ _ _ _) (by rw [sS_n _ _ (by omega)]; exact m4)
        cases hp2 : prs C f 1 d (j + 1) with
        | mk k r2' =>
          rw [hp2] at s1 s2
          cases r2' with
          | none =>
            obtain ⟨g', b1, b2, b3⟩ := s1 rfl
            exact ⟨fun _ => ⟨g', b1, m2.tr (fj.tr b2 (Nat.le_refl _)) (by omega), b3⟩, fun F hF => (by cases hF)⟩
          | some G =>
            obtain ⟨g', l2, b1, b2, b3, b4, b5, b6, -, gA⟩ := s2 G rfl
            have gA := gA (by omega)
            have b5 : l2.length + (j + 1) ≤ k + min (t + 1) 1 := b5
            refine ⟨fun hn => (by cases hn), fun F hF => ?_⟩
            have hF : (fun x => F1 x && G x) = F := Option.some.inj hF
            subst hF
            refine ⟨g', lm ++ l2, b1, m2.tr (fj.tr b2 (Nat.le_refl _)) (by omega), b3, ?_, ?_, HdC_app _ _ _ _ (hd_keep m6 (fj.tr b2 (Nat.le_refl _)) (Nat.le_refl _)) b6, fun ct => ?_, fun ct => ?_⟩
            · rw [b4, List.length_append]; exact congrArg nI (by omega)
            · rw [List.length_append]; show lm.length + l2.length + i ≤ k + min t 1; omega
            · rw [m7 ct]
              exact g_join0 (op := and) (by omega) gd gA
            · rw [m8 ct]
              exact g_join1 (h1 := 2 * (4 - d) + 1) (op := and) (by omega) (by omega) gd (fun F s x y => (st_op F s x y).1) Bool.and_assoc gA
      · rw [if_neg cs, if_neg cs, bnd_e, if_pos rfl, nI_1]
        refine ⟨fun hn => (by cases hn), fun F hF => ?_⟩
        have hF : F1 = F := Option.some.inj hF
        subst hF
        refine ⟨g2, lm, ended g2 (t + 1), m2, m3, m4, m5, m6, fun ct => ?_, fun ct => ?_⟩
        · rw [m7 ct]; exact g_up gd (by omega)
        · rw [m8 ct]; exact g_end (h1 := 2 * (4 - d) + 1) (op := and) (by omega) (by omega) gd (fun F s x y => (st_op F s x y).1)
theorem c_E {f : Nat} (hI : StB C K L f) (hR : StE C K L f) : StE C K L (f + 1) := by
  intro d t i c g fu cf hd hf hi hti ht100 h100 hcf hfu hT h6 h24
  have hK := hT.1.1
  obtain ⟨fu, rfl⟩ : ∃ j, fu = j + 1 + 1 := ⟨fu - 2, by omega⟩
  rw [iterO_succ]
  show OutC L c i (min t 1) g (prs C (f + 1) 2 d i) (fX7_readEither_l5c (fX7_readBoth cf) (fX7_readEither cf) (fX7_readSingle cf) (iterO (fun Q z => fX7_readEither_l5c (fX7_readBoth cf) (fX7_readEither cf) (fX7_readSingle cf) Q L (nI d) z.1 z.2.1 z.2.2) (fu + 1)) L (nI d) g 0 (nI t)) _
  have ended : ∀ (g' : STt) (t' : Nat), iterO (fun Q z => fX7_readEither_l5c (fX7_readBoth cf) (fX7_readEither cf) (fX7_readSingle cf) Q L (nI d) z.1 z.2.1 z.2.2) (fu + 1) (g', 1, nI t') = some (g', 1) := by
    intro g' t'
    rw [iterO_succ]
    show fX7_readEither_l5c _ _ _ _ L (nI d) g' 1 (nI t') = _
    unfold fX7_readEither_l5c
    rw [if_neg (show ¬ (1 : Int32) = 0 by decide), if_pos (show vp_nar .boolean 1 = 1 by decide), ite_self]
  have ihn := fun (t' i' c' : Nat) (g' : STt) => hR d t' i' c' g' (fu + 1) cf
  generalize iterO (fun Q z => fX7_readEither_l5c (fX7_readBoth cf) (fX7_readEither cf) (fX7_readSingle cf) Q L (nI d) z.1 z.2.1 z.2.2) (fu + 1) = Q at ihn ended ⊢
  have hpr : prs C (f + 1) 2 d i = (match prs C f 1 d i with
      | (j, none) => (j, none)
      | (j, some F) => if C j = 124 then match prs C f 2 d (j + 1) with
        | (k, none) => (k, none)
        | (k, some G) => (k, some (fun x => F x || G x)) else (j, some F)) := by
    show (if 2 = 0 then _ else if 2 = 1 then _ else _) = _
    rw [if_neg (by omega), if_neg (by omega)]
    rfl
  rw [hpr]
  obtain ⟨cf, rfl⟩ : ∃ k, cf = k + 1 := ⟨cf - 1, by omega⟩
  unfold fX7_readEither_l5c
  rw [if_neg (show ¬ (100 : Int32) ≤ nI t from nI_ge (b := 100) ht100 (by omega)), if_pos rfl]
  have hun : fX7_readBoth (cf + 1) g L (nI d) = iterO (fun Q z => fX7_readBoth_l5c (fX7_readBoth cf) (fX7_readEither cf) (fX7_readSingle cf) Q L (nI d) z.1 z.2.1 z.2.2) fuelN (g, 0, nI 0) := rfl
  obtain ⟨r1, r2⟩ := hI d 0 i c g fuelN cf hd (by omega) hi (by omega) (by omega) (by omega) (by omega) (by show K - i + 2 ≤ 5000; omega) hT h6 h24
  rw [hun]
  obtain ⟨pb1, pb2⟩ := prs_b hT.1 f 1 d i hi
  have pbs := prs_s hT.1 f 1 d i
  cases hp : prs C f 1 d i with
  | mk j r =>
    rw [hp] at r1 r2 pb1 pb2
    have pb2 : j ≤ K := pb2
    cases r with
    | none =>
      obtain ⟨g', a1, a2, a3⟩ := r1 rfl
      refine ⟨fun _ => ⟨g', ?_, a2, a3⟩, fun F hF => (by cases hF)⟩
      rw [a1, bnd_e, if_pos rfl]
    | some F1 =>
      have hij := pbs j F1 hi hp
      obtain ⟨g1, l1, a1, a2, a3, a4, a5, a6, gd0⟩ := r2 F1 rfl
      have a3 : g1.1 6 0 = nI j := a3
      have a5 : l1.length + i ≤ j + 0 := a5
      have gd : GdC (2 * (4 - d) + 2) l1 F1 := gd0.1 rfl
      rw [a1, bnd_e, if_neg (by decide)]
      -- behind the operator, if there is one due
      have mid : ∃ (g2 : STt) (lm : List TkT), (if nI t ≤ 0 then fX7_readEither_j38 (fX7_readBoth (cf + 1)) (fX7_readEither (cf + 1)) (fX7_readSingle (cf + 1)) Q g1 L (nI d) (nI t) else (bnd1 (fX2_addCode g1 L (-3)) fun g_9 => fX7_readEither_j38 (fX7_readBoth (cf + 1)) (fX7_readEither (cf + 1)) (fX7_readSingle (cf + 1)) Q g_9 L (nI d) (nI t))) = fX7_readEither_j38 (fX7_readBoth (cf + 1)) (fX7_readEither (cf + 1)) (fX7_readSingle (cf + 1)) Q g2 L (nI d) (nI t) ∧ FpC L c g g2 ∧ g2.1 6 0 = nI j ∧ g2.1 24 L = nI (c + lm.length) ∧ lm.length + i ≤ j + min t 1 ∧ HdC (g2.2.1 28 L) c lm ∧ (t = 0 → lm = l1) ∧ (0 < t → lm = l1 ++ [tkO]) := by
        by_cases ct : t = 0
        · subst ct
          exact ⟨g1, l1, by rw [if_pos (by decide)], a2, a3, a4, a5, a6, fun _ => rfl, fun q => (by omega)⟩
        · have hm : min t 1 = 1 := by omega
          rw [hm] at h100
          obtain ⟨g2, b1, b2, b3, b4, b5⟩ := c_add1 (L := L) a4 (by omega) tkO (fun q => absurd q (by decide))
          have b1 : fX2_addCode g1 L (-3) = some g2 := b1
          refine ⟨g2, l1 ++ [tkO], by rw [if_neg (show ¬ nI t ≤ 0 from nI_nle (by omega) (by omega)), b1, bnd1_e], a2.tr b2 (by omega), b3.trans a3, ?_, ?_, HdC_app _ _ _ _ (hd_keep a6 b2 (Nat.le_refl _)) b5, fun q => absurd q ct, fun _ => rfl⟩
          · rw [b4, List.length_append]; exact congrArg nI (by show c + l1.length + 1 = c + (l1.length + 1); omega)
          · rw [List.length_append, hm]; show l1.length + 1 + i ≤ j + 1; omega
      obtain ⟨g2, lm, m1, m2, m3, m4, m5, m6, m7, m8⟩ := mid
      rw [m1]
      unfold fX7_readEither_j38 fX7_readEither_j52
      rw [c_next (TxC_F hT m2) (by omega) m3]
      show OutC L c i (min t 1) g (if C j = 124 then match prs C f 2 d (j + 1) with
        | (k, none) => (k, none)
        | (k, some G) => (k, some (fun x => F1 x || G x)) else (j, some F1)) _ _
      by_cases cs : C j = 124
      · have k1 := tx_in hT.1 cs (by decide)
        rw [if_pos cs, if_pos cs, bnd_e, if_neg (by decide), nI_1]
        have fj := FpC_6 L (c + lm.length) g2 (nI (j + 1))
        have hT2 := TxC_F (TxC_F hT m2) fj
        obtain ⟨s1, s2⟩ := ihn (t + 1) (j + 1) (c + lm.length) (sS g2 6 0 (nI (j + 1))) hd (by omega) (by omega) (by omega) (by omega) (by omega) hcf (by omega) hT2 (sS_s _ _ _ _) (by rw [sS_n _ _ (by omega)]; exact m4)
        cases hp2 : prs C f 2 d (j + 1) with
        | mk k r2' =>
          rw [hp2] at s1 s2
          cases r2' with
          | none =>
            obtain ⟨g', b1, b2, b3⟩ := s1 rfl
            exact ⟨fun _ => ⟨g', b1, m2.tr (fj.tr b2 (Nat.le_refl _)) (by omega), b3⟩, fun F hF => (by cases hF)⟩
          | some G =>
            obtain ⟨g', l2, b1, b2, b3, b4, b5, b6, -, gA⟩ := s2 G rfl
            have gA := gA (by omega)
            have b5 : l2.length + (j + 1) ≤ k + min (t + 1) 1 := b5
            refine ⟨fun hn => (by cases hn), fun F hF => ?_⟩
            have hF : (fun x => F1 x || G x) = F := Option.some.inj hF
            subst hF
            refine ⟨g', lm ++ l2, b1, m2.tr (fj.tr b2 (Nat.le_refl _)) (by omega), b3, ?_, ?_, HdC_app _ _ _ _ (hd_keep m6 (fj.tr b2 (Nat.le_refl _)) (Nat.le_refl _)) b6, fun ct => ?_, fun ct => ?_⟩
            · rw [b4, List.length_append]; exact congrArg nI (by omega)
            · rw [List.length_append]; show lm.length + l2.length + i ≤ k + min t 1; omega
            · rw [m7 ct]
              exact g_join0 (op := or) (by omega) gd gA
            · rw [m8 ct]
              exact g_join1 (h1 := 2 * (4 - d) + 2) (op := or) (by omega) (by omega) gd (fun F s x y => (st_op F s x y).2) Bool.or_assoc gA
      · rw [if_neg cs, if_neg cs, bnd_e, if_pos rfl, nI_1]
        refine ⟨fun hn => (by cases hn), fun F hF => ?_⟩
        have hF : F1 = F := Option.some.inj hF
        subst hF
        refine ⟨g2, lm, ended g2 (t + 1), m2, m3, m4, m5, m6, fun ct => ?_, fun ct => ?_⟩
        · rw [m7 ct]; exact g_up gd (by omega)
        · rw [m8 ct]; exact g_end (h1 := 2 * (4 - d) + 2) (op := or) (by omega) (by omega) gd (fun F s x y => (st_op F s x y).2)
theorem c_RD : ∀ f, StS C K L f ∧ StB C K L f ∧ StE C K L f := by
  intro f
  induction f with
  | zero =>
    refine ⟨?_, ?_, ?_⟩
    · intro d0 t i c g fu cf h1 h2; omega
    · intro d t i c g fu cf h1 h2; omega
    · intro d t i c g fu cf h1 h2; omega
  | succ f ih => exact ⟨c_S ih.1 ih.2.2, c_B ih.1 ih.2.1, c_E ih.2.1 ih.2.2⟩
end RD
