/-! PURE: the class's law() -/
theorem c_11 {K L : Nat} {C : Nat → Int32} : ∀ (r i c k fu : Nat) (g : STt), k + (r + 1) = 10 → r + 1 < fu → i ≤ K → c ≤ i → TxC g K C → g.1 6 0 = nI i → g.1 23 L = nI k → g.1 24 L = nI c → ((pLw C K (r + 1) i).2 = none → ∃ g', iterO (fun Q z => fX7_readLaw_l11c Q L z.1 z.2) fu (g, nI (k + 1)) = some (g', nI (pLw C K (r + 1) i).1) ∧ FpL L k c g g') ∧ (∀ xs, (pLw C K (r + 1) i).2 = some xs → ∃ g' e, iterO (fun Q z => fX7_readLaw_l11c Q L z.1 z.2) fu (g, nI (k + 1)) = some (g', -1) ∧ FpL L k c g g' ∧ g'.1 23 L = nI (k + xs.length) ∧ g'.1 24 L = nI e ∧ e ≤ 100 ∧ RcL (g'.2.1 25 L) (g'.2.1 26 L) (g'.2.1 27 L) (g'.2.1 28 L) k c xs e) := by
  intro r
  induction r with
  | zero =>
    intro i c k fu g hkr hfu hi hci h h6 h23 h24
    have hK := h.1.1
    obtain ⟨fu, rfl⟩ : ∃ j, fu = j + 1 := ⟨fu - 1, by omega⟩
    rw [iterO_succ]
    generalize iterO (fun Q z => fX7_readLaw_l11c Q L z.1 z.2) fu = Q
    obtain ⟨hc1, hc2⟩ := c_cl (L := L) Q h hi hci (show k < 10 by omega) h6 h23 h24
    obtain ⟨pb1, pb2, pb3⟩ := pCl_b h.1 hi
    show ((pLw C K (0 + 1) i).2 = none → ∃ g', fX7_readLaw_l11c Q L g (nI (k + 1)) = some (g', nI (pLw C K (0 + 1) i).1) ∧ FpL L k c g g') ∧ (∀ xs, (pLw C K (0 + 1) i).2 = some xs → ∃ g' e, fX7_readLaw_l11c Q L g (nI (k + 1)) = some (g', -1) ∧ FpL L k c g g' ∧ g'.1 23 L = nI (k + xs.length) ∧ g'.1 24 L = nI e ∧ e ≤ 100 ∧ RcL (g'.2.1 25 L) (g'.2.1 26 L) (g'.2.1 27 L) (g'.2.1 28 L) k c xs e)
    cases hp : pCl C i with
    | mk j o =>
      rw [hp] at hc1 hc2 pb1 pb2 pb3
      have pb2 : j ≤ K := pb2
      cases o with
      | none =>
        have eL : pLw C K (0 + 1) i = (j, none) := by rw [pLw_s, hp]
        rw [eL]
        obtain ⟨g', a1, a2⟩ := hc1 rfl
        exact ⟨fun _ => ⟨g', a1, a2⟩, fun xs hx => (by cases hx)⟩
      | some y =>
        obtain ⟨y7, y100⟩ := pb3 y rfl
        obtain ⟨g', l, a1, a2, a6, a23, a24, al, a25, a26, a27, ah⟩ := hc2 y rfl
        have a6 : g'.1 6 0 = nI j := a6
        have al : c + l.length ≤ j := al
        have eL : pLw C K (0 + 1) i = (if j = K then (j, some [y]) else (j, none) : Nat × Option (List ClT)) := by
          rw [pLw_s, hp]
          show (if j = K then (j, some [y]) else if 0 = 0 then (j, none) else _) = _
          rw [if_pos (c := (0 : Nat) = 0) rfl]
        rw [eL, a1]
        have h' := TxC_L h a2
        unfold fX7_readLaw_j72 fX7_readLaw_j103 fX5_size
        rw [bnd1_e, a6, h'.2.1]
        by_cases c1 : j = K
        · rw [if_pos c1, if_pos (by rw [c1])]
          refine ⟨fun hn => (by cases hn), fun xs hx => ?_⟩
          have hx : [y] = xs := Option.some.inj hx
          subst hx
          exact ⟨g', c + l.length, rfl, a2, a23, a24, by omega, l, y7, y100, a25, a26, a27, by omega, ah, rfl⟩
        · rw [if_neg c1, if_neg (fun q => c1 ((nI_eq (by omega) (by omega)).mp q)), if_pos (show nI (k + 1) = 10 by rw [show k + 1 = 10 by omega]; rfl)]
          exact ⟨fun _ => ⟨g', rfl, a2⟩, fun xs hx => (by cases hx)⟩
  | succ r ih =>
    intro i c k fu g hkr hfu hi hci h h6 h23 h24
    have hK := h.1.1
    obtain ⟨fu, rfl⟩ : ∃ j, fu = j + 1 := ⟨fu - 1, by omega⟩
    rw [iterO_succ]
    have ih := fun i c g => ih i c (k + 1) fu g (by omega) (by omega)
    generalize iterO (fun Q z => fX7_readLaw_l11c Q L z.1 z.2) fu = Q at ih ⊢
    obtain ⟨hc1, hc2⟩ := c_cl (L := L) Q h hi hci (show k < 10 by omega) h6 h23 h24
    obtain ⟨pb1, pb2, pb3⟩ := pCl_b h.1 hi
    show ((pLw C K (r + 1 + 1) i).2 = none → ∃ g', fX7_readLaw_l11c Q L g (nI (k + 1)) = some (g', nI (pLw C K (r + 1 + 1) i).1) ∧ FpL L k c g g') ∧ (∀ xs, (pLw C K (r + 1 + 1) i).2 = some xs → ∃ g' e, fX7_readLaw_l11c Q L g (nI (k + 1)) = some (g', -1) ∧ FpL L k c g g' ∧ g'.1 23 L = nI (k + xs.length) ∧ g'.1 24 L = nI e ∧ e ≤ 100 ∧ RcL (g'.2.1 25 L) (g'.2.1 26 L) (g'.2.1 27 L) (g'.2.1 28 L) k c xs e)
    cases hp : pCl C i with
    | mk j o =>
      rw [hp] at hc1 hc2 pb1 pb2 pb3
      have pb1 : i ≤ j := pb1
      have pb2 : j ≤ K := pb2
      cases o with
      | none =>
        have eL : pLw C K (r + 1 + 1) i = (j, none) := by rw [pLw_s, hp]
        rw [eL]
        obtain ⟨g', a1, a2⟩ := hc1 rfl
        exact ⟨fun _ => ⟨g', a1, a2⟩, fun xs hx => (by cases hx)⟩
      | some y =>
        obtain ⟨y7, y100⟩ := pb3 y rfl
        obtain ⟨g', l, a1, a2, a6, a23, a24, al, a25, a26, a27, ah⟩ := hc2 y rfl
        have a6 : g'.1 6 0 = nI j := a6
        have al : c + l.length ≤ j := al
        have eL : pLw C K (r + 1 + 1) i = (if j = K then (j, some [y]) else if C j = 59 then match pLw C K (r + 1) (j + 1) with
            | (q, none) => (q, none)
            | (q, some xs) => (q, some (y :: xs)) else (j, none) : Nat × Option (List ClT)) := by
          rw [pLw_s, hp]
          show (if j = K then (j, some [y]) else if r + 1 = 0 then (j, none) else _) = _
          rw [if_neg (c := r + 1 = 0) (by omega)]
          rfl
        rw [eL, a1]
        have h' := TxC_L h a2
        unfold fX7_readLaw_j72 fX7_readLaw_j103 fX5_size
        rw [bnd1_e, h'.2.1, c_next h' (by omega) a6, a6]
        by_cases c1 : j = K
        · rw [if_pos c1, if_pos (by rw [c1])]
          refine ⟨fun hn => (by cases hn), fun xs hx => ?_⟩
          have hx : [y] = xs := Option.some.inj hx
          subst hx
          exact ⟨g', c + l.length, rfl, a2, a23, a24, by omega, l, y7, y100, a25, a26, a27, by omega, ah, rfl⟩
        · rw [if_neg c1, if_neg (c := nI j = nI K) (fun q => c1 ((nI_eq (by omega) (by omega)).mp q)), if_neg (c := nI (k + 1) = 10) (fun q => by have := (nI_eq (b := 10) (by omega) (by omega)).mp q; omega)]
          by_cases c3 : C j = 59
          · have k3 := tx_in h.1 c3 (by decide)
            rw [if_pos c3, if_pos c3, bnd_e, if_neg (by decide), nI_1]
            have f2 := FpC_6 L (c + l.length) g' (nI (j + 1))
            have h2 := TxC_F h' f2
            obtain ⟨s1, s2⟩ := ih (j + 1) (c + l.length) (sS g' 6 0 (nI (j + 1))) (by omega) (by omega) h2 (sS_s _ _ _ _) (by rw [sS_n _ _ (by omega)]; exact a23) (by rw [sS_n _ _ (by omega)]; exact a24)
            have grow : ∀ {g''}, FpL L (k + 1) (c + l.length) (sS g' 6 0 (nI (j + 1))) g'' → FpL L k c g g'' := fun hF => (a2.tr (FpL_C (k := k) f2) (Nat.le_refl _) (by omega)).tr hF (by omega) (by omega)
            cases hp2 : pLw C K (r + 1) (j + 1) with
            | mk q o =>
              rw [hp2] at s1 s2
              cases o with
              | none =>
                obtain ⟨g'', v1, v2⟩ := s1 rfl
                exact ⟨fun _ => ⟨g'', v1, grow v2⟩, fun xs hx => (by cases hx)⟩
              | some ys =>
                obtain ⟨g'', e, v1, v2, v23, v24, v100, vr⟩ := s2 ys rfl
                refine ⟨fun hn => (by cases hn), fun xs hx => ?_⟩
                have hx : y :: ys = xs := Option.some.inj hx
                subst hx
                refine ⟨g'', e, v1, grow v2, ?_, v24, v100, l, y7, y100, ?_, ?_, ?_, by omega, fun hw => ⟨?_, (ah hw).2⟩, vr⟩
                · rw [v23, List.length_cons]; exact congrArg nI (by omega)
                · rw [v2.2.2.1 25 k (by omega) (by omega) (by omega)]; exact a25
                · rw [v2.2.2.1 26 k (by omega) (by omega) (by omega)]; exact a26
                · rw [v2.2.2.1 27 k (by omega) (by omega) (by omega)]; exact a27
                · exact HdC_c l c (fun t ht => v2.2.2.2.1 t ht) (ah hw).1
          · rw [if_neg c3, if_neg c3, bnd_e, if_pos rfl, a6]
            exact ⟨fun _ => ⟨g', rfl, a2⟩, fun xs hx => (by cases hx)⟩
theorem c_law {g : STt} {K L : Nat} {C : Nat → Int32} (h : TxC g K C) : ((pLw C K 10 0).2 = none → ∃ g', fX7_readLaw g L = some (g', nI (pLw C K 10 0).1) ∧ FpL L 0 0 g g') ∧ (∀ xs, (pLw C K 10 0).2 = some xs → ∃ g' e, fX7_readLaw g L = some (g', -1) ∧ FpL L 0 0 g g' ∧ g'.1 23 L = nI xs.length ∧ g'.1 24 L = nI e ∧ e ≤ 100 ∧ RcL (g'.2.1 25 L) (g'.2.1 26 L) (g'.2.1 27 L) (g'.2.1 28 L) 0 0 xs e) := by
  have f0 : FpL L 0 0 g (sS (sS (sS g 6 0 0) 23 L 0) 24 L 0) := ⟨fun a i h1 h2 h3 => by rw [sS_n _ _ h3, sS_n _ _ h2, sS_n _ _ (by omega)], fun _ _ _ => rfl, fun _ _ _ _ _ => rfl, fun _ _ => rfl, rfl⟩
  obtain ⟨s1, s2⟩ := c_11 (K := K) (L := L) (C := C) 9 0 0 0 fuelN (sS (sS (sS g 6 0 0) 23 L 0) 24 L 0) (by omega) (by decide) (by omega) (by omega) (TxC_L h f0) (by rw [sS_n _ _ (by omega), sS_n _ _ (by omega), sS_s]; rfl) (by rw [sS_n _ _ (by omega), sS_s]; rfl) (by rw [sS_s]; rfl)
  have run : fX7_readLaw g L = iterO (fun Q z => fX7_readLaw_l11c Q L z.1 z.2) fuelN (sS (sS (sS g 6 0 0) 23 L 0) 24 L 0, nI (0 + 1)) := rfl
  rw [run]
  refine ⟨fun hn => ?_, fun xs hx => ?_⟩
  · obtain ⟨g', a1, a2⟩ := s1 hn
    exact ⟨g', a1, f0.tr a2 (Nat.le_refl _) (Nat.le_refl _)⟩
  · obtain ⟨g', e, a1, a2, a3, a4, a5, a6⟩ := s2 xs hx
    rw [Nat.zero_add] at a3
    exact ⟨g', e, a1, f0.tr a2 (Nat.le_refl _) (Nat.le_refl _), a3, a4, a5, a6⟩
/-! what an E weighs: the first nine facts alone -/
theorem prs_loc {C : Nat → Int32} : ∀ (f mode d i j : Nat) (G : (Nat → Int32) → Bool), prs C f mode d i = (j, some G) → ∀ F F' : Nat → Int32, (∀ k, k < 9 → F k = F' k) → G F = G F' := by
  intro f
  induction f with
  | zero => intro mode d i j G hp; cases hp
  | succ f ih =>
    intro mode d i j G hp F F' hF
    unfold prs at hp
    by_cases m0 : mode = 0
    · rw [if_pos m0] at hp
      by_cases c1 : d < 4 ∧ C i = 33
      · rw [if_pos c1] at hp
        cases hq : prs C f 0 (d + 1) (i + 1) with
        | mk j' r =>
          rw [hq] at hp
          cases r with
          | none => cases hp
          | some G1 => cases hp; show (!(G1 F)) = !(G1 F'); rw [ih _ _ _ _ _ hq F F' hF]
      · rw [if_neg c1] at hp
        by_cases c2 : d < 4 ∧ C i = 40
        · rw [if_pos c2] at hp
          cases hq : prs C f 2 (d + 1) (i + 1) with
          | mk j' r =>
            rw [hq] at hp
            cases r with
            | none => cases hp
            | some G1 =>
              have hp : (if C j' = 41 then (j' + 1, some G1) else (j', none)) = (j, some G) := hp
              by_cases c3 : C j' = 41
              · rw [if_pos c3] at hp; cases hp; exact ih _ _ _ _ _ hq F F' hF
              · rw [if_neg c3] at hp; cases hp
        · rw [if_neg c2] at hp
          cases hq : pTs C i with
          | mk j' r =>
            rw [hq] at hp
            cases r with
            | none => cases hp
            | some t =>
              obtain ⟨q, sg, n⟩ := t
              have q9 : q < 9 := by
                unfold pTs at hq
                cases h1 : leN (C i) with
                | none => rw [h1] at hq; cases hq
                | some q1 =>
                  rw [h1] at hq
                  have q9 := (leN_of h1).1
                  have hq : (match siN (C (i + 1)) with
                    | none => (i + 1, none)
                    | some sg => match pNm C (i + 2) with
                      | (j, none) => (j, none)
                      | (j, some n) => (j, some (q1, sg, n)) : Nat × Option (Nat × Nat × Nat)) = (j', some (q, sg, n)) := hq
                  cases h2 : siN (C (i + 1)) with
                  | none => rw [h2] at hq; cases hq
                  | some s1 =>
                    rw [h2] at hq
                    have hq : (match pNm C (i + 2) with
                      | (j, none) => (j, none)
                      | (j, some n) => (j, some (q1, s1, n)) : Nat × Option (Nat × Nat × Nat)) = (j', some (q, sg, n)) := hq
                    cases h3 : pNm C (i + 2) with
                    | mk u r =>
                      rw [h3] at hq
                      cases r with
                      | none => cases hq
                      | some n1 => cases hq; exact q9
              cases hp
              show tsB F q sg n = tsB F' q sg n
              unfold tsB
              rw [hF q q9]
    · rw [if_neg m0] at hp
      have two : ∀ (m1 m2 : Nat) (b : Int32) (op : ((Nat → Int32) → Bool) → ((Nat → Int32) → Bool) → (Nat → Int32) → Bool), (∀ A B : (Nat → Int32) → Bool, A F = A F' → B F = B F' → op A B F = op A B F') → (match prs C f m1 d i with
        | (j, none) => (j, none)
        | (j, some F) => if C j = b then match prs C f m2 d (j + 1) with
          | (k, none) => (k, none)
          | (k, some G) => (k, some (op F G)) else (j, some F) : Nat × Option ((Nat → Int32) → Bool)) = (j, some G) → G F = G F' := by
        intro m1 m2 b op hop hp
        cases hq : prs C f m1 d i with
        | mk j' r =>
          rw [hq] at hp
          cases r with
          | none => cases hp
          | some G1 =>
            have e1 := ih _ _ _ _ _ hq F F' hF
            have hp : (if C j' = b then match prs C f m2 d (j' + 1) with
              | (k, none) => (k, none)
              | (k, some G) => (k, some (op G1 G)) else (j', some G1) : Nat × Option ((Nat → Int32) → Bool)) = (j, some G) := hp
            by_cases c3 : C j' = b
            · rw [if_pos c3] at hp
              cases hq2 : prs C f m2 d (j' + 1) with
              | mk k r2 =>
                rw [hq2] at hp
                cases r2 with
                | none => cases hp
                | some G2 => cases hp; exact hop G1 G2 e1 (ih _ _ _ _ _ hq2 F F' hF)
            · rw [if_neg c3] at hp; cases hp; exact e1
      by_cases m1 : mode = 1
      · rw [if_pos m1] at hp
        exact two 0 1 38 (fun A B x => A x && B x) (fun A B a b => by show (A F && B F) = (A F' && B F'); rw [a, b]) hp
      · rw [if_neg m1] at hp
        exact two 1 2 124 (fun A B x => A x || B x) (fun A B a b => by show (A F || B F) = (A F' || B F'); rw [a, b]) hp
theorem pCl_loc {C : Nat → Int32} {i : Nat} {x : ClT} (h : (pCl C i).2 = some x) (F F' : Nat → Int32) (hF : ∀ k, k < 9 → F k = F' k) : x.2.2 F = x.2.2 F' := by
  unfold pCl at h
  cases hd : pHd C i with
  | mk k r =>
    rw [hd] at h
    cases r with
    | none => cases h
    | some wn =>
      obtain ⟨w, n⟩ := wn
      have h : (if w < 3 then (if C k = 32 then match prs C 320 2 0 (k + 1) with
        | (j, none) => (j, none)
        | (j, some F) => (j, some (w, n, F)) else (k, none)) else (k, some (w, n, fun _ => false)) : Nat × Option ClT).2 = some x := h
      by_cases c : w < 3
      · rw [if_pos c] at h
        by_cases c1 : C k = 32
        · rw [if_pos c1] at h
          cases hp : prs C 320 2 0 (k + 1) with
          | mk j r =>
            rw [hp] at h
            cases r with
            | none => cases h
            | some G =>
              have h : some (w, n, G) = some x := h
              cases h
              exact prs_loc _ _ _ _ _ _ hp F F' hF
        · rw [if_neg c1] at h; cases h
      · rw [if_neg c] at h
        have h : some (w, n, fun _ => false) = some x := h
        cases h
        rfl
theorem pLw_loc {C : Nat → Int32} {K : Nat} : ∀ (r i : Nat) (xs : List ClT), (pLw C K r i).2 = some xs → ∀ x, x ∈ xs → ∀ F F' : Nat → Int32, (∀ k, k < 9 → F k = F' k) → x.2.2 F = x.2.2 F'
  | 0, i, xs, h => by cases h
  | r + 1, i, xs, h => by
    rw [pLw_s] at h
    cases hp : pCl C i with
    | mk j o =>
      have hl := fun x => pCl_loc (C := C) (i := i) (x := x)
      rw [hp] at h hl
      cases o with
      | none => cases h
      | some y =>
        have hl := hl y rfl
        have h : (if j = K then (j, some [y]) else if r = 0 then (j, none) else if C j = 59 then match pLw C K r (j + 1) with
          | (q, none) => (q, none)
          | (q, some xs) => (q, some (y :: xs)) else (j, none) : Nat × Option (List ClT)).2 = some xs := h
        by_cases c1 : j = K
        · rw [if_pos c1] at h
          have h : [y] = xs := Option.some.inj h
          subst h
          intro x hx
          rw [List.mem_singleton.mp hx]; exact hl
        · rw [if_neg c1] at h
          by_cases c2 : r = 0
          · rw [if_pos c2] at h; cases h
          · rw [if_neg c2] at h
            by_cases c3 : C j = 59
            · rw [if_pos c3] at h
              have ih := pLw_loc (C := C) (K := K) r (j + 1)
              cases hp2 : pLw C K r (j + 1) with
              | mk q o =>
                rw [hp2] at h ih
                cases o with
                | none => cases h
                | some ys =>
                  have h : y :: ys = xs := Option.some.inj h
                  subst h
                  intro x hx
                  rcases List.mem_cons.mp hx with e | e
                  · rw [e]; exact hl
                  · exact ih ys rfl x e
            · rw [if_neg c3] at h; cases h
