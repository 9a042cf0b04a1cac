/-! PURE: the model reads an E, all of it -/
def mdl (f mode : Nat) (m : STt) (x : Int32) : Option STt := if mode = 0 then fX11_one f m x else if mode = 1 then fX11_both f m x else fX11_either f m x
def StM (C : Nat → Int32) (K N f : Nat) : Prop := ∀ (mode d i c : Nat) (m : STt), mode ≤ 2 → d ≤ 4 → 3 * (K - i) + mode < f → i ≤ K → c ≤ i → TxM m K N C → m.1 37 0 = nI i → m.1 38 0 = -1 → m.1 39 0 = nI c → OutM N c i m (prs C f mode d i) (mdl f mode m (nI d))
section MM
variable {C : Nat → Int32} {K N : Nat}
theorem m_one {f : Nat} (ih : StM C K N f) {d i c : Nat} {m : STt} (hd : d ≤ 4) (hf : 3 * (K - i) < f + 1) (hi : i ≤ K) (hci : c ≤ i) (h : TxM m K N C) (h37 : m.1 37 0 = nI i) (h38 : m.1 38 0 = -1) (h39 : m.1 39 0 = nI c) : OutM N c i m (prs C (f + 1) 0 d i) (fX11_one (f + 1) m (nI d)) := by
  have hK := h.1.1
  have hpr : prs C (f + 1) 0 d i = (if d < 4 ∧ C i = 33 then match prs C f 0 (d + 1) (i + 1) with
        | (j, none) => (j, none)
        | (j, some F) => (j, some (fun x => !(F x)))
      else if d < 4 ∧ C i = 40 then match prs C f 2 (d + 1) (i + 1) with
        | (j, none) => (j, none)
        | (j, some F) => if C j = 41 then (j + 1, some F) else (j, none)
      else match pTs C i with
        | (j, none) => (j, none)
        | (j, some (q, sg, n)) => (j, some (fun x => tsB x q sg n))) := by
    show (if 0 = 0 then _ else _) = _
    rw [if_pos rfl]
    rfl
  rw [hpr]
  show OutM N c i m _ (FX11_one (fX11_both f) (fX11_either f) (fX11_one f) m (nI d))
  unfold FX11_one fX11_one_j47
  rw [h38, if_pos (show (-1 : Int32) < 0 by decide)]
  by_cases c4 : d < 4
  · rw [if_neg (show ¬ (4 : Int32) ≤ nI d from nI_ge (b := 4) c4 (by omega)), if_neg (show ¬ (4 : Int32) ≤ nI d from nI_ge (b := 4) c4 (by omega)), m_here h hi h37 h38 (by decide), m_here h hi h37 h38 (by decide), b_if, b_if, h37, nI_1, nI_1]
    have hj := TxM_F h (FpM_S (100 * N + c) m (c := 37) (by omega) (nI (i + 1)))
    have f1 := FpM_S (100 * N + c) m (c := 37) (by omega) (nI (i + 1))
    by_cases c33 : C i = 33
    · have k1 := tx_in h.1 c33 (by decide)
      rw [if_pos ⟨c4, c33⟩, if_pos c33]
      obtain ⟨r1, r2⟩ := ih 0 (d + 1) (i + 1) c (sS m 37 0 (nI (i + 1))) (by omega) (by omega) (by omega) (by omega) (by omega) hj (sS_s _ _ _ _) (by rw [sS_n _ _ (by omega)]; exact h38) (by rw [sS_n _ _ (by omega)]; exact h39)
      obtain ⟨pb1, pb2⟩ := prs_b h.1 f 0 (d + 1) (i + 1) (by omega)
      have r1 : _ → ∃ m' c', fX11_one f (sS m 37 0 (nI (i + 1))) (nI (d + 1)) = some m' ∧ _ := r1
      have r2 : ∀ F, _ → ∃ m' l, fX11_one f (sS m 37 0 (nI (i + 1))) (nI (d + 1)) = some m' ∧ _ := r2
      cases hp : prs C f 0 (d + 1) (i + 1) with
      | mk j r =>
        rw [hp] at r1 r2 pb1 pb2
        have pb2 : j ≤ K := pb2
        cases r with
        | none =>
          obtain ⟨m1, c1, a1, a2, a3, a4, a5, a6, a7⟩ := r1 rfl
          have a7 : c1 + (i + 1) ≤ j + c := a7
          obtain ⟨m2, b1, b2, b3, b4, b5⟩ := m_layF (C := C) (K := K) (TxM_F hj a2) (f1.tr a2 (Nat.le_refl _)) a5 a6 (by omega) 1
          refine ⟨fun _ => ⟨m2, c1 + 1, ?_, b2, b3.trans a3, b4.trans a4, b5, by omega, by show c1 + 1 + i ≤ j + c; omega⟩, fun F hF => (by cases hF)⟩
          have b1 : fX11_lay m1 1 = some m2 := b1
          rw [a1, bnd1_e, b1, bnd1_e]
        | some G =>
          obtain ⟨m1, l, a1, a2, a3, a4, a5, a6, a7, a8⟩ := r2 G rfl
          have a6 : l.length + (i + 1) ≤ j := a6
          obtain ⟨m2, b1, b2, b3, b4, b5, b6⟩ := m_layO (C := C) (K := K) (i := 0) (i1 := 0) (c1 := 0) (j := 0) (l0 := []) (TxM_F hj a2) (f1.tr a2 (Nat.le_refl _)) a7 a5 (by omega) tkN (by decide) (by decide)
          refine ⟨fun hn => (by cases hn), fun F hF => ?_⟩
          have hF : (fun x => !(G x)) = F := Option.some.inj hF
          subst hF
          refine ⟨m2, l ++ [tkN], ?_, b2, b3.trans a3, b4.trans a4, b5, ?_, b6, gm_not a8⟩
          · have b1 : fX11_lay m1 1 = some m2 := b1
            rw [a1, bnd1_e, b1, bnd1_e]
          · rw [List.length_append]; show l.length + 1 + i ≤ j; omega
    · rw [if_neg (fun q => c33 q.2), if_neg c33]
      by_cases c40 : C i = 40
      · have k1 := tx_in h.1 c40 (by decide)
        rw [if_pos ⟨c4, c40⟩, if_pos c40]
        obtain ⟨r1, r2⟩ := ih 2 (d + 1) (i + 1) c (sS m 37 0 (nI (i + 1))) (by omega) (by omega) (by omega) (by omega) (by omega) hj (sS_s _ _ _ _) (by rw [sS_n _ _ (by omega)]; exact h38) (by rw [sS_n _ _ (by omega)]; exact h39)
        obtain ⟨pb1, pb2⟩ := prs_b h.1 f 2 (d + 1) (i + 1) (by omega)
        have r1 : _ → ∃ m' c', fX11_either f (sS m 37 0 (nI (i + 1))) (nI (d + 1)) = some m' ∧ _ := r1
        have r2 : ∀ F, _ → ∃ m' l, fX11_either f (sS m 37 0 (nI (i + 1))) (nI (d + 1)) = some m' ∧ _ := r2
        unfold fX11_takes
        cases hp : prs C f 2 (d + 1) (i + 1) with
        | mk j r =>
          rw [hp] at r1 r2 pb1 pb2
          have pb1 : i + 1 ≤ j := pb1
          have pb2 : j ≤ K := pb2
          cases r with
          | none =>
            obtain ⟨m1, c1, a1, a2, a3, a4, a5, a6, a7⟩ := r1 rfl
            have a4 : m1.1 38 0 = nI j := a4
            have a7 : c1 + (i + 1) ≤ j + c := a7
            refine ⟨fun _ => ⟨m1, c1, ?_, f1.tr a2 (Nat.le_refl _), a3, a4, a5, a6, by show c1 + i ≤ j + c; omega⟩, fun F hF => (by cases hF)⟩
            rw [a1, bnd1_e, m_hereF (by omega) a4, bnd1_e, if_pos rfl, m_faultyF (by omega) a4, bnd1_e, bnd1_e]
          | some G =>
            obtain ⟨m1, l, a1, a2, a3, a4, a5, a6, a7, a8⟩ := r2 G rfl
            have a3 : m1.1 37 0 = nI j := a3
            have a6 : l.length + (i + 1) ≤ j := a6
            have h1 := TxM_F hj a2
            rw [a1, bnd1_e, m_here h1 pb2 a3 a4 (by decide), b_if, m_faulty a4 a3, bnd1_e, a3, nI_1]
            show OutM N c i m (if C j = 41 then (j + 1, some G) else (j, none)) _
            by_cases c41 : C j = 41
            · rw [if_pos c41, if_pos c41, bnd1_e]
              have f3 := FpM_S (100 * N + c + l.length) m1 (c := 37) (by omega) (nI (j + 1))
              refine ⟨fun hn => (by cases hn), fun F hF => ?_⟩
              have hF : G = F := Option.some.inj hF
              subst hF
              exact ⟨_, l, rfl, f1.tr (a2.tr f3 (by omega)) (Nat.le_refl _), sS_s _ _ _ _, by rw [sS_n _ _ (by omega)]; exact a4, by rw [sS_n _ _ (by omega)]; exact a5, by show l.length + i ≤ j + 1; omega, HdM_c f3 l _ (Nat.le_refl _) a7, a8⟩
            · rw [if_neg c41, if_neg c41, bnd1_e]
              exact ⟨fun _ => ⟨_, c + l.length, rfl, f1.tr (a2.tr (FpM_S _ m1 (c := 38) (by omega) (nI j)) (Nat.le_refl _)) (Nat.le_refl _), by rw [sS_n _ _ (by omega)]; exact a3, sS_s _ _ _ _, by rw [sS_n _ _ (by omega)]; exact a5, by omega, by show c + l.length + i ≤ j + c; omega⟩, fun F hF => (by cases hF)⟩
      · rw [if_neg (fun q => c40 q.2), if_neg c40]
        exact m_test h hi hci h37 h38 h39
  · rw [if_neg (fun q => c4 q.1), if_neg (fun q => c4 q.1), if_pos (show (4 : Int32) ≤ nI d from nI_le (a := 4) (by omega) (by omega)), if_pos (show (4 : Int32) ≤ nI d from nI_le (a := 4) (by omega) (by omega))]
    exact m_test h hi hci h37 h38 h39
theorem m_both {f : Nat} (ih : StM C K N f) {d i c : Nat} {m : STt} (hd : d ≤ 4) (hf : 3 * (K - i) + 1 < f + 1) (hi : i ≤ K) (hci : c ≤ i) (h : TxM m K N C) (h37 : m.1 37 0 = nI i) (h38 : m.1 38 0 = -1) (h39 : m.1 39 0 = nI c) : OutM N c i m (prs C (f + 1) 1 d i) (fX11_both (f + 1) m (nI d)) := by
  have hK := h.1.1
  have hpr : prs C (f + 1) 1 d i = (match prs C f 0 d i with
      | (j, none) => (j, none)
      | (j, some F) => if C j = 38 then match prs C f 1 d (j + 1) with
        | (k, none) => (k, none)
        | (k, some G) => (k, some (fun x => F x && G x)) else (j, some F)) := by
    show (if 1 = 0 then _ else if 1 = 1 then _ else _) = _
    rw [if_neg (by omega), if_pos rfl]
    rfl
  rw [hpr]
  show OutM N c i m _ (FX11_both (fX11_both f) (fX11_either f) (fX11_one f) m (nI d))
  unfold FX11_both
  obtain ⟨r1, r2⟩ := ih 0 d i c m (by omega) hd (by omega) hi hci h h37 h38 h39
  obtain ⟨pb1, pb2⟩ := prs_b h.1 f 0 d i hi
  have pbs := prs_s h.1 f 0 d i
  have r1 : _ → ∃ m' c', fX11_one f m (nI d) = some m' ∧ _ := r1
  have r2 : ∀ F, _ → ∃ m' l, fX11_one f m (nI d) = some m' ∧ _ := r2
  cases hp : prs C f 0 d i with
  | mk j r =>
    rw [hp] at r1 r2 pb1 pb2
    have pb2 : j ≤ K := pb2
    cases r with
    | none =>
      obtain ⟨m1, c1, a1, a2, a3, a4, a5, a6, a7⟩ := r1 rfl
      have a4 : m1.1 38 0 = nI j := a4
      refine ⟨fun _ => ⟨m1, c1, ?_, a2, a3, a4, a5, a6, a7⟩, fun F hF => (by cases hF)⟩
      rw [a1, bnd1_e, m_hereF (by omega) a4, bnd1_e, if_pos rfl]
    | some F1 =>
      have hij := pbs j F1 hi hp
      obtain ⟨m1, l1, a1, a2, a3, a4, a5, a6, a7, a8⟩ := r2 F1 rfl
      have a3 : m1.1 37 0 = nI j := a3
      have a6 : l1.length + i ≤ j := a6
      have h1 := TxM_F h a2
      rw [a1, bnd1_e, m_here h1 pb2 a3 a4 (by decide), b_if, a3, nI_1]
      show OutM N c i m (if C j = 38 then match prs C f 1 d (j + 1) with
        | (k, none) => (k, none)
        | (k, some G) => (k, some (fun x => F1 x && G x)) else (j, some F1)) _
      by_cases cs : C j = 38
      · have k1 := tx_in h.1 cs (by decide)
        rw [if_pos cs, if_pos cs]
        have fj := FpM_S (100 * N + (c + l1.length)) m1 (c := 37) (by omega) (nI (j + 1))
        have h2 := TxM_F h1 fj
        have f12 : FpM (100 * N + c) m (sS m1 37 0 (nI (j + 1))) := a2.tr fj (by omega)
        obtain ⟨s1, s2⟩ := ih 1 d (j + 1) (c + l1.length) (sS m1 37 0 (nI (j + 1))) (by omega) hd (by omega) (by omega) (by omega) h2 (sS_s _ _ _ _) (by rw [sS_n _ _ (by omega)]; exact a4) (by rw [sS_n _ _ (by omega)]; exact a5)
        obtain ⟨qb1, qb2⟩ := prs_b h.1 f 1 d (j + 1) (by omega)
        have s1 : _ → ∃ m' c', fX11_both f (sS m1 37 0 (nI (j + 1))) (nI d) = some m' ∧ _ := s1
        have s2 : ∀ F, _ → ∃ m' l, fX11_both f (sS m1 37 0 (nI (j + 1))) (nI d) = some m' ∧ _ := s2
        cases hp2 : prs C f 1 d (j + 1) with
        | mk k r' =>
          rw [hp2] at s1 s2 qb1 qb2
          have qb2 : k ≤ K := qb2
          cases r' with
          | none =>
            obtain ⟨m2, c2, b1, b2, b3, b4, b5, b6, b7⟩ := s1 rfl
            have b7 : c2 + (j + 1) ≤ k + (c + l1.length) := b7
            obtain ⟨m3, d1, d2, d3, d4, d5⟩ := m_layF (C := C) (K := K) (TxM_F h2 b2) (f12.tr b2 (by omega)) b5 (by omega) (by omega) 2
            refine ⟨fun _ => ⟨m3, c2 + 1, ?_, d2, d3.trans b3, d4.trans b4, d5, by omega, by show c2 + 1 + i ≤ k + c; omega⟩, fun F hF => (by cases hF)⟩
            have d1 : fX11_lay m2 2 = some m3 := d1
            rw [b1, bnd1_e, d1, bnd1_e]
          | some G =>
            obtain ⟨m2, l2, b1, b2, b3, b4, b5, b6, b7, b8⟩ := s2 G rfl
            have b6 : l2.length + (j + 1) ≤ k := b6
            have e12 : c + l1.length + l2.length = c + (l1 ++ l2).length := by rw [List.length_append]; omega
            have hd12 : HdM m2 (100 * N + c) (l1 ++ l2) := HdM_app _ _ _ _ (HdM_c (fj.tr b2 (Nat.le_refl _)) l1 _ (by omega) a7) (by rw [show 100 * N + c + l1.length = 100 * N + (c + l1.length) by omega]; exact b7)
            obtain ⟨m3, d1, d2, d3, d4, d5, d6⟩ := m_layO (C := C) (K := K) (i := 0) (i1 := 0) (c1 := 0) (j := 0) (l0 := []) (TxM_F h2 b2) (f12.tr b2 (by omega)) hd12 (by rw [← e12]; exact b5) (by rw [← e12]; omega) tkA (by decide) (by decide)
            refine ⟨fun hn => (by cases hn), fun F hF => ?_⟩
            have hF : (fun x => F1 x && G x) = F := Option.some.inj hF
            subst hF
            refine ⟨m3, l1 ++ l2 ++ [tkA], ?_, d2, d3.trans b3, d4.trans b4, d5, ?_, d6, ?_⟩
            · have d1 : fX11_lay m2 2 = some m3 := d1
              rw [b1, bnd1_e, d1, bnd1_e]
            · rw [List.length_append, List.length_append]; show l1.length + l2.length + 1 + i ≤ k; omega
            · rw [List.append_assoc]; exact (gm_op a8 b8).1
      · rw [if_neg cs, if_neg cs]
        refine ⟨fun hn => (by cases hn), fun F hF => ?_⟩
        have hF : F1 = F := Option.some.inj hF
        subst hF
        exact ⟨m1, l1, rfl, a2, a3, a4, a5, a6, a7, a8⟩
theorem m_either {f : Nat} (ih : StM C K N f) {d i c : Nat} {m : STt} (hd : d ≤ 4) (hf : 3 * (K - i) + 2 < f + 1) (hi : i ≤ K) (hci : c ≤ i) (h : TxM m K N C) (h37 : m.1 37 0 = nI i) (h38 : m.1 38 0 = -1) (h39 : m.1 39 0 = nI c) : OutM N c i m (prs C (f + 1) 2 d i) (fX11_either (f + 1) m (nI d)) := by
  have hK := h.1.1
  have hpr : prs C (f + 1) 2 d i = (match prs C f 1 d i with
      | (j, none) => (j, none)
      | (j, some F) => if C j = 124 then match prs C f 2 d (j + 1) with
        | (k, none) => (k, none)
        | (k, some G) => (k, some (fun x => F x || G x)) else (j, some F)) := by
    show (if 2 = 0 then _ else if 2 = 1 then _ else _) = _
    rw [if_neg (by omega), if_neg (by omega)]
    rfl
  rw [hpr]
  show OutM N c i m _ (FX11_either (fX11_both f) (fX11_either f) (fX11_one f) m (nI d))
  unfold FX11_either
  obtain ⟨r1, r2⟩ := ih 1 d i c m (by omega) hd (by omega) hi hci h h37 h38 h39
  obtain ⟨pb1, pb2⟩ := prs_b h.1 f 1 d i hi
  have pbs := prs_s h.1 f 1 d i
  have r1 : _ → ∃ m' c', fX11_both f m (nI d) = some m' ∧ _ := r1
  have r2 : ∀ F, _ → ∃ m' l, fX11_both f m (nI d) = some m' ∧ _ := r2
  cases hp : prs C f 1 d i with
  | mk j r =>
    rw [hp] at r1 r2 pb1 pb2
    have pb2 : j ≤ K := pb2
    cases r with
    | none =>
      obtain ⟨m1, c1, a1, a2, a3, a4, a5, a6, a7⟩ := r1 rfl
      have a4 : m1.1 38 0 = nI j := a4
      refine ⟨fun _ => ⟨m1, c1, ?_, a2, a3, a4, a5, a6, a7⟩, fun F hF => (by cases hF)⟩
      rw [a1, bnd1_e, m_hereF (by omega) a4, bnd1_e, if_pos rfl]
    | some F1 =>
      have hij := pbs j F1 hi hp
      obtain ⟨m1, l1, a1, a2, a3, a4, a5, a6, a7, a8⟩ := r2 F1 rfl
      have a3 : m1.1 37 0 = nI j := a3
      have a6 : l1.length + i ≤ j := a6
      have h1 := TxM_F h a2
      rw [a1, bnd1_e, m_here h1 pb2 a3 a4 (by decide), b_if, a3, nI_1]
      show OutM N c i m (if C j = 124 then match prs C f 2 d (j + 1) with
        | (k, none) => (k, none)
        | (k, some G) => (k, some (fun x => F1 x || G x)) else (j, some F1)) _
      by_cases cs : C j = 124
      · have k1 := tx_in h.1 cs (by decide)
        rw [if_pos cs, if_pos cs]
        have fj := FpM_S (100 * N + (c + l1.length)) m1 (c := 37) (by omega) (nI (j + 1))
        have h2 := TxM_F h1 fj
        have f12 : FpM (100 * N + c) m (sS m1 37 0 (nI (j + 1))) := a2.tr fj (by omega)
        obtain ⟨s1, s2⟩ := ih 2 d (j + 1) (c + l1.length) (sS m1 37 0 (nI (j + 1))) (by omega) hd (by omega) (by omega) (by omega) h2 (sS_s _ _ _ _) (by rw [sS_n _ _ (by omega)]; exact a4) (by rw [sS_n _ _ (by omega)]; exact a5)
        obtain ⟨qb1, qb2⟩ := prs_b h.1 f 2 d (j + 1) (by omega)
        have s1 : _ → ∃ m' c', fX11_either f (sS m1 37 0 (nI (j + 1))) (nI d) = some m' ∧ _ := s1
        have s2 : ∀ F, _ → ∃ m' l, fX11_either f (sS m1 37 0 (nI (j + 1))) (nI d) = some m' ∧ _ := s2
        cases hp2 : prs C f 2 d (j + 1) with
        | mk k r' =>
          rw [hp2] at s1 s2 qb1 qb2
          have qb2 : k ≤ K := qb2
          cases r' with
          | none =>
            obtain ⟨m2, c2, b1, b2, b3, b4, b5, b6, b7⟩ := s1 rfl
            have b7 : c2 + (j + 1) ≤ k + (c + l1.length) := b7
            obtain ⟨m3, d1, d2, d3, d4, d5⟩ := m_layF (C := C) (K := K) (TxM_F h2 b2) (f12.tr b2 (by omega)) b5 (by omega) (by omega) 3
            refine ⟨fun _ => ⟨m3, c2 + 1, ?_, d2, d3.trans b3, d4.trans b4, d5, by omega, by show c2 + 1 + i ≤ k + c; omega⟩, fun F hF => (by cases hF)⟩
            have d1 : fX11_lay m2 3 = some m3 := d1
            rw [b1, bnd1_e, d1, bnd1_e]
          | some G =>
            obtain ⟨m2, l2, b1, b2, b3, b4, b5, b6, b7, b8⟩ := s2 G rfl
            have b6 : l2.length + (j + 1) ≤ k := b6
            have e12 : c + l1.length + l2.length = c + (l1 ++ l2).length := by rw [List.length_append]; omega
            have hd12 : HdM m2 (100 * N + c) (l1 ++ l2) := HdM_app _ _ _ _ (HdM_c (fj.tr b2 (Nat.le_refl _)) l1 _ (by omega) a7) (by rw [show 100 * N + c + l1.length = 100 * N + (c + l1.length) by omega]; exact b7)
            obtain ⟨m3, d1, d2, d3, d4, d5, d6⟩ := m_layO (C := C) (K := K) (i := 0) (i1 := 0) (c1 := 0) (j := 0) (l0 := []) (TxM_F h2 b2) (f12.tr b2 (by omega)) hd12 (by rw [← e12]; exact b5) (by rw [← e12]; omega) tkO (by decide) (by decide)
            refine ⟨fun hn => (by cases hn), fun F hF => ?_⟩
            have hF : (fun x => F1 x || G x) = F := Option.some.inj hF
            subst hF
            refine ⟨m3, l1 ++ l2 ++ [tkO], ?_, d2, d3.trans b3, d4.trans b4, d5, ?_, d6, ?_⟩
            · have d1 : fX11_lay m2 3 = some m3 := d1
              rw [b1, bnd1_e, d1, bnd1_e]
            · rw [List.length_append, List.length_append]; show l1.length + l2.length + 1 + i ≤ k; omega
            · rw [List.append_assoc]; exact (gm_op a8 b8).2
      · rw [if_neg cs, if_neg cs]
        refine ⟨fun hn => (by cases hn), fun F hF => ?_⟩
        have hF : F1 = F := Option.some.inj hF
        subst hF
        exact ⟨m1, l1, rfl, a2, a3, a4, a5, a6, a7, a8⟩
theorem m_RD : ∀ f, StM C K N f := by
  intro f
  induction f with
  | zero => intro mode d i c m h1 h2 h3; omega
  | succ f ih =>
    intro mode d i c m h1 h2 h3 hi hci h h37 h38 h39
    have e : mode = 0 ∨ mode = 1 ∨ mode = 2 := by omega
    rcases e with rfl | rfl | rfl
    · exact m_one ih h2 (by omega) hi hci h h37 h38 h39
    · exact m_both ih h2 (by omega) hi hci h h37 h38 h39
    · exact m_either ih h2 (by omega) hi hci h h37 h38 h39
end MM
