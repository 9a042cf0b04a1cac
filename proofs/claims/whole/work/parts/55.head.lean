/-! PURE: heads of clauses, both sides -/
theorem mtW_K {C : Nat → Int32} {K : Nat} (h : TxE C K) : ∀ (L : List Int32) (i : Nat), (∀ x, x ∈ L → x ≠ -1) → i ≤ K → i + mtW C i L ≤ K
  | [], i, _, hi => hi
  | x :: L, i, hx, hi => by
    show i + (if C i = x then mtW C (i + 1) L + 1 else 0) ≤ K
    by_cases c : C i = x
    · have k := tx_in h c (hx x (List.mem_cons_self ..))
      have := mtW_K h L (i + 1) (fun y hy => hx y (List.mem_cons_of_mem _ hy)) (by omega)
      rw [if_pos c]; omega
    · rw [if_neg c]; omega
theorem wd_no : ∀ w, w < 7 → ∀ x, x ∈ wdL w → x ≠ -1 := by
  intro w hw
  have e : w = 0 ∨ w = 1 ∨ w = 2 ∨ w = 3 ∨ w = 4 ∨ w = 5 ∨ w = 6 := by omega
  rcases e with rfl | rfl | rfl | rfl | rfl | rfl | rfl <;> decide
theorem wd_len : ∀ w, w < 7 → 0 < (wdL w).length ∧ (wdL w).length ≤ 4 := by
  intro w hw
  have e : w = 0 ∨ w = 1 ∨ w = 2 ∨ w = 3 ∨ w = 4 ∨ w = 5 ∨ w = 6 := by omega
  rcases e with rfl | rfl | rfl | rfl | rfl | rfl | rfl <;> decide
theorem clW_b {C : Nat → Int32} {K i : Nat} (h : TxE C K) (hi : i ≤ K) : ∀ (r most w : Nat), i + most ≤ K → w + r = 7 → i ≤ (clW C i r most w).1 ∧ (clW C i r most w).1 ≤ K ∧ ∀ w', (clW C i r most w).2 = some w' → w' < 7 ∧ i < (clW C i r most w).1
  | 0, most, w, hm, _ => ⟨by show i ≤ i + most; omega, hm, fun w' hw => (by cases hw)⟩
  | r + 1, most, w, hm, hw => by
    have k := mtW_K h (wdL w) i (wd_no w (by omega)) hi
    have l := wd_len w (by omega)
    unfold clW
    by_cases c : mtW C i (wdL w) = (wdL w).length
    · rw [if_pos c]
      refine ⟨by show i ≤ i + (wdL w).length; omega, by show i + (wdL w).length ≤ K; omega, fun w' hw' => ?_⟩
      have hw' : w = w' := Option.some.inj hw'
      exact ⟨by omega, by show i < i + (wdL w).length; omega⟩
    · rw [if_neg c]
      exact clW_b h hi r (max most (mtW C i (wdL w))) (w + 1) (by omega) (by omega)
theorem hd_b {C : Nat → Int32} {K i : Nat} (h : TxE C K) (hi : i ≤ K) : i ≤ (hdC C i).1 ∧ (hdC C i).1 ≤ K ∧ ∀ w, (hdC C i).2 = some w → w < 7 ∧ i < (hdC C i).1 := by
  obtain ⟨b1, b2, b3⟩ := clW_b h hi 7 0 0 hi rfl
  unfold hdC
  cases hp : clW C i 7 0 0 with
  | mk j r =>
    rw [hp] at b1 b2 b3
    have b1 : i ≤ j := b1
    have b2 : j ≤ K := b2
    cases r with
    | none => exact ⟨b1, b2, fun w hw => (by cases hw)⟩
    | some w =>
      obtain ⟨b4, b5⟩ := b3 w rfl
      have b5 : i < j := b5
      show i ≤ (if C j = 32 then (j + 1, some w) else (j, none) : Nat × Option Nat).1 ∧ (if C j = 32 then (j + 1, some w) else (j, none) : Nat × Option Nat).1 ≤ K ∧ ∀ w', (if C j = 32 then (j + 1, some w) else (j, none) : Nat × Option Nat).2 = some w' → w' < 7 ∧ i < (if C j = 32 then (j + 1, some w) else (j, none) : Nat × Option Nat).1
      by_cases c : C j = 32
      · have k := tx_in h c (by decide)
        rw [if_pos c]
        refine ⟨by show i ≤ j + 1; omega, by show j + 1 ≤ K; omega, fun w' hw => ?_⟩
        have hw : w = w' := Option.some.inj hw
        subst hw
        exact ⟨b4, by show i < j + 1; omega⟩
      · rw [if_neg c]
        exact ⟨b1, b2, fun w hw => (by cases hw)⟩
theorem len_tab : ∀ w : Fin 7, fJ0_length_8abf5 gZ w.val = some (nI (wdL w.val).length) := by decide +kernel
theorem chr_tab : ∀ (w : Fin 7) (k : Fin 4), k.val < (wdL w.val).length → fJ0_charAt_5068e gZ w.val (nI k.val) = some ((wdL w.val).getD k.val 0) := by decide +kernel
theorem len_g (g : STt) (d : Nat) : fJ0_length_8abf5 g d = fJ0_length_8abf5 gZ d := rfl
theorem chr_g (g : STt) (d : Nat) (x : Int32) : fJ0_charAt_5068e g d x = fJ0_charAt_5068e gZ d x := rfl
theorem c_inner {g : STt} {K i : Nat} {C : Nat → Int32} (h : TxC g K C) (hi : i ≤ K) (h6 : g.1 6 0 = nI i) (K4 : (Int32 × Int32) → Option (STt × Int32)) (l1 l2 : Int32) {w : Nat} (hw : w < 7) : ∀ (M : List Int32) (k fu : Nat), k + M.length = (wdL w).length → (∀ t, t < M.length → (wdL w).getD (k + t) 0 = M.getD t 0) → M.length < fu → iterO (fun Q z => fX7_readWord_l18c K4 Q g l1 l2 w z) fu (nI k) = fX7_readWord_j56 K4 g l1 l2 w (nI (k + mtW C (i + k) M)) := by
  have hK := h.1.1
  have hl4 := (wd_len w hw).2
  intro M
  induction M with
  | nil =>
    intro k fu hk hM hf
    obtain ⟨fu, rfl⟩ : ∃ j, fu = j + 1 := ⟨fu - 1, by omega⟩
    rw [iterO_succ]
    show fX7_readWord_l18c K4 _ g l1 l2 w (nI k) = fX7_readWord_j56 K4 g l1 l2 w (nI (k + 0))
    have hlen : fJ0_length_8abf5 gZ w = some (nI (wdL w).length) := len_tab ⟨w, hw⟩
    have hk : k + 0 = (wdL w).length := hk
    unfold fX7_readWord_l18c
    rw [len_g, hlen, bnd1_e, if_pos (nI_le (by omega) (by omega))]
    rfl
  | cons x M ih =>
    intro k fu hk hM hf
    obtain ⟨fu, rfl⟩ : ∃ j, fu = j + 1 := ⟨fu - 1, by omega⟩
    rw [List.length_cons] at hk hf
    have hlen : fJ0_length_8abf5 gZ w = some (nI (wdL w).length) := len_tab ⟨w, hw⟩
    have hchr := chr_tab ⟨w, hw⟩ ⟨k, by omega⟩ (by show k < (wdL w).length; omega)
    have hx : (wdL w).getD k 0 = x := hM 0 (by rw [List.length_cons]; omega)
    have hchr : fJ0_charAt_5068e gZ w (nI k) = some x := by rw [← hx]; exact hchr
    have ih := ih (k + 1) fu (by omega) (fun t ht => by
      have := hM (t + 1) (by rw [List.length_cons]; omega)
      rw [show k + 1 + t = k + (t + 1) by omega]; exact this) (by omega)
    rw [iterO_succ]
    generalize iterO (fun Q z => fX7_readWord_l18c K4 Q g l1 l2 w z) fu = Q at ih ⊢
    show fX7_readWord_l18c K4 Q g l1 l2 w (nI k) = fX7_readWord_j56 K4 g l1 l2 w (nI (k + (if C (i + k) = x then mtW C (i + k + 1) M + 1 else 0)))
    unfold fX7_readWord_l18c
    rw [len_g, hlen, bnd1_e, if_neg (nI_ge (show k < (wdL w).length by omega) (by omega)), h6, nI_add, c_get0 h (by omega), bnd1_e, chr_g, hchr, bnd1_e]
    by_cases c : C (i + k) = x
    · rw [if_pos c, if_pos c, nI_1]
      refine ih.trans ?_
      · rw [show i + (k + 1) = i + k + 1 by omega, show k + 1 + mtW C (i + k + 1) M = k + (mtW C (i + k + 1) M + 1) by omega]
    · rw [if_neg c, if_neg c, Nat.add_zero]
theorem c_words {g : STt} {K i : Nat} {C : Nat → Int32} (h : TxC g K C) (hi : i ≤ K) (h6 : g.1 6 0 = nI i) : ∀ (r most w fu : Nat), w + r = 7 → r < fu → most ≤ 4 → iterO (fun Q z => fX7_readWord_l4c Q g z.1 z.2) fu (nI most, nI w) = some (sS g 6 0 (nI (clW C i r most w).1), oI (clW C i r most w).2) := by
  have hK := h.1.1
  intro r
  induction r with
  | zero =>
    intro most w fu hw hf hm
    obtain ⟨fu, rfl⟩ : ∃ j, fu = j + 1 := ⟨fu - 1, by omega⟩
    have e : w = 7 := by omega
    subst e
    rw [iterO_succ]
    show fX7_readWord_l4c _ g (nI most) (nI 7) = some (sS g 6 0 (nI (i + most)), -1)
    unfold fX7_readWord_l4c
    rw [if_pos (by decide), h6, nI_add]
  | succ r ih =>
    intro most w fu hw hf hm
    obtain ⟨fu, rfl⟩ : ∃ j, fu = j + 1 := ⟨fu - 1, by omega⟩
    have hw7 : w < 7 := by omega
    have hl := wd_len w hw7
    have hmt := mtW_le C (wdL w) i
    have hlen : fJ0_length_8abf5 gZ w = some (nI (wdL w).length) := len_tab ⟨w, hw7⟩
    have ih := ih (max most (mtW C i (wdL w))) (w + 1) fu (by omega) (by omega) (by omega)
    rw [iterO_succ]
    generalize iterO (fun Q z => fX7_readWord_l4c Q g z.1 z.2) fu = Q at ih ⊢
    show fX7_readWord_l4c Q g (nI most) (nI w) = _
    have hword : fX7_wordOf g (nI w) = some w := by
      have e : w = 0 ∨ w = 1 ∨ w = 2 ∨ w = 3 ∨ w = 4 ∨ w = 5 ∨ w = 6 := by omega
      rcases e with rfl | rfl | rfl | rfl | rfl | rfl | rfl <;> rfl
    have hin := c_inner h hi h6 Q (nI most) (nI w) hw7 (wdL w) 0 fuelN (by omega) (fun t _ => by rw [Nat.zero_add]) (by show _ < 5000; omega)
    rw [Nat.zero_add, Nat.add_zero] at hin
    unfold fX7_readWord_l4c
    rw [if_neg (show ¬ (6 : Int32) < nI w from nI_nlt (a := 6) (by omega) (by omega)), hword, bnd1_e, if_pos (by omega)]
    unfold fX7_readWord_l18
    refine hin.trans ?_
    unfold fX7_readWord_j56 clW
    rw [len_g, hlen, bnd1_e]
    by_cases c : mtW C i (wdL w) = (wdL w).length
    · rw [if_pos c, c, if_pos rfl, h6, nI_add]
      rfl
    · rw [if_neg c, if_neg (fun q => c ((nI_eq (by omega) (by omega)).mp q)), nI_1]
      have hmax : (if nI most < nI (mtW C i (wdL w)) then nI (mtW C i (wdL w)) else nI most) = nI (max most (mtW C i (wdL w))) := by
        by_cases q : most < mtW C i (wdL w)
        · rw [if_pos (nI_lt q (by omega)), Nat.max_eq_right (by omega)]
        · rw [if_neg (nI_nlt (by omega) (by omega)), Nat.max_eq_left (by omega)]
      rw [hmax]
      exact ih
/-- a head: its word, its n, and where it ends -/
def pHd (C : Nat → Int32) (i : Nat) : Nat × Option (Nat × Nat) := match hdC C i with
  | (j, none) => (j, none)
  | (j, some w) => match pNm C j with
    | (k, none) => (k, none)
    | (k, some n) => (k, some (w, n))
theorem c_headW {g : STt} {K i : Nat} {C : Nat → Int32} (h : TxC g K C) (hi : i ≤ K) (h6 : g.1 6 0 = nI i) (L : Nat) : ((pHd C i).2 = none → fX7_readHead g L = some (sS g 6 0 (nI (pHd C i).1), -1)) ∧ (∀ w n, (pHd C i).2 = some (w, n) → fX7_readHead g L = bnd1 (fX2_beginClause (sS g 6 0 (nI (pHd C i).1)) L (nI w) (nI n)) fun g_14 => some (g_14, nI w)) := by
  have hK := h.1.1
  have hw := c_words h hi h6 7 0 0 fuelN (by omega) (by decide) (by omega)
  have hw : fX7_readWord g = some (sS g 6 0 (nI (clW C i 7 0 0).1), oI (clW C i 7 0 0).2) := hw
  obtain ⟨b1, b2, b3⟩ := clW_b h.1 hi 7 0 0 hi rfl
  unfold fX7_readHead
  rw [hw, bnd_e]
  cases hp : clW C i 7 0 0 with
  | mk j r =>
    rw [hp] at b1 b2 b3
    have b2 : j ≤ K := b2
    cases r with
    | none =>
      have e : pHd C i = (j, none) := by unfold pHd hdC; rw [hp]
      rw [e]
      refine ⟨fun _ => ?_, fun w n hn => (by cases hn)⟩
      show (if oI none < 0 then some (sS g 6 0 (nI j), -1) else _) = some (sS g 6 0 (nI j), -1)
      rw [oI_none, if_pos (by decide)]
    | some w =>
      obtain ⟨w7, -⟩ := b3 w rfl
      have h1 := TxC_F h (FpC_6 0 0 g (nI j))
      have run : ∀ A : Option (STt × Int32), (if oI (some w) < 0 then A else (bnd (fX7_next (sS g 6 0 (nI j)) 32) fun g_6 r_7 => (if r_7 = 0 then (some (g_6, (-1))) else (bnd (fX7_readNumber g_6) fun g_10 r_11 => (if 0 ≤ r_11 then (bnd1 (fX2_beginClause g_10 L (nI w) r_11) fun g_14 => (some (g_14, nI w))) else (some (g_10, (-1)))))))) = (bnd (if C j = 32 then some (sS (sS g 6 0 (nI j)) 6 0 (nI (j + 1)), (1 : Int32)) else some (sS g 6 0 (nI j), (0 : Int32))) fun g_6 r_7 => (if r_7 = 0 then (some (g_6, (-1))) else (bnd (fX7_readNumber g_6) fun g_10 r_11 => (if 0 ≤ r_11 then (bnd1 (fX2_beginClause g_10 L (nI w) r_11) fun g_14 => (some (g_14, nI w))) else (some (g_10, (-1))))))) := by
        intro A
        have e0 : ¬ oI (some w) < 0 := nI_pos (show w < 2 ^ 31 by omega)
        rw [if_neg e0, c_next h1 (by omega) (sS_s _ _ _ _)]
      by_cases c : C j = 32
      · have k1 := tx_in h.1 c (by decide)
        have hd : hdC C i = (j + 1, some w) := by
          unfold hdC; rw [hp]
          show (if C j = 32 then (j + 1, some w) else (j, none)) = _
          rw [if_pos c]
        have h2 := TxC_F h (FpC_6 0 0 g (nI (j + 1)))
        have hnum := c_number h2 (i := j + 1) (by omega) (sS_s _ _ _ _)
        have hst : (if (pNm C (j + 1)).1 = j + 1 then sS g 6 0 (nI (j + 1)) else sS (sS g 6 0 (nI (j + 1))) 6 0 (nI (pNm C (j + 1)).1)) = sS g 6 0 (nI (pNm C (j + 1)).1) := by
          by_cases e : (pNm C (j + 1)).1 = j + 1
          · rw [if_pos e, e]
          · rw [if_neg e, sS_sS]
        rw [hst] at hnum
        have go : ∀ (P : Option (STt × Int32) → Prop), P (bnd (some (sS g 6 0 (nI (pNm C (j + 1)).1), oI (pNm C (j + 1)).2)) fun g_10 r_11 => (if 0 ≤ r_11 then (bnd1 (fX2_beginClause g_10 L (nI w) r_11) fun g_14 => (some (g_14, nI w))) else (some (g_10, (-1))))) → P (if oI (some w) < 0 then (some (sS g 6 0 (nI j), (-1))) else (bnd (fX7_next (sS g 6 0 (nI j)) 32) fun g_6 r_7 => (if r_7 = 0 then (some (g_6, (-1))) else (bnd (fX7_readNumber g_6) fun g_10 r_11 => (if 0 ≤ r_11 then (bnd1 (fX2_beginClause g_10 L (nI w) r_11) fun g_14 => (some (g_14, nI w))) else (some (g_10, (-1)))))))) := by
          intro P hP
          rw [run, if_pos c, bnd_e, if_neg (by decide), sS_sS, hnum]
          exact hP
        cases hn : pNm C (j + 1) with
        | mk k r2 =>
          rw [hn] at go
          cases r2 with
          | none =>
            have e : pHd C i = (k, none) := by unfold pHd; rw [hd]; show (match pNm C (j + 1) with | (k, none) => (k, none) | (k, some n) => (k, some (w, n))) = _; rw [hn]
            rw [e]
            refine ⟨fun _ => go (fun z => z = some (sS g 6 0 (nI k), -1)) ?_, fun w n hn => (by cases hn)⟩
            show bnd (some (sS g 6 0 (nI k), oI none)) _ = some (sS g 6 0 (nI k), -1)
            rw [bnd_e, oI_none, if_neg (by decide)]
          | some n =>
            have e : pHd C i = (k, some (w, n)) := by unfold pHd; rw [hd]; show (match pNm C (j + 1) with | (k, none) => (k, none) | (k, some n) => (k, some (w, n))) = _; rw [hn]
            rw [e]
            refine ⟨fun hn => (by cases hn), fun w' n' hn' => ?_⟩
            have hn' : (w, n) = (w', n') := Option.some.inj hn'
            cases hn'
            have n100 := ((pNm_b h.1 (show j + 1 ≤ K by omega)).2.2 n (by rw [hn])).1
            refine go (fun z => z = bnd1 (fX2_beginClause (sS g 6 0 (nI k)) L (nI w) (nI n)) fun g_14 => some (g_14, nI w)) ?_
            show bnd (some (sS g 6 0 (nI k), oI (some n))) _ = _
            rw [bnd_e]
            exact if_pos (c := 0 ≤ nI n) (nI_pos' (by omega))
      · have hd : hdC C i = (j, none) := by
          unfold hdC; rw [hp]
          show (if C j = 32 then (j + 1, some w) else (j, none)) = _
          rw [if_neg c]
        have e : pHd C i = (j, none) := by unfold pHd; rw [hd]
        rw [e]
        refine ⟨fun _ => ?_, fun w n hn => (by cases hn)⟩
        refine (run _).trans ?_
        rw [if_neg c, bnd_e, if_pos rfl]
