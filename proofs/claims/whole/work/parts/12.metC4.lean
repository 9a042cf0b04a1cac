section MS
variable {p : Program} {l : Launch} {e : Env} {s : State} {m : MethodId} {args : Array Value} {below : List Frame} {meth : Method} {c : Code} {E : WEt} {wx : va_W}
set_option maxRecDepth 20000 in
set_option maxHeartbeats 4000000 in
theorem mtX2_beginClause {l : Launch} {E : WEt} {wx : va_W} (L : Nat) (hL : 2 ≤ L)  {g : STt} {d0 : Nat} (hd0 : d0 < 7) {x1 : Int32} {x2 : Int32} {g' : STt} (h : fX2_beginClause g d0 x1 x2 = some g') : MT l E yX2_beginClause cX2_beginClause 3 none (L + 1) [.ref (aE E 21 d0), .int x1, .int x2] (cellsC E g ++ wx) (cellsC E g' ++ wx) none := by
  refine mt_of (by decide +kernel) (Nat.le_of_ble_eq_true rfl) ?_
  intro p e s m args below meth c C
  replace C : CX p s m args meth c cX2_beginClause 3 RX2 none E := C
  unfold fX2_beginClause at h
  refine vj_sub (lv' := [(0, .ref (aE E 21 d0)), (1, .int x1), (2, .int x2)]) [0, 1, 2] rfl ?_
  refine v_aload_n C 0 (dk dcX2_beginClause_0 0 rfl) rfl rfl ?_
  refine gt_Law_clauses C hd0 wd_164 (dk dcX2_beginClause_0 1 rfl) ?_
  refine v_if_lt C 59 (dk dcX2_beginClause_0 2 rfl) (by decide) (fun c_1 => ?_) (fun c_1 => ?_)
  · replace h := if_t c_1 h
    cases h
    exact v_vret C rfl (dk dcX2_beginClause_0 32 rfl)
  · replace h := if_f c_1 h
    refine v_aload_n C 0 (dk dcX2_beginClause_0 3 rfl) rfl rfl ?_
    refine gt_Law_clauses C hd0 wd_164 (dk dcX2_beginClause_0 4 rfl) ?_
    refine v_bipush C 10 (dk dcX2_beginClause_0 5 rfl) kb_10 ?_
    refine v_icmp_ge C 59 (dk dcX2_beginClause_0 6 rfl) (by decide) (fun c_2 => ?_) (fun c_2 => ?_)
    · replace h := if_t c_2 h
      cases h
      exact v_vret C rfl (dk dcX2_beginClause_0 32 rfl)
    · replace h := if_f c_2 h
      refine v_aload_n C 0 (dk dcX2_beginClause_0 7 rfl) rfl rfl ?_
      refine gt_Law_words C hd0 wd_161 (dk dcX2_beginClause_0 8 rfl) ?_
      refine v_aload_n C 0 (dk dcX2_beginClause_0 9 rfl) rfl rfl ?_
      refine gt_Law_clauses C hd0 wd_164 (dk dcX2_beginClause_0 10 rfl) ?_
      refine v_iload_n C 1 (dk dcX2_beginClause_0 11 rfl) rfl rfl ?_
      obtain ⟨b_3, h⟩ := gd_t h
      refine st_lawWords C hd0 b_3 (dk dcX2_beginClause_0 12 rfl) ?_
      refine v_aload_n C 0 (dk dcX2_beginClause_0 13 rfl) rfl rfl ?_
      refine gt_Law_amounts C hd0 wd_162 (dk dcX2_beginClause_0 14 rfl) ?_
      refine v_aload_n C 0 (dk dcX2_beginClause_0 15 rfl) rfl rfl ?_
      refine gt_Law_clauses C hd0 wd_164 (dk dcX2_beginClause_0 16 rfl) ?_
      refine v_iload_n C 2 (dk dcX2_beginClause_0 17 rfl) rfl rfl ?_
      obtain ⟨b_4, h⟩ := gd_t h
      refine st_lawAmounts C hd0 b_4 (dk dcX2_beginClause_0 18 rfl) ?_
      refine v_aload_n C 0 (dk dcX2_beginClause_0 19 rfl) rfl rfl ?_
      refine gt_Law_starts C hd0 wd_163 (dk dcX2_beginClause_0 20 rfl) ?_
      refine v_aload_n C 0 (dk dcX2_beginClause_0 21 rfl) rfl rfl ?_
      refine gt_Law_clauses C hd0 wd_164 (dk dcX2_beginClause_0 22 rfl) ?_
      refine v_aload_n C 0 (dk dcX2_beginClause_0 23 rfl) rfl rfl ?_
      refine gt_Law_codeCount C hd0 wd_166 (dk dcX2_beginClause_0 24 rfl) ?_
      obtain ⟨b_5, h⟩ := gd_t h
      refine st_lawStarts C hd0 b_5 (dk dcX2_beginClause_0 25 rfl) ?_
      refine v_aload_n C 0 (dk dcX2_beginClause_0 26 rfl) rfl rfl ?_
      refine v_dup C rfl (dk dcX2_beginClause_0 27 rfl) ?_
      refine gt_Law_clauses C hd0 wd_164 (dk dcX2_beginClause_0 28 rfl) ?_
      refine v_iconst C 1 (dk dcX2_beginClause_0 29 rfl) ki_1 ?_
      refine v_iadd C (dk dcX2_beginClause_0 30 rfl) ?_
      refine pt_Law_clauses C hd0 wd_164 (dk dcX2_beginClause_0 31 rfl) ?_
      cases h
      exact v_vret C rfl (dk dcX2_beginClause_0 32 rfl)
set_option maxRecDepth 20000 in
set_option maxHeartbeats 4000000 in
theorem mtJ3_checkIndex_8e157 {l : Launch} {E : WEt} {ws : va_W} (L : Nat) {v : Value} (hv : v = .null ∨ ∃ t, v = .ref t) {x0 x1 : Int32} (h0 : ¬ x0 < 0) (h1 : x0 < x1) : MT l E yJ3_checkIndex_8e157 cJ3_checkIndex_8e157 3 (some .int) (L + 1) [.int x0, .int x1, v] ws ws (some (.int x0)) := by
  have hlen : (lg_sl [.int x0, .int x1, v]).length ≤ 3 := by
    rcases hv with rfl | ⟨t, rfl⟩ <;> exact Nat.le_of_ble_eq_true rfl
  refine mt_of (by decide +kernel) hlen ?_
  intro p e s m args below meth c C
  replace C : CX p s m args meth c cJ3_checkIndex_8e157 3 RJ3 (some .int) E := C
  refine vj_sub (lv' := [(0, .int x0), (1, .int x1)]) [0, 1] rfl ?_
  refine v_iload_n C 0 (dk dcJ3_checkIndex_8e157_0 0 rfl) rfl rfl ?_
  refine v_if_lt C 9 (dk dcJ3_checkIndex_8e157_0 1 rfl) (by decide) (fun c1 => absurd c1 h0) (fun c1 => ?_)
  refine v_iload_n C 0 (dk dcJ3_checkIndex_8e157_0 2 rfl) rfl rfl ?_
  refine v_iload_n C 1 (dk dcJ3_checkIndex_8e157_0 3 rfl) rfl rfl ?_
  refine v_icmp_lt C 16 (dk dcJ3_checkIndex_8e157_0 4 rfl) (by decide) (fun c2 => ?_) (fun c2 => absurd h1 c2)
  refine v_iload_n C 0 (dk dcJ3_checkIndex_8e157_0 10 rfl) rfl rfl ?_
  exact v_iret C rfl (dk dcJ3_checkIndex_8e157_0 11 rfl)
set_option maxRecDepth 20000 in
theorem mtJ0_checkIndex_df160 {l : Launch} {E : WEt} {wx : va_W} (L : Nat) (hL : 3 ≤ L) {g : STt} {x0 : Int32} {x1 : Int32} {rr : Unit} (h : fJ0_checkIndex_df160 g x0 x1 = some rr) : MT l E yJ0_checkIndex_df160 cJ0_checkIndex_df160 2 none (L + 1) [.int x0, .int x1] (cellsC E g ++ wx) (cellsC E g ++ wx) none := by
  refine mt_of (by decide +kernel) (Nat.le_of_ble_eq_true rfl) ?_
  intro p e s m args below meth c C
  replace C : CX p s m args meth c cJ0_checkIndex_df160 2 RJ0 none E := C
  unfold fJ0_checkIndex_df160 at h
  by_cases c1 : x0 < 0
  · replace h := if_t c1 h
    cases h
  replace h := if_f c1 h
  by_cases c2 : x0 < x1
  · replace h := if_t c2 h
    cases h
    obtain ⟨v, hv, hZ⟩ : ∃ v : Value, (v = .null ∨ ∃ t, v = .ref t) ∧ va_Z "jdk/internal/util/Preconditions" "SIOOBE_FORMATTER" "Ljava/util/function/BiFunction;" v E.2.2.2.1 s s.heap := by
      rcases C.2.2.2.2.2.2.1.2.2.2.1.2 with h | ⟨t, h⟩
      · exact ⟨_, Or.inl rfl, h⟩
      · exact ⟨_, Or.inr ⟨t, rfl⟩, h⟩
    refine vj_sub (lv' := [(0, .int x0), (1, .int x1)]) [0, 1] rfl ?_
    refine v_iload_n C 0 (dk dcJ0_checkIndex_df160_0 0 rfl) rfl rfl ?_
    refine v_iload_n C 1 (dk dcJ0_checkIndex_df160_0 1 rfl) rfl rfl ?_
    refine v_gets C hZ wd_511 rfl (dk dcJ0_checkIndex_df160_0 2 rfl) ?_
    refine v_callS1 C (mtJ3_checkIndex_8e157 (L - 1) hv c1 c2) wmJ3_checkIndex_8e157 wd_513 (by omega) (by decide) rfl rfl (Nat.le_of_ble_eq_true rfl) (dk dcJ0_checkIndex_df160_0 3 rfl) ?_
    refine v_pop C rfl (dk dcJ0_checkIndex_df160_0 4 rfl) ?_
    exact v_vret C rfl (dk dcJ0_checkIndex_df160_0 5 rfl)
  · replace h := if_f c2 h
    cases h
set_option maxRecDepth 20000 in
set_option maxHeartbeats 4000000 in
theorem mtJ1_charAt_3b067 {l : Launch} {E : WEt} {wx : va_W} (L : Nat) (hL : 4 ≤ L)  {g : STt} {d0 : Nat} (hd0 : d0 < 9) {x1 : Int32} {rr : Int32} (h : fJ1_charAt_3b067 g d0 x1 = some rr) : MT l E yJ1_charAt_3b067 cJ1_charAt_3b067 2 (some .char) (L + 1) [.ref (E.2.2.2.2 (20 + d0)), .int x1] (cellsC E g ++ wx) (cellsC E g ++ wx) (some (.int rr)) := by
  refine mt_of (by decide +kernel) (Nat.le_of_ble_eq_true rfl) ?_
  intro p e s m args below meth c C
  replace C : CX p s m args meth c cJ1_charAt_3b067 2 RJ1 (some .char) E := C
  unfold fJ1_charAt_3b067 at h
  refine vj_sub (lv' := [(0, .ref (E.2.2.2.2 (20 + d0))), (1, .int x1)]) [0, 1] rfl ?_
  refine v_iload_n C 1 (dk dcJ1_charAt_3b067_0 0 rfl) rfl rfl ?_
  refine v_aload_n C 0 (dk dcJ1_charAt_3b067_0 1 rfl) rfl rfl ?_
  refine v_tlen C (C.2.2.2.2.2.2.1.2.2.2.2.1.1 d0 hd0).2.2.2 rfl (dk dcJ1_charAt_3b067_0 2 rfl) ?_
  obtain ⟨u_2, h_1, h⟩ := bnd1_s h
  refine v_callS0 C (mtJ0_checkIndex_df160 (L - 1) (by omega) h_1) wmJ0_checkIndex_df160 wd_508 (by omega) (by decide) rfl rfl (Nat.le_of_ble_eq_true rfl) (dk dcJ1_charAt_3b067_0 3 rfl) ?_
  refine v_aload_n C 0 (dk dcJ1_charAt_3b067_0 4 rfl) rfl rfl ?_
  refine v_iload_n C 1 (dk dcJ1_charAt_3b067_0 5 rfl) rfl rfl ?_
  obtain ⟨b_3, h⟩ := gd_t h
  refine v_tb C (C.2.2.2.2.2.2.1.2.2.2.2.1.1 d0 hd0).2.2.2 (inB_in b_3) (dk dcJ1_charAt_3b067_0 6 rfl) ?_
  refine v_sipush C 255 (dk dcJ1_charAt_3b067_0 7 rfl) ks_255 ?_
  refine v_iand C (dk dcJ1_charAt_3b067_0 8 rfl) ?_
  refine v_i2c C (dk dcJ1_charAt_3b067_0 9 rfl) ?_
  obtain ⟨b_4, h⟩ := gd_t h
  cases h
  exact v_zret C rfl (nw_char b_4) (dk dcJ1_charAt_3b067_0 10 rfl)
set_option maxRecDepth 20000 in
set_option maxHeartbeats 4000000 in
theorem mtJ0_charAt_5068e {l : Launch} {E : WEt} {wx : va_W} (L : Nat) (hL : 5 ≤ L)  {g : STt} {d0 : Nat} (hd0 : d0 < 9) {x1 : Int32} {rr : Int32} (h : fJ0_charAt_5068e g d0 x1 = some rr) : MT l E yJ0_charAt_5068e cJ0_charAt_5068e 2 (some .char) (L + 1) [.ref (E.2.2.2.2 (10 + d0)), .int x1] (cellsC E g ++ wx) (cellsC E g ++ wx) (some (.int rr)) := by
  refine mt_of (by decide +kernel) (Nat.le_of_ble_eq_true rfl) ?_
  intro p e s m args below meth c C
  replace C : CX p s m args meth c cJ0_charAt_5068e 2 RJ0 (some .char) E := C
  unfold fJ0_charAt_5068e at h
  refine vj_sub (lv' := [(0, .ref (E.2.2.2.2 (10 + d0))), (1, .int x1)]) [0, 1] rfl ?_
  refine v_aload_n C 0 (dk dcJ0_charAt_5068e_0 0 rfl) rfl rfl ?_
  obtain ⟨r_2, h_1, h⟩ := bnd1_s h
  refine v_callVK1 C (mtJ0_isLatin1_aae02 (L - 1) (by omega) hd0 h_1) wmJ0_isLatin1_aae02 wd_501 (by omega) (by decide) rfl hd0 rfl rfl (Nat.le_of_ble_eq_true rfl) (dk dcJ0_charAt_5068e_0 1 rfl) ?_
  refine v_if_eq C 16 (dk dcJ0_charAt_5068e_0 2 rfl) (by decide) (fun c_3 => ?_) (fun c_3 => ?_)
  · replace h := if_t c_3 h
    refine v_aload_n C 0 (dk dcJ0_charAt_5068e_0 8 rfl) rfl rfl ?_
    refine v_strval C hd0 wd_1616 (dk dcJ0_charAt_5068e_0 9 rfl) ?_
    refine v_iload_n C 1 (dk dcJ0_charAt_5068e_0 10 rfl) rfl rfl ?_
    cases h
  · replace h := if_f c_3 h
    refine v_aload_n C 0 (dk dcJ0_charAt_5068e_0 3 rfl) rfl rfl ?_
    refine v_strval C hd0 wd_1616 (dk dcJ0_charAt_5068e_0 4 rfl) ?_
    refine v_iload_n C 1 (dk dcJ0_charAt_5068e_0 5 rfl) rfl rfl ?_
    obtain ⟨r_5, h_4, h⟩ := bnd1_s h
    refine v_callS1 C (mtJ1_charAt_3b067 (L - 1) (by omega) hd0 h_4) wmJ1_charAt_3b067 wd_505 (by omega) (by decide) rfl rfl (Nat.le_of_ble_eq_true rfl) (dk dcJ0_charAt_5068e_0 6 rfl) ?_
    obtain ⟨b_6, h⟩ := gd_t h
    cases h
    exact v_zret C rfl (nw_char b_6) (dk dcJ0_charAt_5068e_0 7 rfl)
set_option maxRecDepth 20000 in
set_option maxHeartbeats 4000000 in
theorem mtX7_wordOf {l : Launch} {E : WEt} {wx : va_W} (L : Nat) (hL : 2 ≤ L)  {g : STt} {x0 : Int32} {rr : Nat} (h : fX7_wordOf g x0 = some rr) : MT l E yX7_wordOf cX7_wordOf 1 (some (.object "java/lang/String")) (L + 1) [.int x0] (cellsC E g ++ wx) (cellsC E g ++ wx) (some (.ref (E.2.2.2.2 (10 + rr)))) := by
  refine mt_of (by decide +kernel) (Nat.le_of_ble_eq_true rfl) ?_
  intro p e s m args below meth c C
  replace C : CX p s m args meth c cX7_wordOf 1 RX7 (some (.object "java/lang/String")) E := C
  unfold fX7_wordOf at h
  refine vj_sub (lv' := [(0, .int x0)]) [0] rfl ?_
  refine v_iload_n C 0 (dk dcX7_wordOf_0 0 rfl) rfl rfl ?_
  by_cases c_1 : x0 = 0
  · replace h := if_t c_1 h
    refine v_tableIn C 40 (dk dcX7_wordOf_0 1 rfl) (by rw [c_1]; decide) (by rw [c_1]; decide) (by rw [c_1]; rfl) (by decide) ?_
    refine v_ldcS C (C.2.2.2.2.2.2.1.2.2.2.2.2 0 (by decide)) (dk dcX7_wordOf_0 2 rfl) ?_
    cases h
    exact v_aret C rfl ⟨_, rfl⟩ (Or.inr ⟨_, rfl⟩) (dk dcX7_wordOf_0 3 rfl)
  · replace h := if_f c_1 h
    by_cases c_2 : x0 = 1
    · replace h := if_t c_2 h
      refine v_tableIn C 43 (dk dcX7_wordOf_0 1 rfl) (by rw [c_2]; decide) (by rw [c_2]; decide) (by rw [c_2]; rfl) (by decide) ?_
      refine v_ldcS C (C.2.2.2.2.2.2.1.2.2.2.2.2 1 (by decide)) (dk dcX7_wordOf_0 4 rfl) ?_
      cases h
      exact v_aret C rfl ⟨_, rfl⟩ (Or.inr ⟨_, rfl⟩) (dk dcX7_wordOf_0 5 rfl)
    · replace h := if_f c_2 h
      by_cases c_3 : x0 = 2
      · replace h := if_t c_3 h
        refine v_tableIn C 46 (dk dcX7_wordOf_0 1 rfl) (by rw [c_3]; decide) (by rw [c_3]; decide) (by rw [c_3]; rfl) (by decide) ?_
        refine v_ldcS C (C.2.2.2.2.2.2.1.2.2.2.2.2 2 (by decide)) (dk dcX7_wordOf_0 6 rfl) ?_
        cases h
        exact v_aret C rfl ⟨_, rfl⟩ (Or.inr ⟨_, rfl⟩) (dk dcX7_wordOf_0 7 rfl)
      · replace h := if_f c_3 h
        by_cases c_4 : x0 = 3
        · replace h := if_t c_4 h
          refine v_tableIn C 49 (dk dcX7_wordOf_0 1 rfl) (by rw [c_4]; decide) (by rw [c_4]; decide) (by rw [c_4]; rfl) (by decide) ?_
          refine v_ldcS C (C.2.2.2.2.2.2.1.2.2.2.2.2 3 (by decide)) (dk dcX7_wordOf_0 8 rfl) ?_
          cases h
          exact v_aret C rfl ⟨_, rfl⟩ (Or.inr ⟨_, rfl⟩) (dk dcX7_wordOf_0 9 rfl)
        · replace h := if_f c_4 h
          by_cases c_5 : x0 = 4
          · replace h := if_t c_5 h
            refine v_tableIn C 52 (dk dcX7_wordOf_0 1 rfl) (by rw [c_5]; decide) (by rw [c_5]; decide) (by rw [c_5]; rfl) (by decide) ?_
            refine v_ldcS C (C.2.2.2.2.2.2.1.2.2.2.2.2 4 (by decide)) (dk dcX7_wordOf_0 10 rfl) ?_
            cases h
            exact v_aret C rfl ⟨_, rfl⟩ (Or.inr ⟨_, rfl⟩) (dk dcX7_wordOf_0 11 rfl)
          · replace h := if_f c_5 h
            by_cases c_6 : x0 = 5
            · replace h := if_t c_6 h
              refine v_tableIn C 55 (dk dcX7_wordOf_0 1 rfl) (by rw [c_6]; decide) (by rw [c_6]; decide) (by rw [c_6]; rfl) (by decide) ?_
              refine v_ldcS C (C.2.2.2.2.2.2.1.2.2.2.2.2 5 (by decide)) (dk dcX7_wordOf_0 12 rfl) ?_
              cases h
              exact v_aret C rfl ⟨_, rfl⟩ (Or.inr ⟨_, rfl⟩) (dk dcX7_wordOf_0 13 rfl)
            · replace h := if_f c_6 h
              have ec_1 := i32_ne (k := 0) c_1 (by decide)
              have ec_2 := i32_ne (k := 1) c_2 (by decide)
              have ec_3 := i32_ne (k := 2) c_3 (by decide)
              have ec_4 := i32_ne (k := 3) c_4 (by decide)
              have ec_5 := i32_ne (k := 4) c_5 (by decide)
              have ec_6 := i32_ne (k := 5) c_6 (by decide)
              refine v_tableOut C 58 (dk dcX7_wordOf_0 1 rfl) (by omega) (by decide) ?_
              refine v_ldcS C (C.2.2.2.2.2.2.1.2.2.2.2.2 6 (by decide)) (dk dcX7_wordOf_0 14 rfl) ?_
              cases h
              exact v_aret C rfl ⟨_, rfl⟩ (Or.inr ⟨_, rfl⟩) (dk dcX7_wordOf_0 15 rfl)
set_option maxRecDepth 20000 in
set_option maxHeartbeats 4000000 in
theorem vX7_readWord_j56 {L : Nat} (hL : 6 ≤ L) (C : CX p s m args meth c cX7_readWord 5 RX7 (some .int) E) {g : STt} {l1 : Int32} {l2 : Int32} {l3 : Nat} {l4 : Int32} (hl3 : l3 < 9) {K4 : (Int32 × Int32) → Option (STt × Int32)} (hK4 : ∀ {l1 : Int32} {l2 : Int32} (r : STt × Int32), K4 (l1, l2) = some r → VJ p l e (rmL (L + 1)) s m args below meth c (QE below E (cellsC E r.1 ++ wx) (some (.int r.2)) args s) E 5 (cellsC E g ++ wx) [(0, .ref (aE E 5 0)), (1, .int l1), (2, .int l2)] [] 4) (r : STt × Int32) (h : fX7_readWord_j56 K4 g l1 l2 l3 l4 = some r) : VJ p l e (rmL (L + 1)) s m args below meth c (QE below E (cellsC E r.1 ++ wx) (some (.int r.2)) args s) E 5 (cellsC E g ++ wx) [(0, .ref (aE E 5 0)), (1, .int l1), (2, .int l2), (3, .ref (E.2.2.2.2 (10 + l3))), (4, .int l4)] [] 56 := by
  unfold fX7_readWord_j56 at h
  refine v_iload C 4 (dk dcX7_readWord_0 29 rfl) rfl ?_
  refine v_aload_n C 3 (dk dcX7_readWord_0 30 rfl) rfl rfl ?_
  obtain ⟨r_2, h_1, h⟩ := bnd1_s h
  refine v_callVK1 C (mtJ0_length_8abf5 (L - 1) (by omega) hl3 h_1) wmJ0_length_8abf5 wd_483 (by omega) (by decide) rfl hl3 rfl rfl (Nat.le_of_ble_eq_true rfl) (dk dcX7_readWord_0 31 rfl) ?_
  refine v_icmp_ne C 78 (dk dcX7_readWord_0 32 rfl) (by decide) (fun c_3 => ?_) (fun c_3 => ?_)
  · replace h := if_f c_3 h
    refine v_iload_n C 1 (dk dcX7_readWord_0 41 rfl) rfl rfl ?_
    refine v_iload C 4 (dk dcX7_readWord_0 42 rfl) rfl ?_
    refine v_mmax C (by omega) wd_535 wn_maxS wn_math wn_maxC (Nat.le_of_ble_eq_true rfl) (dk dcX7_readWord_0 43 rfl) ?_
    refine v_istore_n C (lv' := [(1, .int (if l1 < l4 then l4 else l1)), (0, .ref (aE E 5 0)), (2, .int l2), (3, .ref (E.2.2.2.2 (10 + l3))), (4, .int l4)]) (dk dcX7_readWord_0 44 rfl) rfl (by decide) rfl ?_
    refine v_iinc C (lv' := [(2, .int (l2 + 1)), (1, .int (if l1 < l4 then l4 else l1)), (0, .ref (aE E 5 0)), (3, .ref (E.2.2.2.2 (10 + l3))), (4, .int l4)]) (l2 + 1) 2 (dk dcX7_readWord_0 45 rfl) rfl (congrArg (fun z => l2 + z) ki_1) (by decide) rfl ?_
    refine v_goto C 4 (dk dcX7_readWord_0 46 rfl) (by decide) ?_
    exact vj_sub [2, 1, 0] rfl (hK4 _ h)
  · replace h := if_t c_3 h
    refine v_aload_n C 0 (dk dcX7_readWord_0 33 rfl) rfl rfl ?_
    refine v_dup C rfl (dk dcX7_readWord_0 34 rfl) ?_
    refine gt_Text_pos C wd_148 (dk dcX7_readWord_0 35 rfl) ?_
    refine v_iload C 4 (dk dcX7_readWord_0 36 rfl) rfl ?_
    refine v_iadd C (dk dcX7_readWord_0 37 rfl) ?_
    refine pt_Text_pos C wd_148 (dk dcX7_readWord_0 38 rfl) ?_
    refine v_iload_n C 2 (dk dcX7_readWord_0 39 rfl) rfl rfl ?_
    cases h
    exact v_iret C rfl (dk dcX7_readWord_0 40 rfl)
set_option maxRecDepth 20000 in
set_option maxHeartbeats 4000000 in
theorem vX7_readWord_l18c {L : Nat} (hL : 6 ≤ L) (C : CX p s m args meth c cX7_readWord 5 RX7 (some .int) E) {g : STt} {l1 : Int32} {l2 : Int32} {l3 : Nat} (hl3 : l3 < 9) {K4 : (Int32 × Int32) → Option (STt × Int32)} (hK4 : ∀ {l1 : Int32} {l2 : Int32} (r : STt × Int32), K4 (l1, l2) = some r → VJ p l e (rmL (L + 1)) s m args below meth c (QE below E (cellsC E r.1 ++ wx) (some (.int r.2)) args s) E 5 (cellsC E g ++ wx) [(0, .ref (aE E 5 0)), (1, .int l1), (2, .int l2)] [] 4) {K18 : Int32 → Option (STt × Int32)} (hK18 : ∀ {l4 : Int32} (r : STt × Int32), K18 (l4) = some r → VJ p l e (rmL (L + 1)) s m args below meth c (QE below E (cellsC E r.1 ++ wx) (some (.int r.2)) args s) E 5 (cellsC E g ++ wx) [(0, .ref (aE E 5 0)), (1, .int l1), (2, .int l2), (3, .ref (E.2.2.2.2 (10 + l3))), (4, .int l4)] [] 18) {l4 : Int32} (r : STt × Int32) (h : fX7_readWord_l18c K4 K18 g l1 l2 l3 l4 = some r) : VJ p l e (rmL (L + 1)) s m args below meth c (QE below E (cellsC E r.1 ++ wx) (some (.int r.2)) args s) E 5 (cellsC E g ++ wx) [(0, .ref (aE E 5 0)), (1, .int l1), (2, .int l2), (3, .ref (E.2.2.2.2 (10 + l3))), (4, .int l4)] [] 18 := by
  unfold fX7_readWord_l18c at h
  refine v_iload C 4 (dk dcX7_readWord_0 12 rfl) rfl ?_
  refine v_aload_n C 3 (dk dcX7_readWord_0 13 rfl) rfl rfl ?_
  obtain ⟨r_2, h_1, h⟩ := bnd1_s h
  refine v_callVK1 C (mtJ0_length_8abf5 (L - 1) (by omega) hl3 h_1) wmJ0_length_8abf5 wd_483 (by omega) (by decide) rfl hl3 rfl rfl (Nat.le_of_ble_eq_true rfl) (dk dcX7_readWord_0 14 rfl) ?_
  refine v_icmp_ge C 56 (dk dcX7_readWord_0 15 rfl) (by decide) (fun c_3 => ?_) (fun c_3 => ?_)
  · replace h := if_t c_3 h
    exact vj_sub [0, 1, 2, 3, 4] rfl (vX7_readWord_j56 hL C hl3 hK4 _ h)
  · replace h := if_f c_3 h
    refine v_aload_n C 0 (dk dcX7_readWord_0 16 rfl) rfl rfl ?_
    refine gt_Text_signs C wd_147 (dk dcX7_readWord_0 17 rfl) ?_
    refine v_aload_n C 0 (dk dcX7_readWord_0 18 rfl) rfl rfl ?_
    refine gt_Text_pos C wd_148 (dk dcX7_readWord_0 19 rfl) ?_
    refine v_iload C 4 (dk dcX7_readWord_0 20 rfl) rfl ?_
    refine v_iadd C (dk dcX7_readWord_0 21 rfl) ?_
    obtain ⟨r_5, h_4, h⟩ := bnd1_s h
    refine v_callV1 C (mtX5_get (L - 1) (by omega) (by decide) h_4) wmX5_get wd_493 (by omega) (by decide) rfl _ (ce_Strip (by decide)) rfl rfl (Nat.le_of_ble_eq_true rfl) (dk dcX7_readWord_0 22 rfl) ?_
    refine v_aload_n C 3 (dk dcX7_readWord_0 23 rfl) rfl rfl ?_
    refine v_iload C 4 (dk dcX7_readWord_0 24 rfl) rfl ?_
    obtain ⟨r_7, h_6, h⟩ := bnd1_s h
    refine v_callVK1 C (mtJ0_charAt_5068e (L - 1) (by omega) hl3 h_6) wmJ0_charAt_5068e wd_497 (by omega) (by decide) rfl hl3 rfl rfl (Nat.le_of_ble_eq_true rfl) (dk dcX7_readWord_0 25 rfl) ?_
    refine v_icmp_ne C 56 (dk dcX7_readWord_0 26 rfl) (by decide) (fun c_8 => ?_) (fun c_8 => ?_)
    · replace h := if_f c_8 h
      exact vj_sub [0, 1, 2, 3, 4] rfl (vX7_readWord_j56 hL C hl3 hK4 _ h)
    · replace h := if_t c_8 h
      refine v_iinc C (lv' := [(4, .int (l4 + 1)), (0, .ref (aE E 5 0)), (1, .int l1), (2, .int l2), (3, .ref (E.2.2.2.2 (10 + l3)))]) (l4 + 1) 4 (dk dcX7_readWord_0 27 rfl) rfl (congrArg (fun z => l4 + z) ki_1) (by decide) rfl ?_
      refine v_goto C 18 (dk dcX7_readWord_0 28 rfl) (by decide) ?_
      exact vj_sub [1, 2, 3, 4, 0] rfl (hK18 _ h)
set_option maxRecDepth 20000 in
set_option maxHeartbeats 4000000 in
theorem vX7_readWord_l18 {L : Nat} (hL : 6 ≤ L) (C : CX p s m args meth c cX7_readWord 5 RX7 (some .int) E) {g : STt} {l1 : Int32} {l2 : Int32} {l3 : Nat} (hl3 : l3 < 9) {K4 : (Int32 × Int32) → Option (STt × Int32)} (hK4 : ∀ {l1 : Int32} {l2 : Int32} (r : STt × Int32), K4 (l1, l2) = some r → VJ p l e (rmL (L + 1)) s m args below meth c (QE below E (cellsC E r.1 ++ wx) (some (.int r.2)) args s) E 5 (cellsC E g ++ wx) [(0, .ref (aE E 5 0)), (1, .int l1), (2, .int l2)] [] 4) {l4 : Int32} (r : STt × Int32) (h : fX7_readWord_l18 K4 g l1 l2 l3 l4 = some r) : VJ p l e (rmL (L + 1)) s m args below meth c (QE below E (cellsC E r.1 ++ wx) (some (.int r.2)) args s) E 5 (cellsC E g ++ wx) [(0, .ref (aE E 5 0)), (1, .int l1), (2, .int l2), (3, .ref (E.2.2.2.2 (10 + l3))), (4, .int l4)] [] 18 :=
  iterO_ind (F := fun K z => fX7_readWord_l18c K4 K g l1 l2 l3 z) (fun z r => VJ p l e (rmL (L + 1)) s m args below meth c (QE below E (cellsC E r.1 ++ wx) (some (.int r.2)) args s) E 5 (cellsC E g ++ wx) [(0, .ref (aE E 5 0)), (1, .int l1), (2, .int l2), (3, .ref (E.2.2.2.2 (10 + l3))), (4, .int z)] [] 18) (fun K hK z r h => vX7_readWord_l18c hL C hl3 hK4 (fun {l4} r h => hK (l4) r h) r h) fuelN (l4) r h
set_option maxRecDepth 20000 in
set_option maxHeartbeats 4000000 in
theorem vX7_readWord_l4c {L : Nat} (hL : 6 ≤ L) (C : CX p s m args meth c cX7_readWord 5 RX7 (some .int) E) {g : STt} {K4 : (Int32 × Int32) → Option (STt × Int32)} (hK4 : ∀ {l1 : Int32} {l2 : Int32} (r : STt × Int32), K4 (l1, l2) = some r → VJ p l e (rmL (L + 1)) s m args below meth c (QE below E (cellsC E r.1 ++ wx) (some (.int r.2)) args s) E 5 (cellsC E g ++ wx) [(0, .ref (aE E 5 0)), (1, .int l1), (2, .int l2)] [] 4) {l1 : Int32} {l2 : Int32} (r : STt × Int32) (h : fX7_readWord_l4c K4 g l1 l2 = some r) : VJ p l e (rmL (L + 1)) s m args below meth c (QE below E (cellsC E r.1 ++ wx) (some (.int r.2)) args s) E 5 (cellsC E g ++ wx) [(0, .ref (aE E 5 0)), (1, .int l1), (2, .int l2)] [] 4 := by
  unfold fX7_readWord_l4c at h
  refine v_iload_n C 2 (dk dcX7_readWord_0 4 rfl) rfl rfl ?_
  refine v_bipush C 6 (dk dcX7_readWord_0 5 rfl) kb_6 ?_
  refine v_icmp_gt C 91 (dk dcX7_readWord_0 6 rfl) (by decide) (fun c_1 => ?_) (fun c_1 => ?_)
  · replace h := if_t c_1 h
    refine v_aload_n C 0 (dk dcX7_readWord_0 47 rfl) rfl rfl ?_
    refine v_dup C rfl (dk dcX7_readWord_1 0 rfl) ?_
    refine gt_Text_pos C wd_148 (dk dcX7_readWord_1 1 rfl) ?_
    refine v_iload_n C 1 (dk dcX7_readWord_1 2 rfl) rfl rfl ?_
    refine v_iadd C (dk dcX7_readWord_1 3 rfl) ?_
    refine pt_Text_pos C wd_148 (dk dcX7_readWord_1 4 rfl) ?_
    refine v_iconst C (-1) (dk dcX7_readWord_1 5 rfl) ki_m1 ?_
    cases h
    exact v_iret C rfl (dk dcX7_readWord_1 6 rfl)
  · replace h := if_f c_1 h
    refine v_iload_n C 2 (dk dcX7_readWord_0 7 rfl) rfl rfl ?_
    obtain ⟨r_3, h_2, h⟩ := bnd1_s h
    refine v_callS1 C (mtX7_wordOf (L - 1) (by omega) h_2) wmX7_wordOf wd_473 (by omega) (by decide) rfl rfl (Nat.le_of_ble_eq_true rfl) (dk dcX7_readWord_0 8 rfl) ?_
    obtain ⟨b_4, h⟩ := gd_t h
    refine v_astore_n C (lv' := [(3, .ref (E.2.2.2.2 (10 + r_3))), (0, .ref (aE E 5 0)), (1, .int l1), (2, .int l2)]) (dk dcX7_readWord_0 9 rfl) rfl (by decide) rfl ?_
    refine v_iconst C 0 (dk dcX7_readWord_0 10 rfl) ki_0 ?_
    refine v_istore C (lv' := [(4, .int 0), (3, .ref (E.2.2.2.2 (10 + r_3))), (0, .ref (aE E 5 0)), (1, .int l1), (2, .int l2)]) (dk dcX7_readWord_0 11 rfl) (by decide) rfl ?_
    exact vj_sub [2, 3, 4, 1, 0] rfl (vX7_readWord_l18 hL C b_4 hK4 _ h)
set_option maxRecDepth 20000 in
set_option maxHeartbeats 4000000 in
theorem vX7_readWord_l4 {L : Nat} (hL : 6 ≤ L) (C : CX p s m args meth c cX7_readWord 5 RX7 (some .int) E) {g : STt} {l1 : Int32} {l2 : Int32} (r : STt × Int32) (h : fX7_readWord_l4 g l1 l2 = some r) : VJ p l e (rmL (L + 1)) s m args below meth c (QE below E (cellsC E r.1 ++ wx) (some (.int r.2)) args s) E 5 (cellsC E g ++ wx) [(0, .ref (aE E 5 0)), (1, .int l1), (2, .int l2)] [] 4 :=
  iterO_ind (F := fun K z => fX7_readWord_l4c K g z.1 z.2) (fun z r => VJ p l e (rmL (L + 1)) s m args below meth c (QE below E (cellsC E r.1 ++ wx) (some (.int r.2)) args s) E 5 (cellsC E g ++ wx) [(0, .ref (aE E 5 0)), (1, .int z.1), (2, .int z.2)] [] 4) (fun K hK z r h => vX7_readWord_l4c hL C (fun {l1} {l2} r h => hK (l1, l2) r h) r h) fuelN (l1, l2) r h
set_option maxRecDepth 20000 in
set_option maxHeartbeats 4000000 in
theorem mtX7_readWord {l : Launch} {E : WEt} {wx : va_W} (L : Nat) (hL : 6 ≤ L)  {g : STt} {g' : STt} {rr : Int32} (h : fX7_readWord g = some (g', rr)) : MT l E yX7_readWord cX7_readWord 5 (some .int) (L + 1) [.ref (aE E 5 0)] (cellsC E g ++ wx) (cellsC E g' ++ wx) (some (.int rr)) := by
  refine mt_of (by decide +kernel) (Nat.le_of_ble_eq_true rfl) ?_
  intro p e s m args below meth c C
  replace C : CX p s m args meth c cX7_readWord 5 RX7 (some .int) E := C
  unfold fX7_readWord at h
  refine vj_sub (lv' := [(0, .ref (aE E 5 0))]) [0] rfl ?_
  refine v_iconst C 0 (dk dcX7_readWord_0 0 rfl) ki_0 ?_
  refine v_istore_n C (lv' := [(1, .int 0), (0, .ref (aE E 5 0))]) (dk dcX7_readWord_0 1 rfl) rfl (by decide) rfl ?_
  refine v_iconst C 0 (dk dcX7_readWord_0 2 rfl) ki_0 ?_
  refine v_istore_n C (lv' := [(2, .int 0), (1, .int 0), (0, .ref (aE E 5 0))]) (dk dcX7_readWord_0 3 rfl) rfl (by decide) rfl ?_
  exact vj_sub [2, 1, 0] rfl (vX7_readWord_l4 hL C _ h)
set_option maxRecDepth 20000 in
set_option maxHeartbeats 4000000 in
theorem mtX7_readHead {l : Launch} {E : WEt} {wx : va_W} (L : Nat) (hL : 7 ≤ L)  {g : STt} {d1 : Nat} (hd1 : d1 < 7) {g' : STt} {rr : Int32} (h : fX7_readHead g d1 = some (g', rr)) : MT l E yX7_readHead cX7_readHead 4 (some .int) (L + 1) [.ref (aE E 5 0), .ref (aE E 21 d1)] (cellsC E g ++ wx) (cellsC E g' ++ wx) (some (.int rr)) := by
  refine mt_of (by decide +kernel) (Nat.le_of_ble_eq_true rfl) ?_
  intro p e s m args below meth c C
  replace C : CX p s m args meth c cX7_readHead 4 RX7 (some .int) E := C
  unfold fX7_readHead at h
  refine vj_sub (lv' := [(0, .ref (aE E 5 0)), (1, .ref (aE E 21 d1))]) [0, 1] rfl ?_
  refine v_aload_n C 0 (dk dcX7_readHead_0 0 rfl) rfl rfl ?_
  obtain ⟨g_2, r_3, h_1, h⟩ := bnd_s h
  refine v_callV1 C (mtX7_readWord (L - 1) (by omega) h_1) wmX7_readWord wd_469 (by omega) (by decide) rfl _ (ce_Text) rfl rfl (Nat.le_of_ble_eq_true rfl) (dk dcX7_readHead_0 1 rfl) ?_
  refine v_istore_n C (lv' := [(2, .int r_3), (0, .ref (aE E 5 0)), (1, .ref (aE E 21 d1))]) (dk dcX7_readHead_0 2 rfl) rfl (by decide) rfl ?_
  refine v_iload_n C 0 (dk dcX7_readHead_0 3 rfl) rfl rfl ?_
  refine v_if_lt C 18 (dk dcX7_readHead_0 4 rfl) (by decide) (fun c_4 => ?_) (fun c_4 => ?_)
  · replace h := if_t c_4 h
    refine v_iconst C (-1) (dk dcX7_readHead_0 9 rfl) ki_m1 ?_
    cases h
    exact v_iret C rfl (dk dcX7_readHead_0 10 rfl)
  · replace h := if_f c_4 h
    refine v_aload_n C 1 (dk dcX7_readHead_0 5 rfl) rfl rfl ?_
    refine v_bipush C 32 (dk dcX7_readHead_0 6 rfl) kb_32 ?_
    obtain ⟨g_6, r_7, h_5, h⟩ := bnd_s h
    refine v_callV1 C (mtX7_next (L - 1) (by omega) h_5) wmX7_next wd_536 (by omega) (by decide) rfl _ (ce_Text) rfl rfl (Nat.le_of_ble_eq_true rfl) (dk dcX7_readHead_0 7 rfl) ?_
    refine v_if_ne C 20 (dk dcX7_readHead_0 8 rfl) (by decide) (fun c_8 => ?_) (fun c_8 => ?_)
    · replace h := if_f c_8 h
      refine v_aload_n C 1 (dk dcX7_readHead_0 11 rfl) rfl rfl ?_
      obtain ⟨g_10, r_11, h_9, h⟩ := bnd_s h
      refine v_callV1 C (mtX7_readNumber (L - 1) (by omega) h_9) wmX7_readNumber wd_540 (by omega) (by decide) rfl _ (ce_Text) rfl rfl (Nat.le_of_ble_eq_true rfl) (dk dcX7_readHead_0 12 rfl) ?_
      refine v_istore_n C (lv' := [(3, .int r_11), (2, .int r_3), (0, .ref (aE E 5 0)), (1, .ref (aE E 21 d1))]) (dk dcX7_readHead_0 13 rfl) rfl (by decide) rfl ?_
      refine v_iload_n C 0 (dk dcX7_readHead_0 14 rfl) rfl rfl ?_
      refine v_if_ge C 31 (dk dcX7_readHead_0 15 rfl) (by decide) (fun c_12 => ?_) (fun c_12 => ?_)
      · replace h := if_t c_12 h
        refine v_aload_n C 3 (dk dcX7_readHead_0 18 rfl) rfl rfl ?_
        refine v_iload_n C 1 (dk dcX7_readHead_0 19 rfl) rfl rfl ?_
        refine v_iload_n C 0 (dk dcX7_readHead_0 20 rfl) rfl rfl ?_
        obtain ⟨g_14, h_13, h⟩ := bnd1_s h
        refine v_callV0 C (mtX2_beginClause (L - 1) (by omega) hd1 h_13) wmX2_beginClause wd_544 (by omega) (by decide) rfl _ (ce_Law hd1) rfl rfl (Nat.le_of_ble_eq_true rfl) (dk dcX7_readHead_0 21 rfl) ?_
        refine v_iload_n C 1 (dk dcX7_readHead_0 22 rfl) rfl rfl ?_
        cases h
        exact v_iret C rfl (dk dcX7_readHead_0 23 rfl)
      · replace h := if_f c_12 h
        refine v_iconst C (-1) (dk dcX7_readHead_0 16 rfl) ki_m1 ?_
        cases h
        exact v_iret C rfl (dk dcX7_readHead_0 17 rfl)
    · replace h := if_t c_8 h
      refine v_iconst C (-1) (dk dcX7_readHead_0 9 rfl) ki_m1 ?_
      cases h
      exact v_iret C rfl (dk dcX7_readHead_0 10 rfl)
set_option maxRecDepth 20000 in
set_option maxHeartbeats 4000000 in
theorem vX7_readLaw_j103 {L : Nat} (hL : 49 ≤ L) (C : CX p s m args meth c cX7_readLaw 5 RX7 (some .int) E) {g : STt} (r : STt × Int32) (h : fX7_readLaw_j103 g = some r) : VJ p l e (rmL (L + 1)) s m args below meth c (QE below E (cellsC E r.1 ++ wx) (some (.int r.2)) args s) E 5 (cellsC E g ++ wx) [(0, .ref (aE E 5 0))] [] 103 := by
  unfold fX7_readLaw_j103 at h
  refine v_aload_n C 0 (dk dcX7_readLaw_1 7 rfl) rfl rfl ?_
  refine gt_Text_pos C wd_148 (dk dcX7_readLaw_1 8 rfl) ?_
  cases h
  exact v_iret C rfl (dk dcX7_readLaw_1 9 rfl)
set_option maxRecDepth 20000 in
set_option maxHeartbeats 4000000 in
theorem vX7_readLaw_j72 {L : Nat} (hL : 49 ≤ L) (C : CX p s m args meth c cX7_readLaw 5 RX7 (some .int) E) {g : STt} {l1 : Nat} {l2 : Int32} (hl1 : l1 < 7) {K11 : (STt × Int32) → Option (STt × Int32)} (hK11 : ∀ {g : STt} {l2 : Int32} (r : STt × Int32), K11 (g, l2) = some r → VJ p l e (rmL (L + 1)) s m args below meth c (QE below E (cellsC E r.1 ++ wx) (some (.int r.2)) args s) E 5 (cellsC E g ++ wx) [(0, .ref (aE E 5 0)), (1, .ref (aE E 21 l1)), (2, .int l2)] [] 11) (r : STt × Int32) (h : fX7_readLaw_j72 K11 g l1 l2 = some r) : VJ p l e (rmL (L + 1)) s m args below meth c (QE below E (cellsC E r.1 ++ wx) (some (.int r.2)) args s) E 5 (cellsC E g ++ wx) [(0, .ref (aE E 5 0)), (1, .ref (aE E 21 l1)), (2, .int l2)] [] 72 := by
  unfold fX7_readLaw_j72 at h
  refine v_aload_n C 0 (dk dcX7_readLaw_0 40 rfl) rfl rfl ?_
  refine gt_Text_pos C wd_148 (dk dcX7_readLaw_0 41 rfl) ?_
  refine v_aload_n C 0 (dk dcX7_readLaw_0 42 rfl) rfl rfl ?_
  refine gt_Text_signs C wd_147 (dk dcX7_readLaw_0 43 rfl) ?_
  obtain ⟨r_2, h_1, h⟩ := bnd1_s h
  refine v_callV1 C (mtX5_size (L - 1) (by omega) (by decide) h_1) wmX5_size wd_449 (by omega) (by decide) rfl _ (ce_Strip (by decide)) rfl rfl (Nat.le_of_ble_eq_true rfl) (dk dcX7_readLaw_0 44 rfl) ?_
  refine v_icmp_ne C 88 (dk dcX7_readLaw_0 45 rfl) (by decide) (fun c_3 => ?_) (fun c_3 => ?_)
  · replace h := if_f c_3 h
    refine v_iload_n C 2 (dk dcX7_readLaw_1 0 rfl) rfl rfl ?_
    refine v_bipush C 10 (dk dcX7_readLaw_1 1 rfl) kb_10 ?_
    refine v_icmp_eq C 103 (dk dcX7_readLaw_1 2 rfl) (by decide) (fun c_4 => ?_) (fun c_4 => ?_)
    · replace h := if_t c_4 h
      exact vj_sub [0] rfl (vX7_readLaw_j103 hL C _ h)
    · replace h := if_f c_4 h
      refine v_aload_n C 0 (dk dcX7_readLaw_1 3 rfl) rfl rfl ?_
      refine v_bipush C 59 (dk dcX7_readLaw_1 4 rfl) kb_59 ?_
      obtain ⟨g_6, r_7, h_5, h⟩ := bnd_s h
      refine v_callV1 C (mtX7_next (L - 1) (by omega) h_5) wmX7_next wd_536 (by omega) (by decide) rfl _ (ce_Text) rfl rfl (Nat.le_of_ble_eq_true rfl) (dk dcX7_readLaw_1 5 rfl) ?_
      refine v_if_ne C 108 (dk dcX7_readLaw_1 6 rfl) (by decide) (fun c_8 => ?_) (fun c_8 => ?_)
      · replace h := if_f c_8 h
        refine v_iinc C (lv' := [(2, .int (l2 + 1)), (0, .ref (aE E 5 0)), (1, .ref (aE E 21 l1))]) (l2 + 1) 2 (dk dcX7_readLaw_1 10 rfl) rfl (congrArg (fun z => l2 + z) ki_1) (by decide) rfl ?_
        refine v_goto C 11 (dk dcX7_readLaw_1 11 rfl) (by decide) ?_
        exact vj_sub [1, 2, 0] rfl (hK11 _ h)
      · replace h := if_t c_8 h
        exact vj_sub [0] rfl (vX7_readLaw_j103 hL C _ h)
  · replace h := if_t c_3 h
    refine v_iconst C (-1) (dk dcX7_readLaw_0 46 rfl) ki_m1 ?_
    cases h
    exact v_iret C rfl (dk dcX7_readLaw_0 47 rfl)
set_option maxRecDepth 20000 in
set_option maxHeartbeats 4000000 in
theorem vX7_readLaw_j67 {L : Nat} (hL : 49 ≤ L) (C : CX p s m args meth c cX7_readLaw 5 RX7 (some .int) E) {g : STt} (r : STt × Int32) (h : fX7_readLaw_j67 g = some r) : VJ p l e (rmL (L + 1)) s m args below meth c (QE below E (cellsC E r.1 ++ wx) (some (.int r.2)) args s) E 5 (cellsC E g ++ wx) [(0, .ref (aE E 5 0))] [] 67 := by
  unfold fX7_readLaw_j67 at h
  refine v_aload_n C 0 (dk dcX7_readLaw_0 37 rfl) rfl rfl ?_
  refine gt_Text_pos C wd_148 (dk dcX7_readLaw_0 38 rfl) ?_
  cases h
  exact v_iret C rfl (dk dcX7_readLaw_0 39 rfl)
set_option maxRecDepth 20000 in
set_option maxHeartbeats 4000000 in
theorem vX7_readLaw_j42 {L : Nat} (hL : 49 ≤ L) (C : CX p s m args meth c cX7_readLaw 5 RX7 (some .int) E) {g : STt} {l1 : Nat} {l2 : Int32} {s0 : Int32} (hl1 : l1 < 7) {K11 : (STt × Int32) → Option (STt × Int32)} (hK11 : ∀ {g : STt} {l2 : Int32} (r : STt × Int32), K11 (g, l2) = some r → VJ p l e (rmL (L + 1)) s m args below meth c (QE below E (cellsC E r.1 ++ wx) (some (.int r.2)) args s) E 5 (cellsC E g ++ wx) [(0, .ref (aE E 5 0)), (1, .ref (aE E 21 l1)), (2, .int l2)] [] 11) (r : STt × Int32) (h : fX7_readLaw_j42 K11 g l1 l2 s0 = some r) : VJ p l e (rmL (L + 1)) s m args below meth c (QE below E (cellsC E r.1 ++ wx) (some (.int r.2)) args s) E 5 (cellsC E g ++ wx) [(0, .ref (aE E 5 0)), (1, .ref (aE E 21 l1)), (2, .int l2)] [.int s0] 42 := by
  unfold fX7_readLaw_j42 at h
  refine v_istore C (lv' := [(4, .int s0), (0, .ref (aE E 5 0)), (1, .ref (aE E 21 l1)), (2, .int l2)]) (dk dcX7_readLaw_0 25 rfl) (by decide) rfl ?_
  refine v_iload C 0 (dk dcX7_readLaw_0 26 rfl) rfl ?_
  refine v_if_eq C 72 (dk dcX7_readLaw_0 27 rfl) (by decide) (fun c_1 => ?_) (fun c_1 => ?_)
  · replace h := if_t c_1 h
    exact vj_sub [1, 2, 3] rfl (vX7_readLaw_j72 hL C hl1 hK11 _ h)
  · replace h := if_f c_1 h
    refine v_aload_n C 1 (dk dcX7_readLaw_0 28 rfl) rfl rfl ?_
    refine v_bipush C 32 (dk dcX7_readLaw_0 29 rfl) kb_32 ?_
    obtain ⟨g_3, r_4, h_2, h⟩ := bnd_s h
    refine v_callV1 C (mtX7_next (L - 1) (by omega) h_2) wmX7_next wd_536 (by omega) (by decide) rfl _ (ce_Text) rfl rfl (Nat.le_of_ble_eq_true rfl) (dk dcX7_readLaw_0 30 rfl) ?_
    refine v_if_eq C 67 (dk dcX7_readLaw_0 31 rfl) (by decide) (fun c_5 => ?_) (fun c_5 => ?_)
    · replace h := if_t c_5 h
      exact vj_sub [1] rfl (vX7_readLaw_j67 hL C _ h)
    · replace h := if_f c_5 h
      refine v_aload_n C 1 (dk dcX7_readLaw_0 32 rfl) rfl rfl ?_
      refine v_aload_n C 2 (dk dcX7_readLaw_0 33 rfl) rfl rfl ?_
      refine v_iconst C 0 (dk dcX7_readLaw_0 34 rfl) ki_0 ?_
      obtain ⟨g_7, r_8, h_6, h⟩ := bnd_s h
      refine v_callV1 C (mtX7_readEither (L - 1) (by omega) hl1 h_6) wmX7_readEither wd_548 (by omega) (by decide) rfl _ (ce_Text) rfl rfl (Nat.le_of_ble_eq_true rfl) (dk dcX7_readLaw_0 35 rfl) ?_
      refine v_if_ne C 72 (dk dcX7_readLaw_0 36 rfl) (by decide) (fun c_9 => ?_) (fun c_9 => ?_)
      · replace h := if_f c_9 h
        exact vj_sub [1, 2, 3] rfl (vX7_readLaw_j72 hL C hl1 hK11 _ h)
      · replace h := if_t c_9 h
        exact vj_sub [1] rfl (vX7_readLaw_j67 hL C _ h)
set_option maxRecDepth 20000 in
set_option maxHeartbeats 4000000 in
theorem vX7_readLaw_l11c {L : Nat} (hL : 49 ≤ L) (C : CX p s m args meth c cX7_readLaw 5 RX7 (some .int) E) {l1 : Nat} (hl1 : l1 < 7) {K11 : (STt × Int32) → Option (STt × Int32)} (hK11 : ∀ {g : STt} {l2 : Int32} (r : STt × Int32), K11 (g, l2) = some r → VJ p l e (rmL (L + 1)) s m args below meth c (QE below E (cellsC E r.1 ++ wx) (some (.int r.2)) args s) E 5 (cellsC E g ++ wx) [(0, .ref (aE E 5 0)), (1, .ref (aE E 21 l1)), (2, .int l2)] [] 11) {g : STt} {l2 : Int32} (r : STt × Int32) (h : fX7_readLaw_l11c K11 l1 g l2 = some r) : VJ p l e (rmL (L + 1)) s m args below meth c (QE below E (cellsC E r.1 ++ wx) (some (.int r.2)) args s) E 5 (cellsC E g ++ wx) [(0, .ref (aE E 5 0)), (1, .ref (aE E 21 l1)), (2, .int l2)] [] 11 := by
  unfold fX7_readLaw_l11c at h
  refine v_iload_n C 2 (dk dcX7_readLaw_0 7 rfl) rfl rfl ?_
  refine v_bipush C 10 (dk dcX7_readLaw_0 8 rfl) kb_10 ?_
  refine v_icmp_gt C 114 (dk dcX7_readLaw_0 9 rfl) (by decide) (fun c_1 => ?_) (fun c_1 => ?_)
  · replace h := if_t c_1 h
    refine v_aload_n C 0 (dk dcX7_readLaw_1 12 rfl) rfl rfl ?_
    refine gt_Text_pos C wd_148 (dk dcX7_readLaw_1 13 rfl) ?_
    cases h
    exact v_iret C rfl (dk dcX7_readLaw_1 14 rfl)
  · replace h := if_f c_1 h
    refine v_aload_n C 0 (dk dcX7_readLaw_0 10 rfl) rfl rfl ?_
    refine v_aload_n C 1 (dk dcX7_readLaw_0 11 rfl) rfl rfl ?_
    obtain ⟨g_3, r_4, h_2, h⟩ := bnd_s h
    refine v_callV1 C (mtX7_readHead (L - 1) (by omega) hl1 h_2) wmX7_readHead wd_465 (by omega) (by decide) rfl _ (ce_Text) rfl rfl (Nat.le_of_ble_eq_true rfl) (dk dcX7_readLaw_0 12 rfl) ?_
    refine v_istore_n C (lv' := [(3, .int r_4), (0, .ref (aE E 5 0)), (1, .ref (aE E 21 l1)), (2, .int l2)]) (dk dcX7_readLaw_0 13 rfl) rfl (by decide) rfl ?_
    refine v_iload_n C 0 (dk dcX7_readLaw_0 14 rfl) rfl rfl ?_
    refine v_if_ge C 32 (dk dcX7_readLaw_0 15 rfl) (by decide) (fun c_5 => ?_) (fun c_5 => ?_)
    · replace h := if_t c_5 h
      refine v_iload_n C 0 (dk dcX7_readLaw_0 19 rfl) rfl rfl ?_
      refine v_iconst C 2 (dk dcX7_readLaw_0 20 rfl) ki_2 ?_
      refine v_icmp_gt C 41 (dk dcX7_readLaw_0 21 rfl) (by decide) (fun c_6 => ?_) (fun c_6 => ?_)
      · replace h := if_t c_6 h
        refine v_iconst C 0 (dk dcX7_readLaw_0 24 rfl) ki_0 ?_
        exact vj_sub [1, 2, 3] rfl (vX7_readLaw_j42 hL C hl1 hK11 _ h)
      · replace h := if_f c_6 h
        refine v_iconst C 1 (dk dcX7_readLaw_0 22 rfl) ki_1 ?_
        refine v_goto C 42 (dk dcX7_readLaw_0 23 rfl) (by decide) ?_
        exact vj_sub [1, 2, 3] rfl (vX7_readLaw_j42 hL C hl1 hK11 _ h)
    · replace h := if_f c_5 h
      refine v_aload_n C 1 (dk dcX7_readLaw_0 16 rfl) rfl rfl ?_
      refine gt_Text_pos C wd_148 (dk dcX7_readLaw_0 17 rfl) ?_
      cases h
      exact v_iret C rfl (dk dcX7_readLaw_0 18 rfl)
set_option maxRecDepth 20000 in
set_option maxHeartbeats 4000000 in
theorem vX7_readLaw_l11 {L : Nat} (hL : 49 ≤ L) (C : CX p s m args meth c cX7_readLaw 5 RX7 (some .int) E) {l1 : Nat} (hl1 : l1 < 7) {g : STt} {l2 : Int32} (r : STt × Int32) (h : fX7_readLaw_l11 l1 g l2 = some r) : VJ p l e (rmL (L + 1)) s m args below meth c (QE below E (cellsC E r.1 ++ wx) (some (.int r.2)) args s) E 5 (cellsC E g ++ wx) [(0, .ref (aE E 5 0)), (1, .ref (aE E 21 l1)), (2, .int l2)] [] 11 :=
  iterO_ind (F := fun K z => fX7_readLaw_l11c K l1 z.1 z.2) (fun z r => VJ p l e (rmL (L + 1)) s m args below meth c (QE below E (cellsC E r.1 ++ wx) (some (.int r.2)) args s) E 5 (cellsC E z.1 ++ wx) [(0, .ref (aE E 5 0)), (1, .ref (aE E 21 l1)), (2, .int z.2)] [] 11) (fun K hK z r h => vX7_readLaw_l11c hL C hl1 (fun {g} {l2} r h => hK (g, l2) r h) r h) fuelN (g, l2) r h
set_option maxRecDepth 20000 in
set_option maxHeartbeats 4000000 in
theorem mtX7_readLaw {l : Launch} {E : WEt} {wx : va_W} (L : Nat) (hL : 49 ≤ L)  {g : STt} {d1 : Nat} (hd1 : d1 < 7) {g' : STt} {rr : Int32} (h : fX7_readLaw g d1 = some (g', rr)) : MT l E yX7_readLaw cX7_readLaw 5 (some .int) (L + 1) [.ref (aE E 5 0), .ref (aE E 21 d1)] (cellsC E g ++ wx) (cellsC E g' ++ wx) (some (.int rr)) := by
  refine mt_of (by decide +kernel) (Nat.le_of_ble_eq_true rfl) ?_
  intro p e s m args below meth c C
  replace C : CX p s m args meth c cX7_readLaw 5 RX7 (some .int) E := C
  unfold fX7_readLaw at h
  refine vj_sub (lv' := [(0, .ref (aE E 5 0)), (1, .ref (aE E 21 d1))]) [0, 1] rfl ?_
  refine v_aload_n C 0 (dk dcX7_readLaw_0 0 rfl) rfl rfl ?_
  refine v_iconst C 0 (dk dcX7_readLaw_0 1 rfl) ki_0 ?_
  refine pt_Text_pos C wd_148 (dk dcX7_readLaw_0 2 rfl) ?_
  refine v_aload_n C 1 (dk dcX7_readLaw_0 3 rfl) rfl rfl ?_
  obtain ⟨g_2, h_1, h⟩ := bnd1_s h
  refine v_callV0 C (mtX2_clear (L - 1) (by omega) hd1 h_1) wmX2_clear wd_461 (by omega) (by decide) rfl _ (ce_Law hd1) rfl rfl (Nat.le_of_ble_eq_true rfl) (dk dcX7_readLaw_0 4 rfl) ?_
  refine v_iconst C 1 (dk dcX7_readLaw_0 5 rfl) ki_1 ?_
  refine v_istore_n C (lv' := [(2, .int 1), (0, .ref (aE E 5 0)), (1, .ref (aE E 21 d1))]) (dk dcX7_readLaw_0 6 rfl) rfl (by decide) rfl ?_
  exact vj_sub [1, 2, 0] rfl (vX7_readLaw_l11 hL C hd1 _ h)
set_option maxRecDepth 20000 in
set_option maxHeartbeats 4000000 in
theorem vX10_law_j32 {L : Nat} (hL : 50 ≤ L) (C : CX p s m args meth c cX10_law 3 RX10 (some .int) E) {g : STt} {s0 : Option Nat} (r : STt × Int32) (h : fX10_law_j32 g s0 = some r) : VJ p l e (rmL (L + 1)) s m args below meth c (QE below E (cellsC E r.1 ++ wx) (some (.int r.2)) args s) E 3 (cellsC E g ++ wx) [(0, .ref (aE E 0 0))] [oV E 21 s0] 32 := by
  unfold fX10_law_j32 at h
  rcases s0 with _ | q0
  · dsimp only [ocase] at h
    refine v_astore_nN C (lv' := [(1, .null), (0, .ref (aE E 0 0))]) (dk dcX10_law_0 16 rfl) rfl (by decide) rfl ?_
    refine v_aload_nN C 0 (dk dcX10_law_0 17 rfl) rfl rfl ?_
    refine v_ifnonnullN C (dk dcX10_law_0 18 rfl) ?_
    refine v_bipush C (-4) (dk dcX10_law_0 19 rfl) kb_m4 ?_
    cases h
    exact v_iret C rfl (dk dcX10_law_0 20 rfl)
  · dsimp only [ocase] at h
    obtain ⟨bq0, h⟩ := gd_t h
    refine v_astore_n C (lv' := [(1, .ref (aE E 21 q0)), (0, .ref (aE E 0 0))]) (dk dcX10_law_0 16 rfl) rfl (by decide) rfl ?_
    refine v_aload_n C 0 (dk dcX10_law_0 17 rfl) rfl rfl ?_
    refine v_ifnonnull C 40 (dk dcX10_law_0 18 rfl) (by decide) ?_
    refine v_aload_n C 1 (dk dcX10_law_0 21 rfl) rfl rfl ?_
    refine gt_DB_text C wd_337 (dk dcX10_law_0 22 rfl) ?_
    refine v_aload_n C 0 (dk dcX10_law_0 23 rfl) rfl rfl ?_
    obtain ⟨g_2, r_3, h_1, h⟩ := bnd_s h
    refine v_callV1 C (mtX7_readLaw (L - 1) (by omega) bq0 h_1) wmX7_readLaw wd_457 (by omega) (by decide) rfl _ (ce_Text) rfl rfl (Nat.le_of_ble_eq_true rfl) (dk dcX10_law_0 24 rfl) ?_
    refine v_istore_n C (lv' := [(2, .int r_3), (1, .ref (aE E 21 q0)), (0, .ref (aE E 0 0))]) (dk dcX10_law_0 25 rfl) rfl (by decide) rfl ?_
    refine v_aload_n C 2 (dk dcX10_law_0 26 rfl) rfl rfl ?_
    refine gt_DB_text C wd_337 (dk dcX10_law_0 27 rfl) ?_
    obtain ⟨g_5, h_4, h⟩ := bnd1_s h
    refine v_callV0 C (mtX7_clear (L - 1) (by omega) h_4) wmX7_clear wd_634 (by omega) (by decide) rfl _ (ce_Text) rfl rfl (Nat.le_of_ble_eq_true rfl) (dk dcX10_law_0 28 rfl) ?_
    refine v_iload_n C 0 (dk dcX10_law_0 29 rfl) rfl rfl ?_
    refine v_if_lt C 65 (dk dcX10_law_0 30 rfl) (by decide) (fun c_6 => ?_) (fun c_6 => ?_)
    · replace h := if_t c_6 h
      refine v_aload_n C 2 (dk dcX10_law_0 35 rfl) rfl rfl ?_
      refine gt_DB_present C wd_345 (dk dcX10_law_0 36 rfl) ?_
      refine v_aload_n C 2 (dk dcX10_law_0 37 rfl) rfl rfl ?_
      refine gt_DB_lawCount C wd_340 (dk dcX10_law_0 38 rfl) ?_
      refine pt_Moment_held C (by decide) wd_240 (dk dcX10_law_0 39 rfl) ?_
      refine v_aload_n C 2 (dk dcX10_law_0 40 rfl) rfl rfl ?_
      refine v_dup C rfl (dk dcX10_law_0 41 rfl) ?_
      refine gt_DB_lawCount C wd_340 (dk dcX10_law_0 42 rfl) ?_
      refine v_iconst C 1 (dk dcX10_law_0 43 rfl) ki_1 ?_
      refine v_iadd C (dk dcX10_law_0 44 rfl) ?_
      refine pt_DB_lawCount C wd_340 (dk dcX10_law_0 45 rfl) ?_
      refine v_aload_n C 2 (dk dcX10_law_0 46 rfl) rfl rfl ?_
      refine gt_DB_walk C wd_341 (dk dcX10_law_0 47 rfl) ?_
      refine v_aload_n C 1 (dk dcX10_law_1 0 rfl) rfl rfl ?_
      obtain ⟨g_8, h_7, h⟩ := bnd1_s h
      refine v_callV0 C (mtX9_obey (L - 1) (by omega) bq0 h_7) wmX9_obey wd_642 (by omega) (by decide) rfl _ (ce_Walk) rfl rfl (Nat.le_of_ble_eq_true rfl) (dk dcX10_law_1 1 rfl) ?_
      refine v_aload_n C 2 (dk dcX10_law_1 2 rfl) rfl rfl ?_
      refine gt_DB_present C wd_345 (dk dcX10_law_1 3 rfl) ?_
      refine gt_Moment_held C (by decide) wd_240 (dk dcX10_law_1 4 rfl) ?_
      cases h
      exact v_iret C rfl (dk dcX10_law_1 5 rfl)
    · replace h := if_f c_6 h
      refine v_bipush C (-10) (dk dcX10_law_0 31 rfl) kb_m10 ?_
      refine v_iload_n C 0 (dk dcX10_law_0 32 rfl) rfl rfl ?_
      refine v_isub C (dk dcX10_law_0 33 rfl) ?_
      cases h
      exact v_iret C rfl (dk dcX10_law_0 34 rfl)
set_option maxRecDepth 20000 in
set_option maxHeartbeats 4000000 in
theorem vX10_law_j31 {L : Nat} (hL : 50 ≤ L) (C : CX p s m args meth c cX10_law 3 RX10 (some .int) E) {g : STt} (r : STt × Int32) (h : fX10_law_j31 g = some r) : VJ p l e (rmL (L + 1)) s m args below meth c (QE below E (cellsC E r.1 ++ wx) (some (.int r.2)) args s) E 3 (cellsC E g ++ wx) [(0, .ref (aE E 0 0))] [] 31 := by
  unfold fX10_law_j31 at h
  refine v_null C (dk dcX10_law_0 15 rfl) ?_
  exact vj_sub [0] rfl (vX10_law_j32 hL C _ h)
set_option maxRecDepth 20000 in
set_option maxHeartbeats 4000000 in
theorem mtX10_law {l : Launch} {E : WEt} {wx : va_W} (L : Nat) (hL : 50 ≤ L)  {g : STt} {g' : STt} {rr : Int32} (h : fX10_law g = some (g', rr)) : MT l E yX10_law cX10_law 3 (some .int) (L + 1) [.ref (aE E 0 0)] (cellsC E g ++ wx) (cellsC E g' ++ wx) (some (.int rr)) := by
  refine mt_of (by decide +kernel) (Nat.le_of_ble_eq_true rfl) ?_
  intro p e s m args below meth c C
  replace C : CX p s m args meth c cX10_law 3 RX10 (some .int) E := C
  unfold fX10_law at h
  refine vj_sub (lv' := [(0, .ref (aE E 0 0))]) [0] rfl ?_
  refine v_aload_n C 0 (dk dcX10_law_0 0 rfl) rfl rfl ?_
  refine gt_DB_lawCount C wd_340 (dk dcX10_law_0 1 rfl) ?_
  refine v_if_lt C 31 (dk dcX10_law_0 2 rfl) (by decide) (fun c_1 => ?_) (fun c_1 => ?_)
  · replace h := if_t c_1 h
    exact vj_sub [0] rfl (vX10_law_j31 hL C _ h)
  · replace h := if_f c_1 h
    refine v_aload_n C 0 (dk dcX10_law_0 3 rfl) rfl rfl ?_
    refine gt_DB_lawCount C wd_340 (dk dcX10_law_0 4 rfl) ?_
    refine v_aload_n C 0 (dk dcX10_law_0 5 rfl) rfl rfl ?_
    refine gt_DB_laws C wd_338 (dk dcX10_law_0 6 rfl) ?_
    refine al_lawsArr C (dk dcX10_law_0 7 rfl) ?_
    refine v_icmp_ge C 31 (dk dcX10_law_0 8 rfl) (by decide) (fun c_2 => ?_) (fun c_2 => ?_)
    · replace h := if_t c_2 h
      exact vj_sub [0] rfl (vX10_law_j31 hL C _ h)
    · replace h := if_f c_2 h
      refine v_aload_n C 0 (dk dcX10_law_0 9 rfl) rfl rfl ?_
      refine gt_DB_laws C wd_338 (dk dcX10_law_0 10 rfl) ?_
      refine v_aload_n C 0 (dk dcX10_law_0 11 rfl) rfl rfl ?_
      refine gt_DB_lawCount C wd_340 (dk dcX10_law_0 12 rfl) ?_
      obtain ⟨b_3, h⟩ := gd_t h
      refine ld_lawsArr C b_3 (dk dcX10_law_0 13 rfl) ?_
      refine v_goto C 32 (dk dcX10_law_0 14 rfl) (by decide) ?_
      exact vj_sub [0] rfl (vX10_law_j32 hL C _ h)
set_option maxRecDepth 20000 in
set_option maxHeartbeats 4000000 in
theorem vX8_firstMistold_j44 {L : Nat} (hL : 6 ≤ L) (C : CX p s m args meth c cX8_firstMistold 5 RX8 (some .int) E) {g : STt} {l4 : Int32} (r : STt × Int32) (h : fX8_firstMistold_j44 g l4 = some r) : VJ p l e (rmL (L + 1)) s m args below meth c (QE below E (cellsC E r.1 ++ wx) (some (.int r.2)) args s) E 5 (cellsC E g ++ wx) [(4, .int l4)] [] 44 := by
  unfold fX8_firstMistold_j44 at h
  refine v_bipush C 100 (dk dcX8_firstMistold_0 22 rfl) kb_100 ?_
  refine v_iload C 0 (dk dcX8_firstMistold_0 23 rfl) rfl ?_
  refine v_iadd C (dk dcX8_firstMistold_0 24 rfl) ?_
  cases h
  exact v_iret C rfl (dk dcX8_firstMistold_0 25 rfl)
set_option maxRecDepth 20000 in
set_option maxHeartbeats 4000000 in
theorem vX8_firstMistold_l8c {L : Nat} (hL : 6 ≤ L) (C : CX p s m args meth c cX8_firstMistold 5 RX8 (some .int) E) {l1 : Nat} {l2 : Int32} {l3 : Nat} (hl1 : l1 < 6) (hl3 : l3 < 10) {K8 : (STt × Int32) → Option (STt × Int32)} (hK8 : ∀ {g : STt} {l4 : Int32} (r : STt × Int32), K8 (g, l4) = some r → VJ p l e (rmL (L + 1)) s m args below meth c (QE below E (cellsC E r.1 ++ wx) (some (.int r.2)) args s) E 5 (cellsC E g ++ wx) [(0, .ref (aE E 10 0)), (1, .ref (aE E 26 l1)), (2, .int l2), (3, .ref (aE E 19 l3)), (4, .int l4)] [] 8) {g : STt} {l4 : Int32} (r : STt × Int32) (h : fX8_firstMistold_l8c K8 l1 l2 l3 g l4 = some r) : VJ p l e (rmL (L + 1)) s m args below meth c (QE below E (cellsC E r.1 ++ wx) (some (.int r.2)) args s) E 5 (cellsC E g ++ wx) [(0, .ref (aE E 10 0)), (1, .ref (aE E 26 l1)), (2, .int l2), (3, .ref (aE E 19 l3)), (4, .int l4)] [] 8 := by
  unfold fX8_firstMistold_l8c at h
  refine v_iload C 4 (dk dcX8_firstMistold_0 5 rfl) rfl ?_
  refine v_aload_n C 0 (dk dcX8_firstMistold_0 6 rfl) rfl rfl ?_
  refine gt_Trial_present C wd_264 (dk dcX8_firstMistold_0 7 rfl) ?_
  refine gt_Moment_acts C (by decide) wd_229 (dk dcX8_firstMistold_0 8 rfl) ?_
  obtain ⟨r_2, h_1, h⟩ := bnd1_s h
  refine v_callV1 C (mtX5_size (L - 1) (by omega) (by decide) h_1) wmX5_size wd_797 (by omega) (by decide) rfl _ (ce_Strip (by decide)) rfl rfl (Nat.le_of_ble_eq_true rfl) (dk dcX8_firstMistold_0 9 rfl) ?_
  refine v_icmp_ge C 100 (dk dcX8_firstMistold_0 10 rfl) (by decide) (fun c_3 => ?_) (fun c_3 => ?_)
  · replace h := if_t c_3 h
    refine v_bipush C (-5) (dk dcX8_firstMistold_1 4 rfl) kb_m5 ?_
    cases h
    exact v_iret C rfl (dk dcX8_firstMistold_1 5 rfl)
  · replace h := if_f c_3 h
    refine v_iload_n C 2 (dk dcX8_firstMistold_0 11 rfl) rfl rfl ?_
    refine v_if_lt C 44 (dk dcX8_firstMistold_0 12 rfl) (by decide) (fun c_4 => ?_) (fun c_4 => ?_)
    · replace h := if_t c_4 h
      exact vj_sub [4] rfl (vX8_firstMistold_j44 hL C _ h)
    · replace h := if_f c_4 h
      refine v_iload_n C 2 (dk dcX8_firstMistold_0 13 rfl) rfl rfl ?_
      refine v_bipush C 60 (dk dcX8_firstMistold_0 14 rfl) kb_60 ?_
      refine v_icmp_gt C 44 (dk dcX8_firstMistold_0 15 rfl) (by decide) (fun c_5 => ?_) (fun c_5 => ?_)
      · replace h := if_t c_5 h
        exact vj_sub [4] rfl (vX8_firstMistold_j44 hL C _ h)
      · replace h := if_f c_5 h
        refine v_aload_n C 1 (dk dcX8_firstMistold_0 16 rfl) rfl rfl ?_
        refine v_iload_n C 2 (dk dcX8_firstMistold_0 17 rfl) rfl rfl ?_
        refine v_iload C 4 (dk dcX8_firstMistold_0 18 rfl) rfl ?_
        refine v_iadd C (dk dcX8_firstMistold_0 19 rfl) ?_
        obtain ⟨r_7, h_6, h⟩ := bnd1_s h
        refine v_callV1 C (mtX6_has (L - 1) (by omega) hl1 h_6) wmX6_has wd_968 (by omega) (by decide) rfl _ (ce_Tape hl1) rfl rfl (Nat.le_of_ble_eq_true rfl) (dk dcX8_firstMistold_0 20 rfl) ?_
        refine v_if_ne C 50 (dk dcX8_firstMistold_0 21 rfl) (by decide) (fun c_8 => ?_) (fun c_8 => ?_)
        · replace h := if_f c_8 h
          refine v_aload_n C 0 (dk dcX8_firstMistold_0 26 rfl) rfl rfl ?_
          refine gt_Trial_walk C wd_263 (dk dcX8_firstMistold_0 27 rfl) ?_
          refine v_aload_n C 3 (dk dcX8_firstMistold_0 28 rfl) rfl rfl ?_
          refine v_aload_n C 0 (dk dcX8_firstMistold_0 29 rfl) rfl rfl ?_
          refine gt_Trial_present C wd_264 (dk dcX8_firstMistold_0 30 rfl) ?_
          refine gt_Moment_acts C (by decide) wd_229 (dk dcX8_firstMistold_0 31 rfl) ?_
          refine v_iload C 4 (dk dcX8_firstMistold_0 32 rfl) rfl ?_
          obtain ⟨r_10, h_9, h⟩ := bnd1_s h
          refine v_callV1 C (mtX5_get (L - 1) (by omega) (by decide) h_9) wmX5_get wd_798 (by omega) (by decide) rfl _ (ce_Strip (by decide)) rfl rfl (Nat.le_of_ble_eq_true rfl) (dk dcX8_firstMistold_0 33 rfl) ?_
          refine v_iconst C 0 (dk dcX8_firstMistold_0 34 rfl) ki_0 ?_
          obtain ⟨g_12, r_13, h_11, h⟩ := bnd_s h
          refine v_callV1 C (mtX9_step (L - 1) (by omega) hl3 h_11) wmX9_step wd_799 (by omega) (by decide) rfl _ (ce_Walk) rfl rfl (Nat.le_of_ble_eq_true rfl) (dk dcX8_firstMistold_0 35 rfl) ?_
          refine v_pop C rfl (dk dcX8_firstMistold_0 36 rfl) ?_
          refine v_aload_n C 1 (dk dcX8_firstMistold_0 37 rfl) rfl rfl ?_
          refine v_iload_n C 2 (dk dcX8_firstMistold_0 38 rfl) rfl rfl ?_
          refine v_iload C 4 (dk dcX8_firstMistold_0 39 rfl) rfl ?_
          refine v_iadd C (dk dcX8_firstMistold_0 40 rfl) ?_
          obtain ⟨r_15, h_14, h⟩ := bnd1_s h
          refine v_callV1 C (mtX6_get (L - 1) (by omega) hl1 h_14) wmX6_get wd_972 (by omega) (by decide) rfl _ (ce_Tape hl1) rfl rfl (Nat.le_of_ble_eq_true rfl) (dk dcX8_firstMistold_0 41 rfl) ?_
          refine v_aload_n C 3 (dk dcX8_firstMistold_0 42 rfl) rfl rfl ?_
          refine v_bipush C 12 (dk dcX8_firstMistold_0 43 rfl) kb_12 ?_
          obtain ⟨r_17, h_16, h⟩ := bnd1_s h
          refine v_callV1 C (mtX1_get (L - 1) (by omega) hl3 h_16) wmX1_get wd_792 (by omega) (by decide) rfl _ (ce_Donkey hl3) rfl rfl (Nat.le_of_ble_eq_true rfl) (dk dcX8_firstMistold_0 44 rfl) ?_
          refine v_i2l C (dk dcX8_firstMistold_0 45 rfl) ?_
          refine v_lcmp C (dk dcX8_firstMistold_0 46 rfl) ?_
          refine v_if_eq C 94 (dk dcX8_firstMistold_0 47 rfl) (by decide) (fun c_18 => ?_) (fun c_18 => ?_)
          · replace h := if_t c_18 h
            refine v_iinc C (lv' := [(4, .int (l4 + 1)), (0, .ref (aE E 10 0)), (1, .ref (aE E 26 l1)), (2, .int l2), (3, .ref (aE E 19 l3))]) (l4 + 1) 4 (dk dcX8_firstMistold_1 2 rfl) rfl (congrArg (fun z => l4 + z) ki_1) (by decide) rfl ?_
            refine v_goto C 8 (dk dcX8_firstMistold_1 3 rfl) (by decide) ?_
            exact vj_sub [1, 2, 3, 4, 0] rfl (hK8 _ h)
          · replace h := if_f c_18 h
            refine v_iload C 4 (dk dcX8_firstMistold_1 0 rfl) rfl ?_
            cases h
            exact v_iret C rfl (dk dcX8_firstMistold_1 1 rfl)
        · replace h := if_t c_8 h
          exact vj_sub [4] rfl (vX8_firstMistold_j44 hL C _ h)
set_option maxRecDepth 20000 in
set_option maxHeartbeats 4000000 in
theorem vX8_firstMistold_l8 {L : Nat} (hL : 6 ≤ L) (C : CX p s m args meth c cX8_firstMistold 5 RX8 (some .int) E) {l1 : Nat} {l2 : Int32} {l3 : Nat} (hl1 : l1 < 6) (hl3 : l3 < 10) {g : STt} {l4 : Int32} (r : STt × Int32) (h : fX8_firstMistold_l8 l1 l2 l3 g l4 = some r) : VJ p l e (rmL (L + 1)) s m args below meth c (QE below E (cellsC E r.1 ++ wx) (some (.int r.2)) args s) E 5 (cellsC E g ++ wx) [(0, .ref (aE E 10 0)), (1, .ref (aE E 26 l1)), (2, .int l2), (3, .ref (aE E 19 l3)), (4, .int l4)] [] 8 :=
  iterO_ind (F := fun K z => fX8_firstMistold_l8c K l1 l2 l3 z.1 z.2) (fun z r => VJ p l e (rmL (L + 1)) s m args below meth c (QE below E (cellsC E r.1 ++ wx) (some (.int r.2)) args s) E 5 (cellsC E z.1 ++ wx) [(0, .ref (aE E 10 0)), (1, .ref (aE E 26 l1)), (2, .int l2), (3, .ref (aE E 19 l3)), (4, .int z.2)] [] 8) (fun K hK z r h => vX8_firstMistold_l8c hL C hl1 hl3 (fun {g} {l4} r h => hK (g, l4) r h) r h) fuelN (g, l4) r h
set_option maxRecDepth 20000 in
set_option maxHeartbeats 4000000 in
theorem mtX8_firstMistold {l : Launch} {E : WEt} {wx : va_W} (L : Nat) (hL : 6 ≤ L)  {g : STt} {d1 : Nat} (hd1 : d1 < 6) {x2 : Int32} {g' : STt} {rr : Int32} (h : fX8_firstMistold g d1 x2 = some (g', rr)) : MT l E yX8_firstMistold cX8_firstMistold 5 (some .int) (L + 1) [.ref (aE E 10 0), .ref (aE E 26 d1), .int x2] (cellsC E g ++ wx) (cellsC E g' ++ wx) (some (.int rr)) := by
  refine mt_of (by decide +kernel) (Nat.le_of_ble_eq_true rfl) ?_
  intro p e s m args below meth c C
  replace C : CX p s m args meth c cX8_firstMistold 5 RX8 (some .int) E := C
  unfold fX8_firstMistold at h
  refine vj_sub (lv' := [(0, .ref (aE E 10 0)), (1, .ref (aE E 26 d1)), (2, .int x2)]) [0, 1, 2] rfl ?_
  refine v_aload_n C 0 (dk dcX8_firstMistold_0 0 rfl) rfl rfl ?_
  obtain ⟨g_2, r_3, h_1, h⟩ := bnd_s h
  refine v_callV1 C (mtX8_begin (L - 1) (by omega) h_1) wmX8_begin wd_777 (by omega) (by decide) rfl _ (ce_Trial) rfl rfl (Nat.le_of_ble_eq_true rfl) (dk dcX8_firstMistold_0 1 rfl) ?_
  obtain ⟨b_4, h⟩ := gd_t h
  refine v_astore_n C (lv' := [(3, .ref (aE E 19 r_3)), (0, .ref (aE E 10 0)), (1, .ref (aE E 26 d1)), (2, .int x2)]) (dk dcX8_firstMistold_0 2 rfl) rfl (by decide) rfl ?_
  refine v_iconst C 0 (dk dcX8_firstMistold_0 3 rfl) ki_0 ?_
  refine v_istore C (lv' := [(4, .int 0), (3, .ref (aE E 19 r_3)), (0, .ref (aE E 10 0)), (1, .ref (aE E 26 d1)), (2, .int x2)]) (dk dcX8_firstMistold_0 4 rfl) (by decide) rfl ?_
  exact vj_sub [2, 3, 4, 1, 0] rfl (vX8_firstMistold_l8 hL C hd1 b_4 _ h)
set_option maxRecDepth 20000 in
set_option maxHeartbeats 4000000 in
theorem vX10_judge_j29 {L : Nat} (hL : 7 ≤ L) (C : CX p s m args meth c cX10_judge 4 RX10 (some .int) E) {g : STt} {l2 : Int32} {l3 : Nat} (hl3 : l3 < 6) (r : STt × Int32) (h : fX10_judge_j29 g l2 l3 = some r) : VJ p l e (rmL (L + 1)) s m args below meth c (QE below E (cellsC E r.1 ++ wx) (some (.int r.2)) args s) E 4 (cellsC E g ++ wx) [(0, .ref (aE E 0 0)), (2, .int l2), (3, .ref (aE E 26 l3))] [] 29 := by
  unfold fX10_judge_j29 at h
  refine v_aload_n C 0 (dk dcX10_judge_0 16 rfl) rfl rfl ?_
  refine gt_DB_trial C wd_342 (dk dcX10_judge_0 17 rfl) ?_
  refine v_aload_n C 2 (dk dcX10_judge_0 18 rfl) rfl rfl ?_
  refine v_iload_n C 1 (dk dcX10_judge_0 19 rfl) rfl rfl ?_
  obtain ⟨g_2, r_3, h_1, h⟩ := bnd_s h
  refine v_callV1 C (mtX8_firstMistold (L - 1) (by omega) hl3 h_1) wmX8_firstMistold wd_964 (by omega) (by decide) rfl _ (ce_Trial) rfl rfl (Nat.le_of_ble_eq_true rfl) (dk dcX10_judge_0 20 rfl) ?_
  cases h
  exact v_iret C rfl (dk dcX10_judge_0 21 rfl)
set_option maxRecDepth 20000 in
set_option maxHeartbeats 4000000 in
theorem mtX10_judge {l : Launch} {E : WEt} {wx : va_W} (L : Nat) (hL : 7 ≤ L)  {g : STt} {x1 : Int32} {x2 : Int32} {g' : STt} {rr : Int32} (h : fX10_judge g x1 x2 = some (g', rr)) : MT l E yX10_judge cX10_judge 4 (some .int) (L + 1) [.ref (aE E 0 0), .int x1, .int x2] (cellsC E g ++ wx) (cellsC E g' ++ wx) (some (.int rr)) := by
  refine mt_of (by decide +kernel) (Nat.le_of_ble_eq_true rfl) ?_
  intro p e s m args below meth c C
  replace C : CX p s m args meth c cX10_judge 4 RX10 (some .int) E := C
  unfold fX10_judge at h
  refine vj_sub (lv' := [(0, .ref (aE E 0 0)), (1, .int x1), (2, .int x2)]) [0, 1, 2] rfl ?_
  refine v_aload_n C 0 (dk dcX10_judge_0 0 rfl) rfl rfl ?_
  refine v_iload_n C 1 (dk dcX10_judge_0 1 rfl) rfl rfl ?_
  obtain ⟨r_2, h_1, h⟩ := bnd1_s h
  refine v_callV1 C (mtX10_tapeOf (L - 1) (by omega) h_1) wmX10_tapeOf wd_952 (by omega) (by decide) rfl _ (ce_DB) rfl rfl (Nat.le_of_ble_eq_true rfl) (dk dcX10_judge_0 2 rfl) ?_
  rcases r_2 with _ | q_4
  · dsimp only [ocase] at h
    refine v_astore_nN C (lv' := [(3, .null), (0, .ref (aE E 0 0)), (1, .int x1), (2, .int x2)]) (dk dcX10_judge_0 3 rfl) rfl (by decide) rfl ?_
    refine v_aload_nN C 0 (dk dcX10_judge_0 4 rfl) rfl rfl ?_
    refine v_ifnonnullN C (dk dcX10_judge_0 5 rfl) ?_
    refine v_iconst C (-1) (dk dcX10_judge_0 6 rfl) ki_m1 ?_
    cases h
    exact v_iret C rfl (dk dcX10_judge_0 7 rfl)
  · dsimp only [ocase] at h
    obtain ⟨b_3, h⟩ := gd_t h
    refine v_astore_n C (lv' := [(3, .ref (aE E 26 q_4)), (0, .ref (aE E 0 0)), (1, .int x1), (2, .int x2)]) (dk dcX10_judge_0 3 rfl) rfl (by decide) rfl ?_
    refine v_aload_n C 0 (dk dcX10_judge_0 4 rfl) rfl rfl ?_
    refine v_ifnonnull C 12 (dk dcX10_judge_0 5 rfl) (by decide) ?_
    refine v_aload_n C 0 (dk dcX10_judge_0 8 rfl) rfl rfl ?_
    obtain ⟨r_6, h_5, h⟩ := bnd1_s h
    refine v_callV1 C (mtX6_holdsSomething (L - 1) (by omega) b_3 h_5) wmX6_holdsSomething wd_956 (by omega) (by decide) rfl _ (ce_Tape b_3) rfl rfl (Nat.le_of_ble_eq_true rfl) (dk dcX10_judge_0 9 rfl) ?_
    refine v_if_eq C 29 (dk dcX10_judge_0 10 rfl) (by decide) (fun c_7 => ?_) (fun c_7 => ?_)
    · replace h := if_t c_7 h
      exact vj_sub [1, 3, 0] rfl (vX10_judge_j29 hL C b_3 _ h)
    · replace h := if_f c_7 h
      refine v_aload_n C 0 (dk dcX10_judge_0 11 rfl) rfl rfl ?_
      obtain ⟨r_9, h_8, h⟩ := bnd1_s h
      refine v_callV1 C (mtX6_sort (L - 1) (by omega) b_3 h_8) wmX6_sort wd_960 (by omega) (by decide) rfl _ (ce_Tape b_3) rfl rfl (Nat.le_of_ble_eq_true rfl) (dk dcX10_judge_0 12 rfl) ?_
      refine v_if_eq C 29 (dk dcX10_judge_0 13 rfl) (by decide) (fun c_10 => ?_) (fun c_10 => ?_)
      · replace h := if_t c_10 h
        exact vj_sub [1, 3, 0] rfl (vX10_judge_j29 hL C b_3 _ h)
      · replace h := if_f c_10 h
        refine v_bipush C (-12) (dk dcX10_judge_0 14 rfl) kb_m12 ?_
        cases h
        exact v_iret C rfl (dk dcX10_judge_0 15 rfl)
set_option maxRecDepth 20000 in
set_option maxHeartbeats 4000000 in
theorem mtX6_cut {l : Launch} {E : WEt} {wx : va_W} (L : Nat) (hL : 2 ≤ L)  {g : STt} {d0 : Nat} (hd0 : d0 < 6) {x1 : Int64} {rr : Int64} (h : fX6_cut g d0 x1 = some rr) : MT l E yX6_cut cX6_cut 3 (some .long) (L + 1) [.ref (aE E 26 d0), .long x1] (cellsC E g ++ wx) (cellsC E g ++ wx) (some (.long rr)) := by
  refine mt_of (by decide +kernel) (Nat.le_of_ble_eq_true rfl) ?_
  intro p e s m args below meth c C
  replace C : CX p s m args meth c cX6_cut 3 RX6 (some .long) E := C
  unfold fX6_cut at h
  refine vj_sub (lv' := [(0, .ref (aE E 26 d0)), (1, .long x1)]) [0, 1] rfl ?_
  refine v_aload_n C 0 (dk dcX6_cut_0 0 rfl) rfl rfl ?_
  refine gt_Tape_sort C hd0 wd_326 (dk dcX6_cut_0 1 rfl) ?_
  by_cases c_1 : (g.1 29 d0) = 0
  · replace h := if_t c_1 h
    refine v_tableIn C 40 (dk dcX6_cut_0 2 rfl) (by rw [c_1]; decide) (by rw [c_1]; decide) (by rw [c_1]; rfl) (by decide) ?_
    refine v_lload_n C 1 (dk dcX6_cut_0 3 rfl) rfl rfl ?_
    refine v_l2i C (dk dcX6_cut_0 4 rfl) ?_
    refine v_i2b C (dk dcX6_cut_0 5 rfl) ?_
    refine v_i2l C (dk dcX6_cut_0 6 rfl) ?_
    cases h
    exact v_lret C rfl (dk dcX6_cut_0 7 rfl)
  · replace h := if_f c_1 h
    by_cases c_2 : (g.1 29 d0) = 1
    · replace h := if_t c_2 h
      refine v_tableIn C 45 (dk dcX6_cut_0 2 rfl) (by rw [c_2]; decide) (by rw [c_2]; decide) (by rw [c_2]; rfl) (by decide) ?_
      refine v_lload_n C 1 (dk dcX6_cut_0 8 rfl) rfl rfl ?_
      refine v_l2i C (dk dcX6_cut_0 9 rfl) ?_
      refine v_i2s C (dk dcX6_cut_0 10 rfl) ?_
      refine v_i2l C (dk dcX6_cut_0 11 rfl) ?_
      cases h
      exact v_lret C rfl (dk dcX6_cut_0 12 rfl)
    · replace h := if_f c_2 h
      by_cases c_3 : (g.1 29 d0) = 2
      · replace h := if_t c_3 h
        refine v_tableIn C 50 (dk dcX6_cut_0 2 rfl) (by rw [c_3]; decide) (by rw [c_3]; decide) (by rw [c_3]; rfl) (by decide) ?_
        refine v_lload_n C 1 (dk dcX6_cut_0 13 rfl) rfl rfl ?_
        refine v_l2i C (dk dcX6_cut_0 14 rfl) ?_
        refine v_i2l C (dk dcX6_cut_0 15 rfl) ?_
        cases h
        exact v_lret C rfl (dk dcX6_cut_0 16 rfl)
      · replace h := if_f c_3 h
        by_cases c_4 : (g.1 29 d0) = 3
        · replace h := if_t c_4 h
          refine v_tableIn C 66 (dk dcX6_cut_0 2 rfl) (by rw [c_4]; decide) (by rw [c_4]; decide) (by rw [c_4]; rfl) (by decide) ?_
          refine v_lload_n C 1 (dk dcX6_cut_0 25 rfl) rfl rfl ?_
          cases h
          exact v_lret C rfl (dk dcX6_cut_0 26 rfl)
        · replace h := if_f c_4 h
          by_cases c_5 : (g.1 29 d0) = 4
          · replace h := if_t c_5 h
            refine v_tableIn C 54 (dk dcX6_cut_0 2 rfl) (by rw [c_5]; decide) (by rw [c_5]; decide) (by rw [c_5]; rfl) (by decide) ?_
            refine v_lload_n C 1 (dk dcX6_cut_0 17 rfl) rfl rfl ?_
            refine v_lconst C 0 (dk dcX6_cut_0 18 rfl) rfl ?_
            refine v_lcmp C (dk dcX6_cut_0 19 rfl) ?_
            refine v_if_ne C 64 (dk dcX6_cut_0 20 rfl) (by decide) (fun c_6 => ?_) (fun c_6 => ?_)
            · replace h := if_f c_6 h
              refine v_lconst C 1 (dk dcX6_cut_0 23 rfl) rfl ?_
              cases h
              exact v_lret C rfl (dk dcX6_cut_0 24 rfl)
            · replace h := if_t c_6 h
              refine v_lconst C 0 (dk dcX6_cut_0 21 rfl) rfl ?_
              refine v_goto C 65 (dk dcX6_cut_0 22 rfl) (by decide) ?_
              cases h
              exact v_lret C rfl (dk dcX6_cut_0 24 rfl)
          · replace h := if_f c_5 h
            have ec_1 := i32_ne (k := 0) c_1 (by decide)
            have ec_2 := i32_ne (k := 1) c_2 (by decide)
            have ec_3 := i32_ne (k := 2) c_3 (by decide)
            have ec_4 := i32_ne (k := 3) c_4 (by decide)
            have ec_5 := i32_ne (k := 4) c_5 (by decide)
            refine v_tableOut C 66 (dk dcX6_cut_0 2 rfl) (by omega) (by decide) ?_
            refine v_lload_n C 1 (dk dcX6_cut_0 25 rfl) rfl rfl ?_
            cases h
            exact v_lret C rfl (dk dcX6_cut_0 26 rfl)
set_option maxRecDepth 20000 in
set_option maxHeartbeats 4000000 in
theorem mtX6_put {l : Launch} {E : WEt} {wx : va_W} (L : Nat) (hL : 3 ≤ L)  {g : STt} {d0 : Nat} (hd0 : d0 < 6) {x1 : Int32} {x2 : Int64} {g' : STt} (h : fX6_put g d0 x1 x2 = some g') : MT l E yX6_put cX6_put 4 none (L + 1) [.ref (aE E 26 d0), .int x1, .long x2] (cellsC E g ++ wx) (cellsC E g' ++ wx) none := by
  refine mt_of (by decide +kernel) (Nat.le_of_ble_eq_true rfl) ?_
  intro p e s m args below meth c C
  replace C : CX p s m args meth c cX6_put 4 RX6 none E := C
  unfold fX6_put at h
  refine vj_sub (lv' := [(0, .ref (aE E 26 d0)), (1, .int x1), (2, .long x2)]) [0, 1, 2] rfl ?_
  refine v_aload_n C 0 (dk dcX6_put_0 0 rfl) rfl rfl ?_
  refine v_iload_n C 1 (dk dcX6_put_0 1 rfl) rfl rfl ?_
  obtain ⟨r_2, h_1, h⟩ := bnd1_s h
  refine v_callV1 C (mtX6_has (L - 1) (by omega) hd0 h_1) wmX6_has wd_976 (by omega) (by decide) rfl _ (ce_Tape hd0) rfl rfl (Nat.le_of_ble_eq_true rfl) (dk dcX6_put_0 2 rfl) ?_
  refine v_if_eq C 19 (dk dcX6_put_0 3 rfl) (by decide) (fun c_3 => ?_) (fun c_3 => ?_)
  · replace h := if_t c_3 h
    cases h
    exact v_vret C rfl (dk dcX6_put_0 11 rfl)
  · replace h := if_f c_3 h
    refine v_aload_n C 0 (dk dcX6_put_0 4 rfl) rfl rfl ?_
    refine gt_Tape_items C hd0 wd_325 (dk dcX6_put_0 5 rfl) ?_
    refine v_iload_n C 1 (dk dcX6_put_0 6 rfl) rfl rfl ?_
    refine v_aload_n C 0 (dk dcX6_put_0 7 rfl) rfl rfl ?_
    refine v_lload_n C 2 (dk dcX6_put_0 8 rfl) rfl rfl ?_
    obtain ⟨r_5, h_4, h⟩ := bnd1_s h
    refine v_callV1 C (mtX6_cut (L - 1) (by omega) hd0 h_4) wmX6_cut wd_1079 (by omega) (by decide) rfl _ (ce_Tape hd0) rfl rfl (Nat.le_of_ble_eq_true rfl) (dk dcX6_put_0 9 rfl) ?_
    obtain ⟨b_6, h⟩ := gd_t h
    refine st_tapeItems C hd0 b_6 (dk dcX6_put_0 10 rfl) ?_
    cases h
    exact v_vret C rfl (dk dcX6_put_0 11 rfl)
set_option maxRecDepth 20000 in
set_option maxHeartbeats 4000000 in
theorem mtX10_item {l : Launch} {E : WEt} {wx : va_W} (L : Nat) (hL : 4 ≤ L)  {g : STt} {x1 : Int32} {x2 : Int32} {x3 : Int64} {g' : STt} {rr : Int32} (h : fX10_item g x1 x2 x3 = some (g', rr)) : MT l E yX10_item cX10_item 6 (some .int) (L + 1) [.ref (aE E 0 0), .int x1, .int x2, .long x3] (cellsC E g ++ wx) (cellsC E g' ++ wx) (some (.int rr)) := by
  refine mt_of (by decide +kernel) (Nat.le_of_ble_eq_true rfl) ?_
  intro p e s m args below meth c C
  replace C : CX p s m args meth c cX10_item 6 RX10 (some .int) E := C
  unfold fX10_item at h
  refine vj_sub (lv' := [(0, .ref (aE E 0 0)), (1, .int x1), (2, .int x2), (3, .long x3)]) [0, 1, 2, 3] rfl ?_
  refine v_aload_n C 0 (dk dcX10_item_0 0 rfl) rfl rfl ?_
  refine v_iload_n C 1 (dk dcX10_item_0 1 rfl) rfl rfl ?_
  obtain ⟨r_2, h_1, h⟩ := bnd1_s h
  refine v_callV1 C (mtX10_tapeOf (L - 1) (by omega) h_1) wmX10_tapeOf wd_952 (by omega) (by decide) rfl _ (ce_DB) rfl rfl (Nat.le_of_ble_eq_true rfl) (dk dcX10_item_0 2 rfl) ?_
  rcases r_2 with _ | q_4
  · dsimp only [ocase] at h
    refine v_astoreN C (lv' := [(5, .null), (0, .ref (aE E 0 0)), (1, .int x1), (2, .int x2), (3, .long x3)]) (dk dcX10_item_0 3 rfl) (by decide) rfl ?_
    refine v_aloadN C 0 (dk dcX10_item_0 4 rfl) rfl ?_
    refine v_ifnonnullN C (dk dcX10_item_0 5 rfl) ?_
    refine v_iconst C (-1) (dk dcX10_item_0 6 rfl) ki_m1 ?_
    cases h
    exact v_iret C rfl (dk dcX10_item_0 7 rfl)
  · dsimp only [ocase] at h
    obtain ⟨b_3, h⟩ := gd_t h
    refine v_astore C (lv' := [(5, .ref (aE E 26 q_4)), (0, .ref (aE E 0 0)), (1, .int x1), (2, .int x2), (3, .long x3)]) (dk dcX10_item_0 3 rfl) (by decide) rfl ?_
    refine v_aload C 0 (dk dcX10_item_0 4 rfl) rfl ?_
    refine v_ifnonnull C 14 (dk dcX10_item_0 5 rfl) (by decide) ?_
    refine v_aload C 0 (dk dcX10_item_0 8 rfl) rfl ?_
    obtain ⟨r_6, h_5, h⟩ := bnd1_s h
    refine v_callV1 C (mtX6_holdsSomething (L - 1) (by omega) b_3 h_5) wmX6_holdsSomething wd_956 (by omega) (by decide) rfl _ (ce_Tape b_3) rfl rfl (Nat.le_of_ble_eq_true rfl) (dk dcX10_item_0 9 rfl) ?_
    refine v_if_ne C 25 (dk dcX10_item_0 10 rfl) (by decide) (fun c_7 => ?_) (fun c_7 => ?_)
    · replace h := if_f c_7 h
      refine v_aload C 0 (dk dcX10_item_0 13 rfl) rfl ?_
      refine v_iload_n C 3 (dk dcX10_item_0 14 rfl) rfl rfl ?_
      obtain ⟨r_9, h_8, h⟩ := bnd1_s h
      refine v_callV1 C (mtX6_has (L - 1) (by omega) b_3 h_8) wmX6_has wd_1074 (by omega) (by decide) rfl _ (ce_Tape b_3) rfl rfl (Nat.le_of_ble_eq_true rfl) (dk dcX10_item_0 15 rfl) ?_
      refine v_if_ne C 37 (dk dcX10_item_0 16 rfl) (by decide) (fun c_10 => ?_) (fun c_10 => ?_)
      · replace h := if_f c_10 h
        refine v_aload C 0 (dk dcX10_item_0 19 rfl) rfl ?_
        refine v_iload_n C 3 (dk dcX10_item_0 20 rfl) rfl rfl ?_
        refine v_lload_n C 4 (dk dcX10_item_0 21 rfl) rfl rfl ?_
        obtain ⟨g_12, h_11, h⟩ := bnd1_s h
        refine v_callV0 C (mtX6_put (L - 1) (by omega) b_3 h_11) wmX6_put wd_1075 (by omega) (by decide) rfl _ (ce_Tape b_3) rfl rfl (Nat.le_of_ble_eq_true rfl) (dk dcX10_item_0 22 rfl) ?_
        refine v_iconst C 1 (dk dcX10_item_0 23 rfl) ki_1 ?_
        cases h
        exact v_iret C rfl (dk dcX10_item_0 24 rfl)
      · replace h := if_t c_10 h
        refine v_bipush C (-13) (dk dcX10_item_0 17 rfl) kb_m13 ?_
        cases h
        exact v_iret C rfl (dk dcX10_item_0 18 rfl)
    · replace h := if_t c_7 h
      refine v_bipush C (-11) (dk dcX10_item_0 11 rfl) kb_m11 ?_
      cases h
      exact v_iret C rfl (dk dcX10_item_0 12 rfl)
set_option maxRecDepth 20000 in
set_option maxHeartbeats 4000000 in
theorem mtX10_image {l : Launch} {E : WEt} {wx : va_W} (L : Nat) (hL : 5 ≤ L)  {g : STt} {g' : STt} {rr : Int32} (h : fX10_image g = some (g', rr)) : MT l E yX10_image cX10_image 1 (some .int) (L + 1) [.ref (aE E 0 0)] (cellsC E g ++ wx) (cellsC E g' ++ wx) (some (.int rr)) := by
  refine mt_of (by decide +kernel) (Nat.le_of_ble_eq_true rfl) ?_
  intro p e s m args below meth c C
  replace C : CX p s m args meth c cX10_image 1 RX10 (some .int) E := C
  unfold fX10_image at h
  refine vj_sub (lv' := [(0, .ref (aE E 0 0))]) [0] rfl ?_
  refine v_aload_n C 0 (dk dcX10_image_0 0 rfl) rfl rfl ?_
  refine gt_DB_kept C wd_346 (dk dcX10_image_0 1 rfl) ?_
  refine v_aload_n C 0 (dk dcX10_image_0 2 rfl) rfl rfl ?_
  refine gt_DB_present C wd_345 (dk dcX10_image_0 3 rfl) ?_
  obtain ⟨g_2, h_1, h⟩ := bnd1_s h
  refine v_callV0 C (mtX3_become (L - 1) (by omega) (by decide) (by decide) h_1) wmX3_become wd_981 (by omega) (by decide) rfl _ (ce_Moment (by decide)) rfl rfl (Nat.le_of_ble_eq_true rfl) (dk dcX10_image_0 4 rfl) ?_
  refine v_aload_n C 0 (dk dcX10_image_0 5 rfl) rfl rfl ?_
  refine v_iconst C 1 (dk dcX10_image_0 6 rfl) ki_1 ?_
  refine pt_DB_imageTaken C rfl rfl wd_347 (dk dcX10_image_0 7 rfl) ?_
  refine v_aload_n C 0 (dk dcX10_image_0 8 rfl) rfl rfl ?_
  refine gt_DB_present C wd_345 (dk dcX10_image_0 9 rfl) ?_
  refine gt_Moment_donkey C (by decide) wd_227 (dk dcX10_image_0 10 rfl) ?_
  refine v_bipush C 12 (dk dcX10_image_0 11 rfl) kb_12 ?_
  obtain ⟨r_4, h_3, h⟩ := bnd1_s h
  refine v_callV1 C (mtX1_get (L - 1) (by omega) (by decide) h_3) wmX1_get wd_412 (by omega) (by decide) rfl _ (ce_Donkey (by decide)) rfl rfl (Nat.le_of_ble_eq_true rfl) (dk dcX10_image_0 12 rfl) ?_
  cases h
  exact v_iret C rfl (dk dcX10_image_0 13 rfl)
set_option maxRecDepth 20000 in
set_option maxHeartbeats 4000000 in
theorem vX8_doRow_l2c {L : Nat} (hL : 6 ≤ L) (C : CX p s m args meth c cX8_doRow 4 RX8 none E) {l1 : Nat} {l2 : Int32} (hl1 : l1 < 10) {K2 : (STt × Int32) → Option STt} (hK2 : ∀ {g : STt} {l3 : Int32} (r : STt), K2 (g, l3) = some r → VJ p l e (rmL (L + 1)) s m args below meth c (QE below E (cellsC E r ++ wx) (none) args s) E 4 (cellsC E g ++ wx) [(0, .ref (aE E 10 0)), (1, .ref (aE E 19 l1)), (2, .int l2), (3, .int l3)] [] 2) {g : STt} {l3 : Int32} (r : STt) (h : fX8_doRow_l2c K2 l1 l2 g l3 = some r) : VJ p l e (rmL (L + 1)) s m args below meth c (QE below E (cellsC E r ++ wx) (none) args s) E 4 (cellsC E g ++ wx) [(0, .ref (aE E 10 0)), (1, .ref (aE E 19 l1)), (2, .int l2), (3, .int l3)] [] 2 := by
  unfold fX8_doRow_l2c at h
  refine v_iload_n C 3 (dk dcX8_doRow_0 2 rfl) rfl rfl ?_
  refine v_iload_n C 2 (dk dcX8_doRow_0 3 rfl) rfl rfl ?_
  refine v_icmp_ge C 48 (dk dcX8_doRow_0 4 rfl) (by decide) (fun c_1 => ?_) (fun c_1 => ?_)
  · replace h := if_t c_1 h
    cases h
    exact v_vret C rfl (dk dcX8_doRow_0 24 rfl)
  · replace h := if_f c_1 h
    refine v_iload_n C 3 (dk dcX8_doRow_0 5 rfl) rfl rfl ?_
    refine v_aload_n C 0 (dk dcX8_doRow_0 6 rfl) rfl rfl ?_
    refine gt_Trial_present C wd_264 (dk dcX8_doRow_0 7 rfl) ?_
    refine gt_Moment_acts C (by decide) wd_229 (dk dcX8_doRow_0 8 rfl) ?_
    obtain ⟨r_3, h_2, h⟩ := bnd1_s h
    refine v_callV1 C (mtX5_size (L - 1) (by omega) (by decide) h_2) wmX5_size wd_797 (by omega) (by decide) rfl _ (ce_Strip (by decide)) rfl rfl (Nat.le_of_ble_eq_true rfl) (dk dcX8_doRow_0 9 rfl) ?_
    refine v_icmp_ge C 48 (dk dcX8_doRow_0 10 rfl) (by decide) (fun c_4 => ?_) (fun c_4 => ?_)
    · replace h := if_t c_4 h
      cases h
      exact v_vret C rfl (dk dcX8_doRow_0 24 rfl)
    · replace h := if_f c_4 h
      refine v_aload_n C 0 (dk dcX8_doRow_0 11 rfl) rfl rfl ?_
      refine gt_Trial_walk C wd_263 (dk dcX8_doRow_0 12 rfl) ?_
      refine v_aload_n C 1 (dk dcX8_doRow_0 13 rfl) rfl rfl ?_
      refine v_aload_n C 0 (dk dcX8_doRow_0 14 rfl) rfl rfl ?_
      refine gt_Trial_present C wd_264 (dk dcX8_doRow_0 15 rfl) ?_
      refine gt_Moment_acts C (by decide) wd_229 (dk dcX8_doRow_0 16 rfl) ?_
      refine v_iload_n C 3 (dk dcX8_doRow_0 17 rfl) rfl rfl ?_
      obtain ⟨r_6, h_5, h⟩ := bnd1_s h
      refine v_callV1 C (mtX5_get (L - 1) (by omega) (by decide) h_5) wmX5_get wd_798 (by omega) (by decide) rfl _ (ce_Strip (by decide)) rfl rfl (Nat.le_of_ble_eq_true rfl) (dk dcX8_doRow_0 18 rfl) ?_
      refine v_iconst C 0 (dk dcX8_doRow_0 19 rfl) ki_0 ?_
      obtain ⟨g_8, r_9, h_7, h⟩ := bnd_s h
      refine v_callV1 C (mtX9_step (L - 1) (by omega) hl1 h_7) wmX9_step wd_799 (by omega) (by decide) rfl _ (ce_Walk) rfl rfl (Nat.le_of_ble_eq_true rfl) (dk dcX8_doRow_0 20 rfl) ?_
      refine v_pop C rfl (dk dcX8_doRow_0 21 rfl) ?_
      refine v_iinc C (lv' := [(3, .int (l3 + 1)), (0, .ref (aE E 10 0)), (1, .ref (aE E 19 l1)), (2, .int l2)]) (l3 + 1) 3 (dk dcX8_doRow_0 22 rfl) rfl (congrArg (fun z => l3 + z) ki_1) (by decide) rfl ?_
      refine v_goto C 2 (dk dcX8_doRow_0 23 rfl) (by decide) ?_
      exact vj_sub [1, 2, 3, 0] rfl (hK2 _ h)
set_option maxRecDepth 20000 in
set_option maxHeartbeats 4000000 in
theorem vX8_doRow_l2 {L : Nat} (hL : 6 ≤ L) (C : CX p s m args meth c cX8_doRow 4 RX8 none E) {l1 : Nat} {l2 : Int32} (hl1 : l1 < 10) {g : STt} {l3 : Int32} (r : STt) (h : fX8_doRow_l2 l1 l2 g l3 = some r) : VJ p l e (rmL (L + 1)) s m args below meth c (QE below E (cellsC E r ++ wx) (none) args s) E 4 (cellsC E g ++ wx) [(0, .ref (aE E 10 0)), (1, .ref (aE E 19 l1)), (2, .int l2), (3, .int l3)] [] 2 :=
  iterO_ind (F := fun K z => fX8_doRow_l2c K l1 l2 z.1 z.2) (fun z r => VJ p l e (rmL (L + 1)) s m args below meth c (QE below E (cellsC E r ++ wx) (none) args s) E 4 (cellsC E z.1 ++ wx) [(0, .ref (aE E 10 0)), (1, .ref (aE E 19 l1)), (2, .int l2), (3, .int z.2)] [] 2) (fun K hK z r h => vX8_doRow_l2c hL C hl1 (fun {g} {l3} r h => hK (g, l3) r h) r h) fuelN (g, l3) r h
set_option maxRecDepth 20000 in
set_option maxHeartbeats 4000000 in
theorem mtX8_doRow {l : Launch} {E : WEt} {wx : va_W} (L : Nat) (hL : 6 ≤ L)  {g : STt} {d1 : Nat} (hd1 : d1 < 10) {x2 : Int32} {g' : STt} (h : fX8_doRow g d1 x2 = some g') : MT l E yX8_doRow cX8_doRow 4 none (L + 1) [.ref (aE E 10 0), .ref (aE E 19 d1), .int x2] (cellsC E g ++ wx) (cellsC E g' ++ wx) none := by
  refine mt_of (by decide +kernel) (Nat.le_of_ble_eq_true rfl) ?_
  intro p e s m args below meth c C
  replace C : CX p s m args meth c cX8_doRow 4 RX8 none E := C
  unfold fX8_doRow at h
  refine vj_sub (lv' := [(0, .ref (aE E 10 0)), (1, .ref (aE E 19 d1)), (2, .int x2)]) [0, 1, 2] rfl ?_
  refine v_iconst C 0 (dk dcX8_doRow_0 0 rfl) ki_0 ?_
  refine v_istore_n C (lv' := [(3, .int 0), (0, .ref (aE E 10 0)), (1, .ref (aE E 19 d1)), (2, .int x2)]) (dk dcX8_doRow_0 1 rfl) rfl (by decide) rfl ?_
  exact vj_sub [1, 2, 3, 0] rfl (vX8_doRow_l2 hL C hd1 _ h)
set_option maxRecDepth 20000 in
set_option maxHeartbeats 4000000 in
theorem mtX8_byHand {l : Launch} {E : WEt} {wx : va_W} (L : Nat) (hL : 7 ≤ L)  {g : STt} {x1 : Int32} {g' : STt} {rr : Nat} (h : fX8_byHand g x1 = some (g', rr)) : MT l E yX8_byHand cX8_byHand 3 (some (.object "DonkeyBridge$Donkey")) (L + 1) [.ref (aE E 10 0), .int x1] (cellsC E g ++ wx) (cellsC E g' ++ wx) (some (.ref (aE E 19 rr))) := by
  refine mt_of (by decide +kernel) (Nat.le_of_ble_eq_true rfl) ?_
  intro p e s m args below meth c C
  replace C : CX p s m args meth c cX8_byHand 3 RX8 (some (.object "DonkeyBridge$Donkey")) E := C
  unfold fX8_byHand at h
  refine vj_sub (lv' := [(0, .ref (aE E 10 0)), (1, .int x1)]) [0, 1] rfl ?_
  refine v_aload_n C 0 (dk dcX8_byHand_0 0 rfl) rfl rfl ?_
  obtain ⟨g_2, r_3, h_1, h⟩ := bnd_s h
  refine v_callV1 C (mtX8_begin (L - 1) (by omega) h_1) wmX8_begin wd_777 (by omega) (by decide) rfl _ (ce_Trial) rfl rfl (Nat.le_of_ble_eq_true rfl) (dk dcX8_byHand_0 1 rfl) ?_
  obtain ⟨b_4, h⟩ := gd_t h
  refine v_astore_n C (lv' := [(2, .ref (aE E 19 r_3)), (0, .ref (aE E 10 0)), (1, .int x1)]) (dk dcX8_byHand_0 2 rfl) rfl (by decide) rfl ?_
  refine v_aload_n C 1 (dk dcX8_byHand_0 3 rfl) rfl rfl ?_
  refine v_aload_n C 0 (dk dcX8_byHand_0 4 rfl) rfl rfl ?_
  refine v_iload_n C 2 (dk dcX8_byHand_0 5 rfl) rfl rfl ?_
  obtain ⟨g_6, h_5, h⟩ := bnd1_s h
  refine v_callV0 C (mtX8_doRow (L - 1) (by omega) b_4 h_5) wmX8_doRow wd_793 (by omega) (by decide) rfl _ (ce_Trial) rfl rfl (Nat.le_of_ble_eq_true rfl) (dk dcX8_byHand_0 6 rfl) ?_
  refine v_aload_n C 0 (dk dcX8_byHand_0 7 rfl) rfl rfl ?_
  cases h
  exact v_aret C rfl ⟨_, rfl⟩ (Or.inr ⟨_, rfl⟩) (dk dcX8_byHand_0 8 rfl)
set_option maxRecDepth 20000 in
set_option maxHeartbeats 4000000 in
theorem mtX10_hand {l : Launch} {E : WEt} {wx : va_W} (L : Nat) (hL : 8 ≤ L)  {g : STt} {x1 : Int32} {x2 : Int32} {g' : STt} {rr : Int32} (h : fX10_hand g x1 x2 = some (g', rr)) : MT l E yX10_hand cX10_hand 3 (some .int) (L + 1) [.ref (aE E 0 0), .int x1, .int x2] (cellsC E g ++ wx) (cellsC E g' ++ wx) (some (.int rr)) := by
  refine mt_of (by decide +kernel) (Nat.le_of_ble_eq_true rfl) ?_
  intro p e s m args below meth c C
  replace C : CX p s m args meth c cX10_hand 3 RX10 (some .int) E := C
  unfold fX10_hand at h
  refine vj_sub (lv' := [(0, .ref (aE E 0 0)), (1, .int x1), (2, .int x2)]) [0, 1, 2] rfl ?_
  refine v_iload_n C 2 (dk dcX10_hand_0 0 rfl) rfl rfl ?_
  refine v_if_lt C 10 (dk dcX10_hand_0 1 rfl) (by decide) (fun c_1 => ?_) (fun c_1 => ?_)
  · replace h := if_t c_1 h
    refine v_iconst C (-1) (dk dcX10_hand_0 5 rfl) ki_m1 ?_
    cases h
    exact v_iret C rfl (dk dcX10_hand_0 6 rfl)
  · replace h := if_f c_1 h
    refine v_iload_n C 2 (dk dcX10_hand_0 2 rfl) rfl rfl ?_
    refine v_bipush C 15 (dk dcX10_hand_0 3 rfl) kb_15 ?_
    refine v_icmp_le C 12 (dk dcX10_hand_0 4 rfl) (by decide) (fun c_2 => ?_) (fun c_2 => ?_)
    · replace h := if_t c_2 h
      refine v_iload_n C 1 (dk dcX10_hand_0 7 rfl) rfl rfl ?_
      refine v_if_lt C 30 (dk dcX10_hand_0 8 rfl) (by decide) (fun c_3 => ?_) (fun c_3 => ?_)
      · replace h := if_t c_3 h
        refine v_bipush C (-2) (dk dcX10_hand_0 15 rfl) kb_m2 ?_
        cases h
        exact v_iret C rfl (dk dcX10_hand_0 16 rfl)
      · replace h := if_f c_3 h
        refine v_iload_n C 1 (dk dcX10_hand_0 9 rfl) rfl rfl ?_
        refine v_aload_n C 0 (dk dcX10_hand_0 10 rfl) rfl rfl ?_
        refine gt_DB_present C wd_345 (dk dcX10_hand_0 11 rfl) ?_
        refine gt_Moment_acts C (by decide) wd_230 (dk dcX10_hand_0 12 rfl) ?_
        obtain ⟨r_5, h_4, h⟩ := bnd1_s h
        refine v_callV1 C (mtX5_size (L - 1) (by omega) (by decide) h_4) wmX5_size wd_768 (by omega) (by decide) rfl _ (ce_Strip (by decide)) rfl rfl (Nat.le_of_ble_eq_true rfl) (dk dcX10_hand_0 13 rfl) ?_
        refine v_icmp_le C 33 (dk dcX10_hand_0 14 rfl) (by decide) (fun c_6 => ?_) (fun c_6 => ?_)
        · replace h := if_t c_6 h
          refine v_aload_n C 0 (dk dcX10_hand_0 17 rfl) rfl rfl ?_
          refine gt_DB_trial C wd_342 (dk dcX10_hand_0 18 rfl) ?_
          refine v_iload_n C 1 (dk dcX10_hand_0 19 rfl) rfl rfl ?_
          obtain ⟨g_8, r_9, h_7, h⟩ := bnd_s h
          refine v_callV1 C (mtX8_byHand (L - 1) (by omega) h_7) wmX8_byHand wd_773 (by omega) (by decide) rfl _ (ce_Trial) rfl rfl (Nat.le_of_ble_eq_true rfl) (dk dcX10_hand_0 20 rfl) ?_
          obtain ⟨b_10, h⟩ := gd_t h
          refine v_iload_n C 2 (dk dcX10_hand_0 21 rfl) rfl rfl ?_
          obtain ⟨r_12, h_11, h⟩ := bnd1_s h
          refine v_callV1 C (mtX1_tell (L - 1) (by omega) b_10 h_11) wmX1_tell wd_424 (by omega) (by decide) rfl _ (ce_Donkey b_10) rfl rfl (Nat.le_of_ble_eq_true rfl) (dk dcX10_hand_0 22 rfl) ?_
          cases h
          exact v_iret C rfl (dk dcX10_hand_0 23 rfl)
        · replace h := if_f c_6 h
          refine v_bipush C (-2) (dk dcX10_hand_0 15 rfl) kb_m2 ?_
          cases h
          exact v_iret C rfl (dk dcX10_hand_0 16 rfl)
    · replace h := if_f c_2 h
      refine v_iconst C (-1) (dk dcX10_hand_0 5 rfl) ki_m1 ?_
      cases h
      exact v_iret C rfl (dk dcX10_hand_0 6 rfl)
set_option maxRecDepth 20000 in
set_option maxHeartbeats 4000000 in
theorem mtX10_go {l : Launch} {E : WEt} {wx : va_W} (L : Nat) (hL : 6 ≤ L)  {g : STt} {x1 : Int32} {g' : STt} {rr : Int32} (h : fX10_go g x1 = some (g', rr)) : MT l E yX10_go cX10_go 2 (some .int) (L + 1) [.ref (aE E 0 0), .int x1] (cellsC E g ++ wx) (cellsC E g' ++ wx) (some (.int rr)) := by
  refine mt_of (by decide +kernel) (Nat.le_of_ble_eq_true rfl) ?_
  intro p e s m args below meth c C
  replace C : CX p s m args meth c cX10_go 2 RX10 (some .int) E := C
  unfold fX10_go at h
  refine vj_sub (lv' := [(0, .ref (aE E 0 0)), (1, .int x1)]) [0, 1] rfl ?_
  refine v_iload_n C 1 (dk dcX10_go_0 0 rfl) rfl rfl ?_
  obtain ⟨r_2, h_1, h⟩ := bnd1_s h
  refine v_callS1 C (mtX10_isAct (L - 1) (by omega) h_1) wmX10_isAct wd_695 (by omega) (by decide) rfl rfl (Nat.le_of_ble_eq_true rfl) (dk dcX10_go_0 1 rfl) ?_
  refine v_if_ne C 9 (dk dcX10_go_0 2 rfl) (by decide) (fun c_3 => ?_) (fun c_3 => ?_)
  · replace h := if_f c_3 h
    refine v_aload_n C 0 (dk dcX10_go_0 5 rfl) rfl rfl ?_
    refine gt_DB_present C wd_345 (dk dcX10_go_0 6 rfl) ?_
    refine gt_Moment_donkey C (by decide) wd_227 (dk dcX10_go_0 7 rfl) ?_
    refine v_bipush C 14 (dk dcX10_go_0 8 rfl) kb_14 ?_
    obtain ⟨r_5, h_4, h⟩ := bnd1_s h
    refine v_callV1 C (mtX1_get (L - 1) (by omega) (by decide) h_4) wmX1_get wd_412 (by omega) (by decide) rfl _ (ce_Donkey (by decide)) rfl rfl (Nat.le_of_ble_eq_true rfl) (dk dcX10_go_0 9 rfl) ?_
    refine v_aload_n C 0 (dk dcX10_go_0 10 rfl) rfl rfl ?_
    refine gt_DB_walk C wd_341 (dk dcX10_go_0 11 rfl) ?_
    refine v_iload_n C 1 (dk dcX10_go_0 12 rfl) rfl rfl ?_
    obtain ⟨r_7, h_6, h⟩ := bnd1_s h
    refine v_callV1 C (mtX9_halfMinutesOf (L - 1) (by omega) h_6) wmX9_halfMinutesOf wd_735 (by omega) (by decide) rfl _ (ce_Walk) rfl rfl (Nat.le_of_ble_eq_true rfl) (dk dcX10_go_0 13 rfl) ?_
    refine v_iadd C (dk dcX10_go_0 14 rfl) ?_
    refine v_sipush C 9999 (dk dcX10_go_0 15 rfl) ks_9999 ?_
    refine v_icmp_le C 39 (dk dcX10_go_0 16 rfl) (by decide) (fun c_8 => ?_) (fun c_8 => ?_)
    · replace h := if_t c_8 h
      refine v_aload_n C 0 (dk dcX10_go_0 19 rfl) rfl rfl ?_
      refine gt_DB_walk C wd_341 (dk dcX10_go_0 20 rfl) ?_
      refine v_aload_n C 0 (dk dcX10_go_0 21 rfl) rfl rfl ?_
      refine gt_DB_present C wd_345 (dk dcX10_go_0 22 rfl) ?_
      refine gt_Moment_donkey C (by decide) wd_227 (dk dcX10_go_0 23 rfl) ?_
      refine v_iload_n C 1 (dk dcX10_go_0 24 rfl) rfl rfl ?_
      refine v_iconst C 0 (dk dcX10_go_0 25 rfl) ki_0 ?_
      obtain ⟨g_10, r_11, h_9, h⟩ := bnd_s h
      refine v_callV1 C (mtX9_step (L - 1) (by omega) (by decide) h_9) wmX9_step wd_739 (by omega) (by decide) rfl _ (ce_Walk) rfl rfl (Nat.le_of_ble_eq_true rfl) (dk dcX10_go_0 26 rfl) ?_
      cases h
      exact v_iret C rfl (dk dcX10_go_0 27 rfl)
    · replace h := if_f c_8 h
      refine v_bipush C (-3) (dk dcX10_go_0 17 rfl) kb_m3 ?_
      cases h
      exact v_iret C rfl (dk dcX10_go_0 18 rfl)
  · replace h := if_t c_3 h
    refine v_iconst C (-1) (dk dcX10_go_0 3 rfl) ki_m1 ?_
    cases h
    exact v_iret C rfl (dk dcX10_go_0 4 rfl)
set_option maxRecDepth 20000 in
set_option maxHeartbeats 4000000 in
theorem vX8_keepGentler_j35 {L : Nat} (hL : 3 ≤ L) (C : CX p s m args meth c cX8_keepGentler 4 RX8 none E) {g : STt} {l2 : Int32} {l3 : Int32} (r : STt) (h : fX8_keepGentler_j35 g l2 l3 = some r) : VJ p l e (rmL (L + 1)) s m args below meth c (QE below E (cellsC E r ++ wx) (none) args s) E 4 (cellsC E g ++ wx) [(0, .ref (aE E 10 0)), (2, .int l2), (3, .int l3)] [] 35 := by
  unfold fX8_keepGentler_j35 at h
  refine v_aload_n C 0 (dk dcX8_keepGentler_0 17 rfl) rfl rfl ?_
  refine v_iload_n C 2 (dk dcX8_keepGentler_0 18 rfl) rfl rfl ?_
  refine pt_Trial_bestLearnt C wd_270 (dk dcX8_keepGentler_0 19 rfl) ?_
  refine v_aload_n C 0 (dk dcX8_keepGentler_0 20 rfl) rfl rfl ?_
  refine v_iload_n C 1 (dk dcX8_keepGentler_0 21 rfl) rfl rfl ?_
  obtain ⟨g_2, h_1, h⟩ := bnd1_s h
  refine v_callV0 C (mtX8_keepTried (L - 1) (by omega) h_1) wmX8_keepTried wd_820 (by omega) (by decide) rfl _ (ce_Trial) rfl rfl (Nat.le_of_ble_eq_true rfl) (dk dcX8_keepGentler_0 22 rfl) ?_
  cases h
  exact v_vret C rfl (dk dcX8_keepGentler_0 23 rfl)
set_option maxRecDepth 20000 in
set_option maxHeartbeats 4000000 in
theorem mtX8_keepGentler {l : Launch} {E : WEt} {wx : va_W} (L : Nat) (hL : 3 ≤ L)  {g : STt} {d1 : Nat} (hd1 : d1 < 10) {x2 : Int32} {g' : STt} (h : fX8_keepGentler g d1 x2 = some g') : MT l E yX8_keepGentler cX8_keepGentler 4 none (L + 1) [.ref (aE E 10 0), .ref (aE E 19 d1), .int x2] (cellsC E g ++ wx) (cellsC E g' ++ wx) none := by
  refine mt_of (by decide +kernel) (Nat.le_of_ble_eq_true rfl) ?_
  intro p e s m args below meth c C
  replace C : CX p s m args meth c cX8_keepGentler 4 RX8 none E := C
  unfold fX8_keepGentler at h
  refine vj_sub (lv' := [(0, .ref (aE E 10 0)), (1, .ref (aE E 19 d1)), (2, .int x2)]) [0, 1, 2] rfl ?_
  refine v_aload_n C 1 (dk dcX8_keepGentler_0 0 rfl) rfl rfl ?_
  obtain ⟨r_2, h_1, h⟩ := bnd1_s h
  refine v_callV1 C (mtX1_learnt (L - 1) (by omega) hd1 h_1) wmX1_learnt wd_845 (by omega) (by decide) rfl _ (ce_Donkey hd1) rfl rfl (Nat.le_of_ble_eq_true rfl) (dk dcX8_keepGentler_0 1 rfl) ?_
  refine v_istore_n C (lv' := [(3, .int r_2), (0, .ref (aE E 10 0)), (1, .ref (aE E 19 d1)), (2, .int x2)]) (dk dcX8_keepGentler_0 2 rfl) rfl (by decide) rfl ?_
  refine v_aload_n C 2 (dk dcX8_keepGentler_0 3 rfl) rfl rfl ?_
  refine v_bipush C 12 (dk dcX8_keepGentler_0 4 rfl) kb_12 ?_
  obtain ⟨r_4, h_3, h⟩ := bnd1_s h
  refine v_callV1 C (mtX1_get (L - 1) (by omega) hd1 h_3) wmX1_get wd_792 (by omega) (by decide) rfl _ (ce_Donkey hd1) rfl rfl (Nat.le_of_ble_eq_true rfl) (dk dcX8_keepGentler_0 5 rfl) ?_
  refine v_aload_n C 1 (dk dcX8_keepGentler_0 6 rfl) rfl rfl ?_
  refine gt_Trial_goal C wd_271 (dk dcX8_keepGentler_0 7 rfl) ?_
  refine v_icmp_lt C 45 (dk dcX8_keepGentler_0 8 rfl) (by decide) (fun c_5 => ?_) (fun c_5 => ?_)
  · replace h := if_t c_5 h
    cases h
    exact v_vret C rfl (dk dcX8_keepGentler_0 23 rfl)
  · replace h := if_f c_5 h
    refine v_aload_n C 1 (dk dcX8_keepGentler_0 9 rfl) rfl rfl ?_
    refine gt_Trial_bestSize C wd_269 (dk dcX8_keepGentler_0 10 rfl) ?_
    refine v_bipush C (-5) (dk dcX8_keepGentler_0 11 rfl) kb_m5 ?_
    refine v_icmp_eq C 35 (dk dcX8_keepGentler_0 12 rfl) (by decide) (fun c_6 => ?_) (fun c_6 => ?_)
    · replace h := if_t c_6 h
      exact vj_sub [1, 3, 0] rfl (vX8_keepGentler_j35 hL C _ h)
    · replace h := if_f c_6 h
      refine v_iload_n C 0 (dk dcX8_keepGentler_0 13 rfl) rfl rfl ?_
      refine v_aload_n C 1 (dk dcX8_keepGentler_0 14 rfl) rfl rfl ?_
      refine gt_Trial_bestLearnt C wd_270 (dk dcX8_keepGentler_0 15 rfl) ?_
      refine v_icmp_ge C 45 (dk dcX8_keepGentler_0 16 rfl) (by decide) (fun c_7 => ?_) (fun c_7 => ?_)
      · replace h := if_t c_7 h
        cases h
        exact v_vret C rfl (dk dcX8_keepGentler_0 23 rfl)
      · replace h := if_f c_7 h
        exact vj_sub [1, 3, 0] rfl (vX8_keepGentler_j35 hL C _ h)
set_option maxRecDepth 20000 in
set_option maxHeartbeats 4000000 in
theorem vX8_tryGentler_j37 {L : Nat} (hL : 6 ≤ L) {qX8_tryGentler : STt → Int32 → Int32 → Option STt} {qX8_tryGentlerWith : STt → Int32 → Int32 → Int32 → Option STt} (hcX8_tryGentler : ∀ {g : STt} {x1 : Int32} {x2 : Int32} {g' : STt}, qX8_tryGentler g x1 x2 = some g' → MT l E yX8_tryGentler cX8_tryGentler 4 none (L) [.ref (aE E 10 0), .int x1, .int x2] (cellsC E g ++ wx) (cellsC E g' ++ wx) none) (hcX8_tryGentlerWith : ∀ {g : STt} {x1 : Int32} {x2 : Int32} {x3 : Int32} {g' : STt}, qX8_tryGentlerWith g x1 x2 x3 = some g' → MT l E yX8_tryGentlerWith cX8_tryGentlerWith 4 none (L) [.ref (aE E 10 0), .int x1, .int x2, .int x3] (cellsC E g ++ wx) (cellsC E g' ++ wx) none) (C : CX p s m args meth c cX8_tryGentler 4 RX8 none E) {g : STt} {l1 : Int32} {l2 : Int32} {l3 : Int32} {K18 : (STt × Int32) → Option STt} (hK18 : ∀ {g : STt} {l3 : Int32} (r : STt), K18 (g, l3) = some r → VJ p l e (rmL (L + 1)) s m args below meth c (QE below E (cellsC E r ++ wx) (none) args s) E 4 (cellsC E g ++ wx) [(0, .ref (aE E 10 0)), (1, .int l1), (2, .int l2), (3, .int l3)] [] 18) (r : STt) (h : fX8_tryGentler_j37 qX8_tryGentler qX8_tryGentlerWith K18 g l1 l2 l3 = some r) : VJ p l e (rmL (L + 1)) s m args below meth c (QE below E (cellsC E r ++ wx) (none) args s) E 4 (cellsC E g ++ wx) [(0, .ref (aE E 10 0)), (1, .int l1), (2, .int l2), (3, .int l3)] [] 37 := by
  unfold fX8_tryGentler_j37 at h
  refine v_iinc C (lv' := [(3, .int (l3 + 1)), (0, .ref (aE E 10 0)), (1, .int l1), (2, .int l2)]) (l3 + 1) 3 (dk dcX8_tryGentler_0 23 rfl) rfl (congrArg (fun z => l3 + z) ki_1) (by decide) rfl ?_
  refine v_goto C 18 (dk dcX8_tryGentler_0 24 rfl) (by decide) ?_
  exact vj_sub [1, 2, 3, 0] rfl (hK18 _ h)
set_option maxRecDepth 20000 in
set_option maxHeartbeats 4000000 in
theorem vX8_tryGentler_l18c {L : Nat} (hL : 6 ≤ L) {qX8_tryGentler : STt → Int32 → Int32 → Option STt} {qX8_tryGentlerWith : STt → Int32 → Int32 → Int32 → Option STt} (hcX8_tryGentler : ∀ {g : STt} {x1 : Int32} {x2 : Int32} {g' : STt}, qX8_tryGentler g x1 x2 = some g' → MT l E yX8_tryGentler cX8_tryGentler 4 none (L) [.ref (aE E 10 0), .int x1, .int x2] (cellsC E g ++ wx) (cellsC E g' ++ wx) none) (hcX8_tryGentlerWith : ∀ {g : STt} {x1 : Int32} {x2 : Int32} {x3 : Int32} {g' : STt}, qX8_tryGentlerWith g x1 x2 x3 = some g' → MT l E yX8_tryGentlerWith cX8_tryGentlerWith 4 none (L) [.ref (aE E 10 0), .int x1, .int x2, .int x3] (cellsC E g ++ wx) (cellsC E g' ++ wx) none) (C : CX p s m args meth c cX8_tryGentler 4 RX8 none E) {l1 : Int32} {l2 : Int32} {K18 : (STt × Int32) → Option STt} (hK18 : ∀ {g : STt} {l3 : Int32} (r : STt), K18 (g, l3) = some r → VJ p l e (rmL (L + 1)) s m args below meth c (QE below E (cellsC E r ++ wx) (none) args s) E 4 (cellsC E g ++ wx) [(0, .ref (aE E 10 0)), (1, .int l1), (2, .int l2), (3, .int l3)] [] 18) {g : STt} {l3 : Int32} (r : STt) (h : fX8_tryGentler_l18c qX8_tryGentler qX8_tryGentlerWith K18 l1 l2 g l3 = some r) : VJ p l e (rmL (L + 1)) s m args below meth c (QE below E (cellsC E r ++ wx) (none) args s) E 4 (cellsC E g ++ wx) [(0, .ref (aE E 10 0)), (1, .int l1), (2, .int l2), (3, .int l3)] [] 18 := by
  unfold fX8_tryGentler_l18c at h
  refine v_iload_n C 3 (dk dcX8_tryGentler_0 12 rfl) rfl rfl ?_
  refine v_bipush C 7 (dk dcX8_tryGentler_0 13 rfl) kb_7 ?_
  refine v_icmp_gt C 43 (dk dcX8_tryGentler_0 14 rfl) (by decide) (fun c_1 => ?_) (fun c_1 => ?_)
  · replace h := if_t c_1 h
    cases h
    exact v_vret C rfl (dk dcX8_tryGentler_0 25 rfl)
  · replace h := if_f c_1 h
    refine v_iload_n C 3 (dk dcX8_tryGentler_0 15 rfl) rfl rfl ?_
    refine v_bipush C 6 (dk dcX8_tryGentler_0 16 rfl) kb_6 ?_
    refine v_icmp_eq C 37 (dk dcX8_tryGentler_0 17 rfl) (by decide) (fun c_2 => ?_) (fun c_2 => ?_)
    · replace h := if_t c_2 h
      exact vj_sub [0, 1, 2, 3] rfl (vX8_tryGentler_j37 hL hcX8_tryGentler hcX8_tryGentlerWith C hK18 _ h)
    · replace h := if_f c_2 h
      refine v_aload_n C 0 (dk dcX8_tryGentler_0 18 rfl) rfl rfl ?_
      refine v_iload_n C 1 (dk dcX8_tryGentler_0 19 rfl) rfl rfl ?_
      refine v_iload_n C 2 (dk dcX8_tryGentler_0 20 rfl) rfl rfl ?_
      refine v_iload_n C 3 (dk dcX8_tryGentler_0 21 rfl) rfl rfl ?_
      obtain ⟨g_4, h_3, h⟩ := bnd1_s h
      refine v_callV0 C (hcX8_tryGentlerWith h_3) wmX8_tryGentlerWith wd_846 (by omega) (by decide) rfl _ (ce_Trial) rfl rfl (Nat.le_of_ble_eq_true rfl) (dk dcX8_tryGentler_0 22 rfl) ?_
      exact vj_sub [0, 1, 2, 3] rfl (vX8_tryGentler_j37 hL hcX8_tryGentler hcX8_tryGentlerWith C hK18 _ h)
set_option maxRecDepth 20000 in
set_option maxHeartbeats 4000000 in
theorem vX8_tryGentler_l18 {L : Nat} (hL : 6 ≤ L) {qX8_tryGentler : STt → Int32 → Int32 → Option STt} {qX8_tryGentlerWith : STt → Int32 → Int32 → Int32 → Option STt} (hcX8_tryGentler : ∀ {g : STt} {x1 : Int32} {x2 : Int32} {g' : STt}, qX8_tryGentler g x1 x2 = some g' → MT l E yX8_tryGentler cX8_tryGentler 4 none (L) [.ref (aE E 10 0), .int x1, .int x2] (cellsC E g ++ wx) (cellsC E g' ++ wx) none) (hcX8_tryGentlerWith : ∀ {g : STt} {x1 : Int32} {x2 : Int32} {x3 : Int32} {g' : STt}, qX8_tryGentlerWith g x1 x2 x3 = some g' → MT l E yX8_tryGentlerWith cX8_tryGentlerWith 4 none (L) [.ref (aE E 10 0), .int x1, .int x2, .int x3] (cellsC E g ++ wx) (cellsC E g' ++ wx) none) (C : CX p s m args meth c cX8_tryGentler 4 RX8 none E) {l1 : Int32} {l2 : Int32} {g : STt} {l3 : Int32} (r : STt) (h : fX8_tryGentler_l18 qX8_tryGentler qX8_tryGentlerWith l1 l2 g l3 = some r) : VJ p l e (rmL (L + 1)) s m args below meth c (QE below E (cellsC E r ++ wx) (none) args s) E 4 (cellsC E g ++ wx) [(0, .ref (aE E 10 0)), (1, .int l1), (2, .int l2), (3, .int l3)] [] 18 :=
  iterO_ind (F := fun K z => fX8_tryGentler_l18c qX8_tryGentler qX8_tryGentlerWith K l1 l2 z.1 z.2) (fun z r => VJ p l e (rmL (L + 1)) s m args below meth c (QE below E (cellsC E r ++ wx) (none) args s) E 4 (cellsC E z.1 ++ wx) [(0, .ref (aE E 10 0)), (1, .int l1), (2, .int l2), (3, .int z.2)] [] 18) (fun K hK z r h => vX8_tryGentler_l18c hL hcX8_tryGentler hcX8_tryGentlerWith C (fun {g} {l3} r h => hK (g, l3) r h) r h) fuelN (g, l3) r h
set_option maxRecDepth 20000 in
set_option maxHeartbeats 4000000 in
theorem moX8_tryGentler {l : Launch} {E : WEt} {wx : va_W} (L : Nat) (hL : 6 ≤ L) {qX8_tryGentler : STt → Int32 → Int32 → Option STt} {qX8_tryGentlerWith : STt → Int32 → Int32 → Int32 → Option STt} (hcX8_tryGentler : ∀ {g : STt} {x1 : Int32} {x2 : Int32} {g' : STt}, qX8_tryGentler g x1 x2 = some g' → MT l E yX8_tryGentler cX8_tryGentler 4 none (L) [.ref (aE E 10 0), .int x1, .int x2] (cellsC E g ++ wx) (cellsC E g' ++ wx) none) (hcX8_tryGentlerWith : ∀ {g : STt} {x1 : Int32} {x2 : Int32} {x3 : Int32} {g' : STt}, qX8_tryGentlerWith g x1 x2 x3 = some g' → MT l E yX8_tryGentlerWith cX8_tryGentlerWith 4 none (L) [.ref (aE E 10 0), .int x1, .int x2, .int x3] (cellsC E g ++ wx) (cellsC E g' ++ wx) none)  {g : STt} {x1 : Int32} {x2 : Int32} {g' : STt} (h : FX8_tryGentler qX8_tryGentler qX8_tryGentlerWith g x1 x2 = some g') : MT l E yX8_tryGentler cX8_tryGentler 4 none (L + 1) [.ref (aE E 10 0), .int x1, .int x2] (cellsC E g ++ wx) (cellsC E g' ++ wx) none := by
  refine mt_of (by decide +kernel) (Nat.le_of_ble_eq_true rfl) ?_
  intro p e s m args below meth c C
  replace C : CX p s m args meth c cX8_tryGentler 4 RX8 none E := C
  unfold FX8_tryGentler at h
  refine vj_sub (lv' := [(0, .ref (aE E 10 0)), (1, .int x1), (2, .int x2)]) [0, 1, 2] rfl ?_
  refine v_iload_n C 1 (dk dcX8_tryGentler_0 0 rfl) rfl rfl ?_
  refine v_iload_n C 2 (dk dcX8_tryGentler_0 1 rfl) rfl rfl ?_
  refine v_icmp_lt C 16 (dk dcX8_tryGentler_0 2 rfl) (by decide) (fun c_1 => ?_) (fun c_1 => ?_)
  · replace h := if_t c_1 h
    refine v_iconst C 0 (dk dcX8_tryGentler_0 10 rfl) ki_0 ?_
    refine v_istore_n C (lv' := [(3, .int 0), (0, .ref (aE E 10 0)), (1, .int x1), (2, .int x2)]) (dk dcX8_tryGentler_0 11 rfl) rfl (by decide) rfl ?_
    exact vj_sub [1, 2, 3, 0] rfl (vX8_tryGentler_l18 hL hcX8_tryGentler hcX8_tryGentlerWith C _ h)
  · replace h := if_f c_1 h
    refine v_aload_n C 0 (dk dcX8_tryGentler_0 3 rfl) rfl rfl ?_
    refine v_aload_n C 0 (dk dcX8_tryGentler_0 4 rfl) rfl rfl ?_
    refine v_iload_n C 1 (dk dcX8_tryGentler_0 5 rfl) rfl rfl ?_
    obtain ⟨r_3, h_2, h⟩ := bnd1_s h
    refine v_callV1 C (mtX8_stage (L - 1) (by omega) h_2) wmX8_stage wd_781 (by omega) (by decide) rfl _ (ce_Trial) rfl rfl (Nat.le_of_ble_eq_true rfl) (dk dcX8_tryGentler_0 6 rfl) ?_
    obtain ⟨b_4, h⟩ := gd_t h
    refine v_iload_n C 2 (dk dcX8_tryGentler_0 7 rfl) rfl rfl ?_
    obtain ⟨g_6, h_5, h⟩ := bnd1_s h
    refine v_callV0 C (mtX8_keepGentler (L - 1) (by omega) b_4 h_5) wmX8_keepGentler wd_841 (by omega) (by decide) rfl _ (ce_Trial) rfl rfl (Nat.le_of_ble_eq_true rfl) (dk dcX8_tryGentler_0 8 rfl) ?_
    cases h
    exact v_vret C rfl (dk dcX8_tryGentler_0 9 rfl)
set_option maxRecDepth 20000 in
set_option maxHeartbeats 4000000 in
theorem moX8_tryGentlerWith {l : Launch} {E : WEt} {wx : va_W} (L : Nat) (hL : 6 ≤ L) {qX8_tryGentler : STt → Int32 → Int32 → Option STt} {qX8_tryGentlerWith : STt → Int32 → Int32 → Int32 → Option STt} (hcX8_tryGentler : ∀ {g : STt} {x1 : Int32} {x2 : Int32} {g' : STt}, qX8_tryGentler g x1 x2 = some g' → MT l E yX8_tryGentler cX8_tryGentler 4 none (L) [.ref (aE E 10 0), .int x1, .int x2] (cellsC E g ++ wx) (cellsC E g' ++ wx) none) (hcX8_tryGentlerWith : ∀ {g : STt} {x1 : Int32} {x2 : Int32} {x3 : Int32} {g' : STt}, qX8_tryGentlerWith g x1 x2 x3 = some g' → MT l E yX8_tryGentlerWith cX8_tryGentlerWith 4 none (L) [.ref (aE E 10 0), .int x1, .int x2, .int x3] (cellsC E g ++ wx) (cellsC E g' ++ wx) none)  {g : STt} {x1 : Int32} {x2 : Int32} {x3 : Int32} {g' : STt} (h : FX8_tryGentlerWith qX8_tryGentler qX8_tryGentlerWith g x1 x2 x3 = some g') : MT l E yX8_tryGentlerWith cX8_tryGentlerWith 4 none (L + 1) [.ref (aE E 10 0), .int x1, .int x2, .int x3] (cellsC E g ++ wx) (cellsC E g' ++ wx) none := by
  refine mt_of (by decide +kernel) (Nat.le_of_ble_eq_true rfl) ?_
  intro p e s m args below meth c C
  replace C : CX p s m args meth c cX8_tryGentlerWith 4 RX8 none E := C
  unfold FX8_tryGentlerWith at h
  refine vj_sub (lv' := [(0, .ref (aE E 10 0)), (1, .int x1), (2, .int x2), (3, .int x3)]) [0, 1, 2, 3] rfl ?_
  refine v_iload_n C 1 (dk dcX8_tryGentlerWith_0 0 rfl) rfl rfl ?_
  refine v_if_lt C 13 (dk dcX8_tryGentlerWith_0 1 rfl) (by decide) (fun c_1 => ?_) (fun c_1 => ?_)
  · replace h := if_t c_1 h
    cases h
    exact v_vret C rfl (dk dcX8_tryGentlerWith_0 7 rfl)
  · replace h := if_f c_1 h
    refine v_iload_n C 1 (dk dcX8_tryGentlerWith_0 2 rfl) rfl rfl ?_
    refine v_aload_n C 0 (dk dcX8_tryGentlerWith_0 3 rfl) rfl rfl ?_
    refine gt_Trial_tried C wd_267 (dk dcX8_tryGentlerWith_0 4 rfl) ?_
    refine al_tried C (dk dcX8_tryGentlerWith_0 5 rfl) ?_
    refine v_icmp_lt C 14 (dk dcX8_tryGentlerWith_0 6 rfl) (by decide) (fun c_2 => ?_) (fun c_2 => ?_)
    · replace h := if_t c_2 h
      refine v_aload_n C 0 (dk dcX8_tryGentlerWith_0 8 rfl) rfl rfl ?_
      refine gt_Trial_walk C wd_263 (dk dcX8_tryGentlerWith_0 9 rfl) ?_
      refine v_aload_n C 0 (dk dcX8_tryGentlerWith_0 10 rfl) rfl rfl ?_
      refine v_iload_n C 1 (dk dcX8_tryGentlerWith_0 11 rfl) rfl rfl ?_
      obtain ⟨g_4, r_5, h_3, h⟩ := bnd_s h
      refine v_callV1 C (mtX8_stageAfter (L - 1) (by omega) h_3) wmX8_stageAfter wd_816 (by omega) (by decide) rfl _ (ce_Trial) rfl rfl (Nat.le_of_ble_eq_true rfl) (dk dcX8_tryGentlerWith_0 12 rfl) ?_
      obtain ⟨b_6, h⟩ := gd_t h
      refine v_iload_n C 3 (dk dcX8_tryGentlerWith_0 13 rfl) rfl rfl ?_
      refine v_iconst C 0 (dk dcX8_tryGentlerWith_0 14 rfl) ki_0 ?_
      obtain ⟨g_8, r_9, h_7, h⟩ := bnd_s h
      refine v_callV1 C (mtX9_step (L - 1) (by omega) b_6 h_7) wmX9_step wd_799 (by omega) (by decide) rfl _ (ce_Walk) rfl rfl (Nat.le_of_ble_eq_true rfl) (dk dcX8_tryGentlerWith_0 15 rfl) ?_
      refine v_pop C rfl (dk dcX8_tryGentlerWith_0 16 rfl) ?_
      refine v_aload_n C 0 (dk dcX8_tryGentlerWith_0 17 rfl) rfl rfl ?_
      refine gt_Trial_tried C wd_267 (dk dcX8_tryGentlerWith_0 18 rfl) ?_
      refine v_iload_n C 1 (dk dcX8_tryGentlerWith_0 19 rfl) rfl rfl ?_
      refine v_iload_n C 3 (dk dcX8_tryGentlerWith_0 20 rfl) rfl rfl ?_
      obtain ⟨b_10, h⟩ := gd_t h
      refine st_tried C b_10 (dk dcX8_tryGentlerWith_0 21 rfl) ?_
      refine v_aload_n C 0 (dk dcX8_tryGentlerWith_0 22 rfl) rfl rfl ?_
      refine v_iload_n C 1 (dk dcX8_tryGentlerWith_0 23 rfl) rfl rfl ?_
      refine v_iconst C 1 (dk dcX8_tryGentlerWith_0 24 rfl) ki_1 ?_
      refine v_iadd C (dk dcX8_tryGentlerWith_0 25 rfl) ?_
      refine v_iload_n C 2 (dk dcX8_tryGentlerWith_0 26 rfl) rfl rfl ?_
      obtain ⟨g_12, h_11, h⟩ := bnd1_s h
      refine v_callV0 C (hcX8_tryGentler h_11) wmX8_tryGentler wd_837 (by omega) (by decide) rfl _ (ce_Trial) rfl rfl (Nat.le_of_ble_eq_true rfl) (dk dcX8_tryGentlerWith_0 27 rfl) ?_
      cases h
      exact v_vret C rfl (dk dcX8_tryGentlerWith_0 28 rfl)
    · replace h := if_f c_2 h
      cases h
      exact v_vret C rfl (dk dcX8_tryGentlerWith_0 7 rfl)
set_option maxRecDepth 20000 in
set_option maxHeartbeats 4000000 in
theorem mgX8_tryGentler {l : Launch} {E : WEt} {wx : va_W} : ∀ (n L : Nat), 6 ≤ L → (∀ {g : STt} {x1 : Int32} {x2 : Int32} {g' : STt}, (RGX8_tryGentler n).1 g x1 x2 = some g' → MT l E yX8_tryGentler cX8_tryGentler 4 none (L + n) [.ref (aE E 10 0), .int x1, .int x2] (cellsC E g ++ wx) (cellsC E g' ++ wx) none) ∧ (∀ {g : STt} {x1 : Int32} {x2 : Int32} {x3 : Int32} {g' : STt}, (RGX8_tryGentler n).2 g x1 x2 x3 = some g' → MT l E yX8_tryGentlerWith cX8_tryGentlerWith 4 none (L + n) [.ref (aE E 10 0), .int x1, .int x2, .int x3] (cellsC E g ++ wx) (cellsC E g' ++ wx) none) := by
  intro n
  induction n with
  | zero => intro L hL; exact ⟨(by intros; rename_i h; cases h), (by intros; rename_i h; cases h)⟩
  | succ n ih =>
    intro L hL
    obtain ⟨i0, i1⟩ := ih L hL
    exact ⟨fun {_} {_} {_} {_} h => moX8_tryGentler (L + n) (by omega) i0 i1 h, fun {_} {_} {_} {_} {_} h => moX8_tryGentlerWith (L + n) (by omega) i0 i1 h⟩
set_option maxRecDepth 20000 in
set_option maxHeartbeats 4000000 in
theorem mtX8_tryGentler {l : Launch} {E : WEt} {wx : va_W} (L : Nat) (hL : 26 ≤ L) {g : STt} {x1 : Int32} {x2 : Int32} {g' : STt} (h : fX8_tryGentler fuelX8_tryGentler g x1 x2 = some g') : MT l E yX8_tryGentler cX8_tryGentler 4 none (L + 1) [.ref (aE E 10 0), .int x1, .int x2] (cellsC E g ++ wx) (cellsC E g' ++ wx) none := by
  have e : L + 1 = (L + 1 - fuelX8_tryGentler) + fuelX8_tryGentler := by show L + 1 = (L + 1 - 20) + 20; omega
  rw [e]
  exact (mgX8_tryGentler fuelX8_tryGentler (L + 1 - fuelX8_tryGentler) (by show 6 ≤ L + 1 - 20; omega)).1  h
set_option maxRecDepth 20000 in
set_option maxHeartbeats 4000000 in
theorem mtX8_tryGentlerWith {l : Launch} {E : WEt} {wx : va_W} (L : Nat) (hL : 26 ≤ L) {g : STt} {x1 : Int32} {x2 : Int32} {x3 : Int32} {g' : STt} (h : fX8_tryGentlerWith fuelX8_tryGentler g x1 x2 x3 = some g') : MT l E yX8_tryGentlerWith cX8_tryGentlerWith 4 none (L + 1) [.ref (aE E 10 0), .int x1, .int x2, .int x3] (cellsC E g ++ wx) (cellsC E g' ++ wx) none := by
  have e : L + 1 = (L + 1 - fuelX8_tryGentler) + fuelX8_tryGentler := by show L + 1 = (L + 1 - 20) + 20; omega
  rw [e]
  exact (mgX8_tryGentler fuelX8_tryGentler (L + 1 - fuelX8_tryGentler) (by show 6 ≤ L + 1 - 20; omega)).2  h
set_option maxRecDepth 20000 in
set_option maxHeartbeats 4000000 in
theorem mtX8_findGentlest {l : Launch} {E : WEt} {wx : va_W} (L : Nat) (hL : 27 ≤ L)  {g : STt} {x1 : Int32} {g' : STt} {rr : Int32} (h : fX8_findGentlest g x1 = some (g', rr)) : MT l E yX8_findGentlest cX8_findGentlest 2 (some .int) (L + 1) [.ref (aE E 10 0), .int x1] (cellsC E g ++ wx) (cellsC E g' ++ wx) (some (.int rr)) := by
  refine mt_of (by decide +kernel) (Nat.le_of_ble_eq_true rfl) ?_
  intro p e s m args below meth c C
  replace C : CX p s m args meth c cX8_findGentlest 2 RX8 (some .int) E := C
  unfold fX8_findGentlest at h
  refine vj_sub (lv' := [(0, .ref (aE E 10 0)), (1, .int x1)]) [0, 1] rfl ?_
  refine v_aload_n C 0 (dk dcX8_findGentlest_0 0 rfl) rfl rfl ?_
  obtain ⟨g_2, r_3, h_1, h⟩ := bnd_s h
  refine v_callV1 C (mtX8_begin (L - 1) (by omega) h_1) wmX8_begin wd_777 (by omega) (by decide) rfl _ (ce_Trial) rfl rfl (Nat.le_of_ble_eq_true rfl) (dk dcX8_findGentlest_0 1 rfl) ?_
  obtain ⟨b_4, h⟩ := gd_t h
  refine v_pop C rfl (dk dcX8_findGentlest_0 2 rfl) ?_
  refine v_aload_n C 0 (dk dcX8_findGentlest_0 3 rfl) rfl rfl ?_
  refine v_bipush C (-5) (dk dcX8_findGentlest_0 4 rfl) kb_m5 ?_
  refine pt_Trial_bestSize C wd_269 (dk dcX8_findGentlest_0 5 rfl) ?_
  refine v_aload_n C 0 (dk dcX8_findGentlest_0 6 rfl) rfl rfl ?_
  refine v_iconst C 0 (dk dcX8_findGentlest_0 7 rfl) ki_0 ?_
  refine v_iload_n C 1 (dk dcX8_findGentlest_0 8 rfl) rfl rfl ?_
  obtain ⟨g_6, h_5, h⟩ := bnd1_s h
  refine v_callV0 C (mtX8_tryGentler (L - 1) (by omega) h_5) wmX8_tryGentler wd_837 (by omega) (by decide) rfl _ (ce_Trial) rfl rfl (Nat.le_of_ble_eq_true rfl) (dk dcX8_findGentlest_0 9 rfl) ?_
  refine v_aload_n C 0 (dk dcX8_findGentlest_0 10 rfl) rfl rfl ?_
  refine gt_Trial_bestSize C wd_269 (dk dcX8_findGentlest_0 11 rfl) ?_
  refine v_bipush C (-5) (dk dcX8_findGentlest_0 12 rfl) kb_m5 ?_
  refine v_icmp_ne C 31 (dk dcX8_findGentlest_0 13 rfl) (by decide) (fun c_7 => ?_) (fun c_7 => ?_)
  · replace h := if_f c_7 h
    refine v_aload_n C 0 (dk dcX8_findGentlest_0 16 rfl) rfl rfl ?_
    refine gt_Trial_bestLearnt C wd_270 (dk dcX8_findGentlest_0 17 rfl) ?_
    cases h
    exact v_iret C rfl (dk dcX8_findGentlest_0 18 rfl)
  · replace h := if_t c_7 h
    refine v_bipush C (-5) (dk dcX8_findGentlest_0 14 rfl) kb_m5 ?_
    refine v_goto C 35 (dk dcX8_findGentlest_0 15 rfl) (by decide) ?_
    cases h
    exact v_iret C rfl (dk dcX8_findGentlest_0 18 rfl)
set_option maxRecDepth 20000 in
set_option maxHeartbeats 4000000 in
theorem mtX10_gentlest {l : Launch} {E : WEt} {wx : va_W} (L : Nat) (hL : 28 ≤ L)  {g : STt} {x1 : Int32} {x2 : Int32} {g' : STt} {rr : Int32} (h : fX10_gentlest g x1 x2 = some (g', rr)) : MT l E yX10_gentlest cX10_gentlest 4 (some .int) (L + 1) [.ref (aE E 0 0), .int x1, .int x2] (cellsC E g ++ wx) (cellsC E g' ++ wx) (some (.int rr)) := by
  refine mt_of (by decide +kernel) (Nat.le_of_ble_eq_true rfl) ?_
  intro p e s m args below meth c C
  replace C : CX p s m args meth c cX10_gentlest 4 RX10 (some .int) E := C
  unfold fX10_gentlest at h
  refine vj_sub (lv' := [(0, .ref (aE E 0 0)), (1, .int x1), (2, .int x2)]) [0, 1, 2] rfl ?_
  refine v_iload_n C 1 (dk dcX10_gentlest_0 0 rfl) rfl rfl ?_
  refine v_iconst C 1 (dk dcX10_gentlest_0 1 rfl) ki_1 ?_
  refine v_icmp_lt C 10 (dk dcX10_gentlest_0 2 rfl) (by decide) (fun c_1 => ?_) (fun c_1 => ?_)
  · replace h := if_t c_1 h
    refine v_bipush C (-2) (dk dcX10_gentlest_0 6 rfl) kb_m2 ?_
    cases h
    exact v_iret C rfl (dk dcX10_gentlest_0 7 rfl)
  · replace h := if_f c_1 h
    refine v_iload_n C 1 (dk dcX10_gentlest_0 3 rfl) rfl rfl ?_
    refine v_iconst C 4 (dk dcX10_gentlest_0 4 rfl) ki_4 ?_
    refine v_icmp_le C 13 (dk dcX10_gentlest_0 5 rfl) (by decide) (fun c_2 => ?_) (fun c_2 => ?_)
    · replace h := if_t c_2 h
      refine v_iload_n C 2 (dk dcX10_gentlest_0 8 rfl) rfl rfl ?_
      refine v_iconst C (-1) (dk dcX10_gentlest_0 9 rfl) ki_m1 ?_
      refine v_icmp_lt C 23 (dk dcX10_gentlest_0 10 rfl) (by decide) (fun c_3 => ?_) (fun c_3 => ?_)
      · replace h := if_t c_3 h
        refine v_iconst C (-1) (dk dcX10_gentlest_0 14 rfl) ki_m1 ?_
        cases h
        exact v_iret C rfl (dk dcX10_gentlest_0 15 rfl)
      · replace h := if_f c_3 h
        refine v_iload_n C 2 (dk dcX10_gentlest_0 11 rfl) rfl rfl ?_
        refine v_iload_n C 1 (dk dcX10_gentlest_0 12 rfl) rfl rfl ?_
        refine v_icmp_lt C 25 (dk dcX10_gentlest_0 13 rfl) (by decide) (fun c_4 => ?_) (fun c_4 => ?_)
        · replace h := if_t c_4 h
          refine v_aload_n C 0 (dk dcX10_gentlest_0 16 rfl) rfl rfl ?_
          obtain ⟨r_6, h_5, h⟩ := bnd1_s h
          refine v_callV1 C (mtX10_isOver (L - 1) (by omega) h_5) wmX10_isOver wd_659 (by omega) (by decide) rfl _ (ce_DB) rfl rfl (Nat.le_of_ble_eq_true rfl) (dk dcX10_gentlest_0 17 rfl) ?_
          refine v_if_eq C 35 (dk dcX10_gentlest_0 18 rfl) (by decide) (fun c_7 => ?_) (fun c_7 => ?_)
          · replace h := if_t c_7 h
            refine v_aload_n C 0 (dk dcX10_gentlest_0 21 rfl) rfl rfl ?_
            refine gt_DB_trial C wd_342 (dk dcX10_gentlest_0 22 rfl) ?_
            refine v_iload_n C 1 (dk dcX10_gentlest_0 23 rfl) rfl rfl ?_
            obtain ⟨g_9, r_10, h_8, h⟩ := bnd_s h
            refine v_callV1 C (mtX8_findGentlest (L - 1) (by omega) h_8) wmX8_findGentlest wd_833 (by omega) (by decide) rfl _ (ce_Trial) rfl rfl (Nat.le_of_ble_eq_true rfl) (dk dcX10_gentlest_0 24 rfl) ?_
            refine v_istore_n C (lv' := [(3, .int r_10), (0, .ref (aE E 0 0)), (1, .int x1), (2, .int x2)]) (dk dcX10_gentlest_0 25 rfl) rfl (by decide) rfl ?_
            refine v_iload_n C 3 (dk dcX10_gentlest_0 26 rfl) rfl rfl ?_
            refine v_iconst C (-1) (dk dcX10_gentlest_0 27 rfl) ki_m1 ?_
            refine v_icmp_ne C 53 (dk dcX10_gentlest_0 28 rfl) (by decide) (fun c_11 => ?_) (fun c_11 => ?_)
            · replace h := if_f c_11 h
              refine v_aload_n C 1 (dk dcX10_gentlest_0 31 rfl) rfl rfl ?_
              refine gt_DB_trial C wd_342 (dk dcX10_gentlest_0 32 rfl) ?_
              refine v_iload_n C 3 (dk dcX10_gentlest_0 33 rfl) rfl rfl ?_
              obtain ⟨r_13, h_12, h⟩ := bnd1_s h
              refine v_callV1 C (mtX8_found (L - 1) (by omega) h_12) wmX8_found wd_825 (by omega) (by decide) rfl _ (ce_Trial) rfl rfl (Nat.le_of_ble_eq_true rfl) (dk dcX10_gentlest_0 34 rfl) ?_
              cases h
              exact v_iret C rfl (dk dcX10_gentlest_0 35 rfl)
            · replace h := if_t c_11 h
              refine v_iload_n C 0 (dk dcX10_gentlest_0 29 rfl) rfl rfl ?_
              refine v_goto C 61 (dk dcX10_gentlest_0 30 rfl) (by decide) ?_
              cases h
              exact v_iret C rfl (dk dcX10_gentlest_0 35 rfl)
          · replace h := if_f c_7 h
            refine v_bipush C (-3) (dk dcX10_gentlest_0 19 rfl) kb_m3 ?_
            cases h
            exact v_iret C rfl (dk dcX10_gentlest_0 20 rfl)
        · replace h := if_f c_4 h
          refine v_iconst C (-1) (dk dcX10_gentlest_0 14 rfl) ki_m1 ?_
          cases h
          exact v_iret C rfl (dk dcX10_gentlest_0 15 rfl)
    · replace h := if_f c_2 h
      refine v_bipush C (-2) (dk dcX10_gentlest_0 6 rfl) kb_m2 ?_
      cases h
      exact v_iret C rfl (dk dcX10_gentlest_0 7 rfl)
set_option maxRecDepth 20000 in
set_option maxHeartbeats 4000000 in
theorem mtX10_film {l : Launch} {E : WEt} {wx : va_W} (L : Nat) (hL : 4 ≤ L)  {g : STt} {x1 : Int32} {g' : STt} {rr : Int32} (h : fX10_film g x1 = some (g', rr)) : MT l E yX10_film cX10_film 2 (some .int) (L + 1) [.ref (aE E 0 0), .int x1] (cellsC E g ++ wx) (cellsC E g' ++ wx) (some (.int rr)) := by
  refine mt_of (by decide +kernel) (Nat.le_of_ble_eq_true rfl) ?_
  intro p e s m args below meth c C
  replace C : CX p s m args meth c cX10_film 2 RX10 (some .int) E := C
  unfold fX10_film at h
  refine vj_sub (lv' := [(0, .ref (aE E 0 0)), (1, .int x1)]) [0, 1] rfl ?_
  refine v_iload_n C 1 (dk dcX10_film_0 0 rfl) rfl rfl ?_
  refine v_iconst C (-1) (dk dcX10_film_0 1 rfl) ki_m1 ?_
  refine v_icmp_lt C 10 (dk dcX10_film_0 2 rfl) (by decide) (fun c_1 => ?_) (fun c_1 => ?_)
  · replace h := if_t c_1 h
    refine v_iconst C (-1) (dk dcX10_film_0 6 rfl) ki_m1 ?_
    cases h
    exact v_iret C rfl (dk dcX10_film_0 7 rfl)
  · replace h := if_f c_1 h
    refine v_iload_n C 1 (dk dcX10_film_0 3 rfl) rfl rfl ?_
    refine v_iconst C 3 (dk dcX10_film_0 4 rfl) ki_3 ?_
    refine v_icmp_le C 12 (dk dcX10_film_0 5 rfl) (by decide) (fun c_2 => ?_) (fun c_2 => ?_)
    · replace h := if_t c_2 h
      refine v_aload_n C 0 (dk dcX10_film_0 8 rfl) rfl rfl ?_
      refine gt_DB_present C wd_345 (dk dcX10_film_0 9 rfl) ?_
      refine gt_Moment_seen C (by decide) wd_233 (dk dcX10_film_0 10 rfl) ?_
      refine v_iload_n C 1 (dk dcX10_film_0 11 rfl) rfl rfl ?_
      obtain ⟨g_4, r_5, h_3, h⟩ := bnd_s h
      refine v_callS1 C (mtX10_addOrClear (L - 1) (by omega) (by decide) h_3) wmX10_addOrClear wd_763 (by omega) (by decide) rfl rfl (Nat.le_of_ble_eq_true rfl) (dk dcX10_film_0 12 rfl) ?_
      cases h
      exact v_iret C rfl (dk dcX10_film_0 13 rfl)
    · replace h := if_f c_2 h
      refine v_iconst C (-1) (dk dcX10_film_0 6 rfl) ki_m1 ?_
      cases h
      exact v_iret C rfl (dk dcX10_film_0 7 rfl)
set_option maxRecDepth 20000 in
set_option maxHeartbeats 4000000 in
theorem mtX7_add {l : Launch} {E : WEt} {wx : va_W} (L : Nat) (hL : 3 ≤ L)  {g : STt} {x1 : Int32} {g' : STt} {rr : Int32} (h : fX7_add g x1 = some (g', rr)) : MT l E yX7_add cX7_add 2 (some .boolean) (L + 1) [.ref (aE E 5 0), .int x1] (cellsC E g ++ wx) (cellsC E g' ++ wx) (some (.int rr)) := by
  refine mt_of (by decide +kernel) (Nat.le_of_ble_eq_true rfl) ?_
  intro p e s m args below meth c C
  replace C : CX p s m args meth c cX7_add 2 RX7 (some .boolean) E := C
  unfold fX7_add at h
  refine vj_sub (lv' := [(0, .ref (aE E 5 0)), (1, .int x1)]) [0, 1] rfl ?_
  refine v_aload_n C 0 (dk dcX7_add_0 0 rfl) rfl rfl ?_
  refine gt_Text_signs C wd_147 (dk dcX7_add_0 1 rfl) ?_
  refine v_iload_n C 1 (dk dcX7_add_0 2 rfl) rfl rfl ?_
  obtain ⟨g_2, r_3, h_1, h⟩ := bnd_s h
  refine v_callV1 C (mtX5_add (L - 1) (by omega) (by decide) h_1) wmX5_add wd_441 (by omega) (by decide) rfl _ (ce_Strip (by decide)) rfl rfl (Nat.le_of_ble_eq_true rfl) (dk dcX7_add_0 3 rfl) ?_
  obtain ⟨b_4, h⟩ := gd_t h
  cases h
  exact v_zret C rfl (nw_boolean b_4) (dk dcX7_add_0 4 rfl)
set_option maxRecDepth 20000 in
set_option maxHeartbeats 4000000 in
theorem mtX7_size {l : Launch} {E : WEt} {wx : va_W} (L : Nat) (hL : 3 ≤ L)  {g : STt} {rr : Int32} (h : fX7_size g = some rr) : MT l E yX7_size cX7_size 1 (some .int) (L + 1) [.ref (aE E 5 0)] (cellsC E g ++ wx) (cellsC E g ++ wx) (some (.int rr)) := by
  refine mt_of (by decide +kernel) (Nat.le_of_ble_eq_true rfl) ?_
  intro p e s m args below meth c C
  replace C : CX p s m args meth c cX7_size 1 RX7 (some .int) E := C
  unfold fX7_size at h
  refine vj_sub (lv' := [(0, .ref (aE E 5 0))]) [0] rfl ?_
  refine v_aload_n C 0 (dk dcX7_size_0 0 rfl) rfl rfl ?_
  refine gt_Text_signs C wd_147 (dk dcX7_size_0 1 rfl) ?_
  obtain ⟨r_2, h_1, h⟩ := bnd1_s h
  refine v_callV1 C (mtX5_size (L - 1) (by omega) (by decide) h_1) wmX5_size wd_449 (by omega) (by decide) rfl _ (ce_Strip (by decide)) rfl rfl (Nat.le_of_ble_eq_true rfl) (dk dcX7_size_0 2 rfl) ?_
  cases h
  exact v_iret C rfl (dk dcX7_size_0 3 rfl)
set_option maxRecDepth 20000 in
set_option maxHeartbeats 4000000 in
theorem mtX10_feed {l : Launch} {E : WEt} {wx : va_W} (L : Nat) (hL : 4 ≤ L)  {g : STt} {x1 : Int32} {g' : STt} {rr : Int32} (h : fX10_feed g x1 = some (g', rr)) : MT l E yX10_feed cX10_feed 2 (some .int) (L + 1) [.ref (aE E 0 0), .int x1] (cellsC E g ++ wx) (cellsC E g' ++ wx) (some (.int rr)) := by
  refine mt_of (by decide +kernel) (Nat.le_of_ble_eq_true rfl) ?_
  intro p e s m args below meth c C
  replace C : CX p s m args meth c cX10_feed 2 RX10 (some .int) E := C
  unfold fX10_feed at h
  refine vj_sub (lv' := [(0, .ref (aE E 0 0)), (1, .int x1)]) [0, 1] rfl ?_
  refine v_iload_n C 1 (dk dcX10_feed_0 0 rfl) rfl rfl ?_
  refine v_if_lt C 10 (dk dcX10_feed_0 1 rfl) (by decide) (fun c_1 => ?_) (fun c_1 => ?_)
  · replace h := if_t c_1 h
    refine v_bipush C (-2) (dk dcX10_feed_0 5 rfl) kb_m2 ?_
    cases h
    exact v_iret C rfl (dk dcX10_feed_0 6 rfl)
  · replace h := if_f c_1 h
    refine v_iload_n C 1 (dk dcX10_feed_0 2 rfl) rfl rfl ?_
    refine v_bipush C 127 (dk dcX10_feed_0 3 rfl) kb_127 ?_
    refine v_icmp_le C 13 (dk dcX10_feed_0 4 rfl) (by decide) (fun c_2 => ?_) (fun c_2 => ?_)
    · replace h := if_t c_2 h
      refine v_aload_n C 0 (dk dcX10_feed_0 7 rfl) rfl rfl ?_
      refine gt_DB_text C wd_337 (dk dcX10_feed_0 8 rfl) ?_
      refine v_iload_n C 1 (dk dcX10_feed_0 9 rfl) rfl rfl ?_
      obtain ⟨g_4, r_5, h_3, h⟩ := bnd_s h
      refine v_callV1 C (mtX7_add (L - 1) (by omega) h_3) wmX7_add wd_437 (by omega) (by decide) rfl _ (ce_Text) rfl rfl (Nat.le_of_ble_eq_true rfl) (dk dcX10_feed_0 10 rfl) ?_
      refine v_if_eq C 34 (dk dcX10_feed_0 11 rfl) (by decide) (fun c_6 => ?_) (fun c_6 => ?_)
      · replace h := if_t c_6 h
        refine v_bipush C (-4) (dk dcX10_feed_0 16 rfl) kb_m4 ?_
        cases h
        exact v_iret C rfl (dk dcX10_feed_0 17 rfl)
      · replace h := if_f c_6 h
        refine v_aload_n C 0 (dk dcX10_feed_0 12 rfl) rfl rfl ?_
        refine gt_DB_text C wd_337 (dk dcX10_feed_0 13 rfl) ?_
        obtain ⟨r_8, h_7, h⟩ := bnd1_s h
        refine v_callV1 C (mtX7_size (L - 1) (by omega) h_7) wmX7_size wd_445 (by omega) (by decide) rfl _ (ce_Text) rfl rfl (Nat.le_of_ble_eq_true rfl) (dk dcX10_feed_0 14 rfl) ?_
        refine v_goto C 36 (dk dcX10_feed_0 15 rfl) (by decide) ?_
        cases h
        exact v_iret C rfl (dk dcX10_feed_0 17 rfl)
    · replace h := if_f c_2 h
      refine v_bipush C (-2) (dk dcX10_feed_0 5 rfl) kb_m2 ?_
      cases h
      exact v_iret C rfl (dk dcX10_feed_0 6 rfl)
set_option maxRecDepth 20000 in
set_option maxHeartbeats 4000000 in
theorem mtX10_drive {l : Launch} {E : WEt} {wx : va_W} (L : Nat) (hL : 5 ≤ L)  {g : STt} {x1 : Int32} {g' : STt} {rr : Int32} (h : fX10_drive g x1 = some (g', rr)) : MT l E yX10_drive cX10_drive 2 (some .int) (L + 1) [.ref (aE E 0 0), .int x1] (cellsC E g ++ wx) (cellsC E g' ++ wx) (some (.int rr)) := by
  refine mt_of (by decide +kernel) (Nat.le_of_ble_eq_true rfl) ?_
  intro p e s m args below meth c C
  replace C : CX p s m args meth c cX10_drive 2 RX10 (some .int) E := C
  unfold fX10_drive at h
  refine vj_sub (lv' := [(0, .ref (aE E 0 0)), (1, .int x1)]) [0, 1] rfl ?_
  refine v_iload_n C 1 (dk dcX10_drive_0 0 rfl) rfl rfl ?_
  obtain ⟨r_2, h_1, h⟩ := bnd1_s h
  refine v_callS1 C (mtX10_isAct (L - 1) (by omega) h_1) wmX10_isAct wd_695 (by omega) (by decide) rfl rfl (Nat.le_of_ble_eq_true rfl) (dk dcX10_drive_0 1 rfl) ?_
  refine v_if_ne C 10 (dk dcX10_drive_0 2 rfl) (by decide) (fun c_3 => ?_) (fun c_3 => ?_)
  · replace h := if_f c_3 h
    refine v_aload_n C 0 (dk dcX10_drive_0 5 rfl) rfl rfl ?_
    obtain ⟨r_5, h_4, h⟩ := bnd1_s h
    refine v_callV1 C (mtX10_isOver (L - 1) (by omega) h_4) wmX10_isOver wd_659 (by omega) (by decide) rfl _ (ce_DB) rfl rfl (Nat.le_of_ble_eq_true rfl) (dk dcX10_drive_0 6 rfl) ?_
    refine v_if_eq C 22 (dk dcX10_drive_0 7 rfl) (by decide) (fun c_6 => ?_) (fun c_6 => ?_)
    · replace h := if_t c_6 h
      refine v_aload_n C 0 (dk dcX10_drive_0 10 rfl) rfl rfl ?_
      refine gt_DB_walk C wd_341 (dk dcX10_drive_0 11 rfl) ?_
      refine v_aload_n C 0 (dk dcX10_drive_0 12 rfl) rfl rfl ?_
      refine gt_DB_present C wd_345 (dk dcX10_drive_0 13 rfl) ?_
      refine gt_Moment_donkey C (by decide) wd_227 (dk dcX10_drive_0 14 rfl) ?_
      refine v_iload_n C 1 (dk dcX10_drive_0 15 rfl) rfl rfl ?_
      obtain ⟨g_8, r_9, h_7, h⟩ := bnd_s h
      refine v_callV1 C (mtX9_weigh (L - 1) (by omega) (by decide) h_7) wmX9_weigh wd_700 (by omega) (by decide) rfl _ (ce_Walk) rfl rfl (Nat.le_of_ble_eq_true rfl) (dk dcX10_drive_0 16 rfl) ?_
      cases h
      exact v_iret C rfl (dk dcX10_drive_0 17 rfl)
    · replace h := if_f c_6 h
      refine v_ldc C wd_699 (dk dcX10_drive_0 8 rfl) ?_
      refine v_goto C 37 (dk dcX10_drive_0 9 rfl) (by decide) ?_
      cases h
      exact v_iret C rfl (dk dcX10_drive_0 17 rfl)
  · replace h := if_t c_3 h
    refine v_ldc C wd_698 (dk dcX10_drive_0 3 rfl) ?_
    cases h
    exact v_iret C rfl (dk dcX10_drive_0 4 rfl)
set_option maxRecDepth 20000 in
set_option maxHeartbeats 4000000 in
theorem vX8_afterDays_l7c {L : Nat} (hL : 7 ≤ L) (C : CX p s m args meth c cX8_afterDays 4 RX8 (some (.object "DonkeyBridge$Donkey")) E) {l1 : Int32} {l2 : Nat} (hl2 : l2 < 10) {K7 : (STt × Int32) → Option (STt × Nat)} (hK7 : ∀ {g : STt} {l3 : Int32} (r : STt × Nat), K7 (g, l3) = some r → VJ p l e (rmL (L + 1)) s m args below meth c (QE below E (cellsC E r.1 ++ wx) (some (.ref (aE E 19 r.2))) args s) E 4 (cellsC E g ++ wx) [(0, .ref (aE E 10 0)), (1, .int l1), (2, .ref (aE E 19 l2)), (3, .int l3)] [] 7) {g : STt} {l3 : Int32} (r : STt × Nat) (h : fX8_afterDays_l7c K7 l1 l2 g l3 = some r) : VJ p l e (rmL (L + 1)) s m args below meth c (QE below E (cellsC E r.1 ++ wx) (some (.ref (aE E 19 r.2))) args s) E 4 (cellsC E g ++ wx) [(0, .ref (aE E 10 0)), (1, .int l1), (2, .ref (aE E 19 l2)), (3, .int l3)] [] 7 := by
  unfold fX8_afterDays_l7c at h
  refine v_iload_n C 3 (dk dcX8_afterDays_0 5 rfl) rfl rfl ?_
  refine v_iload_n C 1 (dk dcX8_afterDays_0 6 rfl) rfl rfl ?_
  refine v_icmp_ge C 52 (dk dcX8_afterDays_0 7 rfl) (by decide) (fun c_1 => ?_) (fun c_1 => ?_)
  · replace h := if_t c_1 h
    refine v_aload_n C 2 (dk dcX8_afterDays_0 29 rfl) rfl rfl ?_
    cases h
    exact v_aret C rfl ⟨_, rfl⟩ (Or.inr ⟨_, rfl⟩) (dk dcX8_afterDays_0 30 rfl)
  · replace h := if_f c_1 h
    refine v_iload_n C 3 (dk dcX8_afterDays_0 8 rfl) rfl rfl ?_
    refine v_bipush C 99 (dk dcX8_afterDays_0 9 rfl) kb_99 ?_
    refine v_icmp_ge C 52 (dk dcX8_afterDays_0 10 rfl) (by decide) (fun c_2 => ?_) (fun c_2 => ?_)
    · replace h := if_t c_2 h
      refine v_aload_n C 2 (dk dcX8_afterDays_0 29 rfl) rfl rfl ?_
      cases h
      exact v_aret C rfl ⟨_, rfl⟩ (Or.inr ⟨_, rfl⟩) (dk dcX8_afterDays_0 30 rfl)
    · replace h := if_f c_2 h
      refine v_aload_n C 2 (dk dcX8_afterDays_0 11 rfl) rfl rfl ?_
      refine v_bipush C 12 (dk dcX8_afterDays_0 12 rfl) kb_12 ?_
      refine v_iconst C 0 (dk dcX8_afterDays_0 13 rfl) ki_0 ?_
      obtain ⟨g_4, h_3, h⟩ := bnd1_s h
      refine v_callV0 C (mtX1_put (L - 1) (by omega) hl2 h_3) wmX1_put wd_882 (by omega) (by decide) rfl _ (ce_Donkey hl2) rfl rfl (Nat.le_of_ble_eq_true rfl) (dk dcX8_afterDays_0 14 rfl) ?_
      refine v_aload_n C 2 (dk dcX8_afterDays_0 15 rfl) rfl rfl ?_
      refine v_bipush C 9 (dk dcX8_afterDays_0 16 rfl) kb_9 ?_
      refine v_iconst C 0 (dk dcX8_afterDays_0 17 rfl) ki_0 ?_
      obtain ⟨g_6, h_5, h⟩ := bnd1_s h
      refine v_callV0 C (mtX1_put (L - 1) (by omega) hl2 h_5) wmX1_put wd_882 (by omega) (by decide) rfl _ (ce_Donkey hl2) rfl rfl (Nat.le_of_ble_eq_true rfl) (dk dcX8_afterDays_0 18 rfl) ?_
      refine v_aload_n C 2 (dk dcX8_afterDays_0 19 rfl) rfl rfl ?_
      refine v_bipush C 13 (dk dcX8_afterDays_0 20 rfl) kb_13 ?_
      refine v_iconst C 0 (dk dcX8_afterDays_0 21 rfl) ki_0 ?_
      obtain ⟨g_8, h_7, h⟩ := bnd1_s h
      refine v_callV0 C (mtX1_put (L - 1) (by omega) hl2 h_7) wmX1_put wd_882 (by omega) (by decide) rfl _ (ce_Donkey hl2) rfl rfl (Nat.le_of_ble_eq_true rfl) (dk dcX8_afterDays_0 22 rfl) ?_
      refine v_aload_n C 0 (dk dcX8_afterDays_0 23 rfl) rfl rfl ?_
      refine v_aload_n C 2 (dk dcX8_afterDays_0 24 rfl) rfl rfl ?_
      refine v_bipush C 12 (dk dcX8_afterDays_0 25 rfl) kb_12 ?_
      obtain ⟨g_10, h_9, h⟩ := bnd1_s h
      refine v_callV0 C (mtX8_doRow (L - 1) (by omega) hl2 h_9) wmX8_doRow wd_793 (by omega) (by decide) rfl _ (ce_Trial) rfl rfl (Nat.le_of_ble_eq_true rfl) (dk dcX8_afterDays_0 26 rfl) ?_
      refine v_iinc C (lv' := [(3, .int (l3 + 1)), (0, .ref (aE E 10 0)), (1, .int l1), (2, .ref (aE E 19 l2))]) (l3 + 1) 3 (dk dcX8_afterDays_0 27 rfl) rfl (congrArg (fun z => l3 + z) ki_1) (by decide) rfl ?_
      refine v_goto C 7 (dk dcX8_afterDays_0 28 rfl) (by decide) ?_
      exact vj_sub [1, 2, 3, 0] rfl (hK7 _ h)
set_option maxRecDepth 20000 in
set_option maxHeartbeats 4000000 in
theorem vX8_afterDays_l7 {L : Nat} (hL : 7 ≤ L) (C : CX p s m args meth c cX8_afterDays 4 RX8 (some (.object "DonkeyBridge$Donkey")) E) {l1 : Int32} {l2 : Nat} (hl2 : l2 < 10) {g : STt} {l3 : Int32} (r : STt × Nat) (h : fX8_afterDays_l7 l1 l2 g l3 = some r) : VJ p l e (rmL (L + 1)) s m args below meth c (QE below E (cellsC E r.1 ++ wx) (some (.ref (aE E 19 r.2))) args s) E 4 (cellsC E g ++ wx) [(0, .ref (aE E 10 0)), (1, .int l1), (2, .ref (aE E 19 l2)), (3, .int l3)] [] 7 :=
  iterO_ind (F := fun K z => fX8_afterDays_l7c K l1 l2 z.1 z.2) (fun z r => VJ p l e (rmL (L + 1)) s m args below meth c (QE below E (cellsC E r.1 ++ wx) (some (.ref (aE E 19 r.2))) args s) E 4 (cellsC E z.1 ++ wx) [(0, .ref (aE E 10 0)), (1, .int l1), (2, .ref (aE E 19 l2)), (3, .int z.2)] [] 7) (fun K hK z r h => vX8_afterDays_l7c hL C hl2 (fun {g} {l3} r h => hK (g, l3) r h) r h) fuelN (g, l3) r h
set_option maxRecDepth 20000 in
set_option maxHeartbeats 4000000 in
theorem mtX8_afterDays {l : Launch} {E : WEt} {wx : va_W} (L : Nat) (hL : 7 ≤ L)  {g : STt} {x1 : Int32} {g' : STt} {rr : Nat} (h : fX8_afterDays g x1 = some (g', rr)) : MT l E yX8_afterDays cX8_afterDays 4 (some (.object "DonkeyBridge$Donkey")) (L + 1) [.ref (aE E 10 0), .int x1] (cellsC E g ++ wx) (cellsC E g' ++ wx) (some (.ref (aE E 19 rr))) := by
  refine mt_of (by decide +kernel) (Nat.le_of_ble_eq_true rfl) ?_
  intro p e s m args below meth c C
  replace C : CX p s m args meth c cX8_afterDays 4 RX8 (some (.object "DonkeyBridge$Donkey")) E := C
  unfold fX8_afterDays at h
  refine vj_sub (lv' := [(0, .ref (aE E 10 0)), (1, .int x1)]) [0, 1] rfl ?_
  refine v_aload_n C 0 (dk dcX8_afterDays_0 0 rfl) rfl rfl ?_
  obtain ⟨g_2, r_3, h_1, h⟩ := bnd_s h
  refine v_callV1 C (mtX8_begin (L - 1) (by omega) h_1) wmX8_begin wd_777 (by omega) (by decide) rfl _ (ce_Trial) rfl rfl (Nat.le_of_ble_eq_true rfl) (dk dcX8_afterDays_0 1 rfl) ?_
  obtain ⟨b_4, h⟩ := gd_t h
  refine v_astore_n C (lv' := [(2, .ref (aE E 19 r_3)), (0, .ref (aE E 10 0)), (1, .int x1)]) (dk dcX8_afterDays_0 2 rfl) rfl (by decide) rfl ?_
  refine v_iconst C 0 (dk dcX8_afterDays_0 3 rfl) ki_0 ?_
  refine v_istore_n C (lv' := [(3, .int 0), (2, .ref (aE E 19 r_3)), (0, .ref (aE E 10 0)), (1, .int x1)]) (dk dcX8_afterDays_0 4 rfl) rfl (by decide) rfl ?_
  exact vj_sub [2, 3, 1, 0] rfl (vX8_afterDays_l7 hL C b_4 _ h)
set_option maxRecDepth 20000 in
set_option maxHeartbeats 4000000 in
theorem mtX10_days {l : Launch} {E : WEt} {wx : va_W} (L : Nat) (hL : 8 ≤ L)  {g : STt} {x1 : Int32} {x2 : Int32} {g' : STt} {rr : Int32} (h : fX10_days g x1 x2 = some (g', rr)) : MT l E yX10_days cX10_days 4 (some .int) (L + 1) [.ref (aE E 0 0), .int x1, .int x2] (cellsC E g ++ wx) (cellsC E g' ++ wx) (some (.int rr)) := by
  refine mt_of (by decide +kernel) (Nat.le_of_ble_eq_true rfl) ?_
  intro p e s m args below meth c C
  replace C : CX p s m args meth c cX10_days 4 RX10 (some .int) E := C
  unfold fX10_days at h
  refine vj_sub (lv' := [(0, .ref (aE E 0 0)), (1, .int x1), (2, .int x2)]) [0, 1, 2] rfl ?_
  refine v_iload_n C 2 (dk dcX10_days_0 0 rfl) rfl rfl ?_
  refine v_if_lt C 9 (dk dcX10_days_0 1 rfl) (by decide) (fun c_1 => ?_) (fun c_1 => ?_)
  · replace h := if_t c_1 h
    refine v_iconst C (-1) (dk dcX10_days_0 5 rfl) ki_m1 ?_
    cases h
    exact v_iret C rfl (dk dcX10_days_0 6 rfl)
  · replace h := if_f c_1 h
    refine v_iload_n C 2 (dk dcX10_days_0 2 rfl) rfl rfl ?_
    refine v_iconst C 2 (dk dcX10_days_0 3 rfl) ki_2 ?_
    refine v_icmp_le C 11 (dk dcX10_days_0 4 rfl) (by decide) (fun c_2 => ?_) (fun c_2 => ?_)
    · replace h := if_t c_2 h
      refine v_iload_n C 1 (dk dcX10_days_0 7 rfl) rfl rfl ?_
      refine v_if_lt C 21 (dk dcX10_days_0 8 rfl) (by decide) (fun c_3 => ?_) (fun c_3 => ?_)
      · replace h := if_t c_3 h
        refine v_bipush C (-2) (dk dcX10_days_0 12 rfl) kb_m2 ?_
        cases h
        exact v_iret C rfl (dk dcX10_days_0 13 rfl)
      · replace h := if_f c_3 h
        refine v_iload_n C 1 (dk dcX10_days_0 9 rfl) rfl rfl ?_
        refine v_bipush C 99 (dk dcX10_days_0 10 rfl) kb_99 ?_
        refine v_icmp_le C 24 (dk dcX10_days_0 11 rfl) (by decide) (fun c_4 => ?_) (fun c_4 => ?_)
        · replace h := if_t c_4 h
          refine v_aload_n C 0 (dk dcX10_days_0 14 rfl) rfl rfl ?_
          refine gt_DB_trial C wd_342 (dk dcX10_days_0 15 rfl) ?_
          refine v_iload_n C 1 (dk dcX10_days_0 16 rfl) rfl rfl ?_
          obtain ⟨g_6, r_7, h_5, h⟩ := bnd_s h
          refine v_callV1 C (mtX8_afterDays (L - 1) (by omega) h_5) wmX8_afterDays wd_912 (by omega) (by decide) rfl _ (ce_Trial) rfl rfl (Nat.le_of_ble_eq_true rfl) (dk dcX10_days_0 17 rfl) ?_
          obtain ⟨b_8, h⟩ := gd_t h
          refine v_astore_n C (lv' := [(3, .ref (aE E 19 r_7)), (0, .ref (aE E 0 0)), (1, .int x1), (2, .int x2)]) (dk dcX10_days_0 18 rfl) rfl (by decide) rfl ?_
          refine v_iload_n C 3 (dk dcX10_days_0 19 rfl) rfl rfl ?_
          by_cases c_9 : x2 = 0
          · replace h := if_t c_9 h
            refine v_lookup C 60 (dk dcX10_days_0 20 rfl) (by decide) (by first | (rw [c_9]; done) | (rw [c_9]; rfl)) (by decide) ?_
            refine v_aload_n C 0 (dk dcX10_days_0 21 rfl) rfl rfl ?_
            obtain ⟨r_11, h_10, h⟩ := bnd1_s h
            refine v_callV1 C (mtX1_learnt (L - 1) (by omega) b_8 h_10) wmX1_learnt wd_916 (by omega) (by decide) rfl _ (ce_Donkey b_8) rfl rfl (Nat.le_of_ble_eq_true rfl) (dk dcX10_days_0 22 rfl) ?_
            cases h
            exact v_iret C rfl (dk dcX10_days_0 23 rfl)
          · replace h := if_f c_9 h
            by_cases c_10 : x2 = 1
            · replace h := if_t c_10 h
              refine v_lookup C 65 (dk dcX10_days_0 20 rfl) (by decide) (by first | (rw [c_10]; done) | (rw [c_10]; rfl)) (by decide) ?_
              refine v_aload_n C 0 (dk dcX10_days_0 24 rfl) rfl rfl ?_
              refine v_bipush C 6 (dk dcX10_days_0 25 rfl) kb_6 ?_
              obtain ⟨r_12, h_11, h⟩ := bnd1_s h
              refine v_callV1 C (mtX1_get (L - 1) (by omega) b_8 h_11) wmX1_get wd_412 (by omega) (by decide) rfl _ (ce_Donkey b_8) rfl rfl (Nat.le_of_ble_eq_true rfl) (dk dcX10_days_0 26 rfl) ?_
              cases h
              exact v_iret C rfl (dk dcX10_days_0 27 rfl)
            · replace h := if_f c_10 h
              refine v_lookup C (off := 38) 72 (dk dcX10_days_0 20 rfl) (by decide) ((lv_osw c_9 (by decide)).trans ((lv_osw c_10 (by decide)).trans rfl)) (by decide) ?_
              refine v_aload_n C 0 (dk dcX10_days_0 28 rfl) rfl rfl ?_
              refine v_bipush C 12 (dk dcX10_days_0 29 rfl) kb_12 ?_
              obtain ⟨r_12, h_11, h⟩ := bnd1_s h
              refine v_callV1 C (mtX1_get (L - 1) (by omega) b_8 h_11) wmX1_get wd_412 (by omega) (by decide) rfl _ (ce_Donkey b_8) rfl rfl (Nat.le_of_ble_eq_true rfl) (dk dcX10_days_0 30 rfl) ?_
              cases h
              exact v_iret C rfl (dk dcX10_days_0 31 rfl)
        · replace h := if_f c_4 h
          refine v_bipush C (-2) (dk dcX10_days_0 12 rfl) kb_m2 ?_
          cases h
          exact v_iret C rfl (dk dcX10_days_0 13 rfl)
    · replace h := if_f c_2 h
      refine v_iconst C (-1) (dk dcX10_days_0 5 rfl) ki_m1 ?_
      cases h
      exact v_iret C rfl (dk dcX10_days_0 6 rfl)
set_option maxRecDepth 20000 in
set_option maxHeartbeats 4000000 in
theorem mtX0_ran {l : Launch} {E : WEt} {wx : va_W} (L : Nat) (hL : 2 ≤ L)  {g : STt} {rr : Int32} (h : fX0_ran g = some rr) : MT l E yX0_ran cX0_ran 1 (some .int) (L + 1) [.ref (aE E 14 0)] (cellsC E g ++ wx) (cellsC E g ++ wx) (some (.int rr)) := by
  refine mt_of (by decide +kernel) (Nat.le_of_ble_eq_true rfl) ?_
  intro p e s m args below meth c C
  replace C : CX p s m args meth c cX0_ran 1 RX0 (some .int) E := C
  unfold fX0_ran at h
  refine vj_sub (lv' := [(0, .ref (aE E 14 0))]) [0] rfl ?_
  refine v_aload_n C 0 (dk dcX0_ran_0 0 rfl) rfl rfl ?_
  refine gt_Bodies_ran C wd_301 (dk dcX0_ran_0 1 rfl) ?_
  cases h
  exact v_iret C rfl (dk dcX0_ran_0 2 rfl)
set_option maxRecDepth 20000 in
set_option maxHeartbeats 4000000 in
theorem mtX10_count {l : Launch} {E : WEt} {wx : va_W} (L : Nat) (hL : 4 ≤ L)  {g : STt} {x1 : Int32} {rr : Int32} (h : fX10_count g x1 = some rr) : MT l E yX10_count cX10_count 2 (some .int) (L + 1) [.ref (aE E 0 0), .int x1] (cellsC E g ++ wx) (cellsC E g ++ wx) (some (.int rr)) := by
  refine mt_of (by decide +kernel) (Nat.le_of_ble_eq_true rfl) ?_
  intro p e s m args below meth c C
  replace C : CX p s m args meth c cX10_count 2 RX10 (some .int) E := C
  unfold fX10_count at h
  refine vj_sub (lv' := [(0, .ref (aE E 0 0)), (1, .int x1)]) [0, 1] rfl ?_
  refine v_iload_n C 1 (dk dcX10_count_0 0 rfl) rfl rfl ?_
  by_cases c_1 : x1 = 0
  · replace h := if_t c_1 h
    refine v_tableIn C 44 (dk dcX10_count_0 1 rfl) (by rw [c_1]; decide) (by rw [c_1]; decide) (by rw [c_1]; rfl) (by decide) ?_
    refine v_aload_n C 0 (dk dcX10_count_0 2 rfl) rfl rfl ?_
    refine gt_DB_road C wd_336 (dk dcX10_count_0 3 rfl) ?_
    obtain ⟨r_3, h_2, h⟩ := bnd1_s h
    refine v_callV1 C (mtX4_size (L - 1) (by omega) h_2) wmX4_size wd_377 (by omega) (by decide) rfl _ (ce_Road) rfl rfl (Nat.le_of_ble_eq_true rfl) (dk dcX10_count_0 4 rfl) ?_
    cases h
    exact v_iret C rfl (dk dcX10_count_0 5 rfl)
  · replace h := if_f c_1 h
    by_cases c_2 : x1 = 1
    · replace h := if_t c_2 h
      refine v_tableIn C 52 (dk dcX10_count_0 1 rfl) (by rw [c_2]; decide) (by rw [c_2]; decide) (by rw [c_2]; rfl) (by decide) ?_
      refine v_aload_n C 0 (dk dcX10_count_0 6 rfl) rfl rfl ?_
      refine gt_DB_lawCount C wd_340 (dk dcX10_count_0 7 rfl) ?_
      cases h
      exact v_iret C rfl (dk dcX10_count_0 8 rfl)
    · replace h := if_f c_2 h
      by_cases c_3 : x1 = 2
      · replace h := if_t c_3 h
        refine v_tableIn C 57 (dk dcX10_count_0 1 rfl) (by rw [c_3]; decide) (by rw [c_3]; decide) (by rw [c_3]; rfl) (by decide) ?_
        refine v_aload_n C 0 (dk dcX10_count_0 9 rfl) rfl rfl ?_
        refine gt_DB_present C wd_345 (dk dcX10_count_0 10 rfl) ?_
        refine gt_Moment_acts C (by decide) wd_230 (dk dcX10_count_0 11 rfl) ?_
        obtain ⟨r_5, h_4, h⟩ := bnd1_s h
        refine v_callV1 C (mtX5_size (L - 1) (by omega) (by decide) h_4) wmX5_size wd_768 (by omega) (by decide) rfl _ (ce_Strip (by decide)) rfl rfl (Nat.le_of_ble_eq_true rfl) (dk dcX10_count_0 12 rfl) ?_
        cases h
        exact v_iret C rfl (dk dcX10_count_0 13 rfl)
      · replace h := if_f c_3 h
        by_cases c_4 : x1 = 3
        · replace h := if_t c_4 h
          refine v_tableIn C 68 (dk dcX10_count_0 1 rfl) (by rw [c_4]; decide) (by rw [c_4]; decide) (by rw [c_4]; rfl) (by decide) ?_
          refine v_aload_n C 0 (dk dcX10_count_0 14 rfl) rfl rfl ?_
          refine gt_DB_present C wd_345 (dk dcX10_count_0 15 rfl) ?_
          refine gt_Moment_seen C (by decide) wd_233 (dk dcX10_count_0 16 rfl) ?_
          obtain ⟨r_6, h_5, h⟩ := bnd1_s h
          refine v_callV1 C (mtX5_size (L - 1) (by omega) (by decide) h_5) wmX5_size wd_768 (by omega) (by decide) rfl _ (ce_Strip (by decide)) rfl rfl (Nat.le_of_ble_eq_true rfl) (dk dcX10_count_0 17 rfl) ?_
          cases h
          exact v_iret C rfl (dk dcX10_count_0 18 rfl)
        · replace h := if_f c_4 h
          by_cases c_5 : x1 = 4
          · replace h := if_t c_5 h
            refine v_tableIn C 79 (dk dcX10_count_0 1 rfl) (by rw [c_5]; decide) (by rw [c_5]; decide) (by rw [c_5]; rfl) (by decide) ?_
            refine v_aload_n C 0 (dk dcX10_count_0 19 rfl) rfl rfl ?_
            refine gt_DB_present C wd_345 (dk dcX10_count_0 20 rfl) ?_
            refine gt_Moment_beasts C (by decide) wd_235 (dk dcX10_count_0 21 rfl) ?_
            obtain ⟨r_7, h_6, h⟩ := bnd1_s h
            refine v_callV1 C (mtX5_size (L - 1) (by omega) (by decide) h_6) wmX5_size wd_768 (by omega) (by decide) rfl _ (ce_Strip (by decide)) rfl rfl (Nat.le_of_ble_eq_true rfl) (dk dcX10_count_0 22 rfl) ?_
            cases h
            exact v_iret C rfl (dk dcX10_count_0 23 rfl)
          · replace h := if_f c_5 h
            by_cases c_6 : x1 = 5
            · replace h := if_t c_6 h
              refine v_tableIn C 90 (dk dcX10_count_0 1 rfl) (by rw [c_6]; decide) (by rw [c_6]; decide) (by rw [c_6]; rfl) (by decide) ?_
              refine v_aload_n C 0 (dk dcX10_count_0 24 rfl) rfl rfl ?_
              refine gt_DB_text C wd_337 (dk dcX10_count_0 25 rfl) ?_
              obtain ⟨r_8, h_7, h⟩ := bnd1_s h
              refine v_callV1 C (mtX7_size (L - 1) (by omega) h_7) wmX7_size wd_445 (by omega) (by decide) rfl _ (ce_Text) rfl rfl (Nat.le_of_ble_eq_true rfl) (dk dcX10_count_0 26 rfl) ?_
              cases h
              exact v_iret C rfl (dk dcX10_count_0 27 rfl)
            · replace h := if_f c_6 h
              by_cases c_7 : x1 = 6
              · replace h := if_t c_7 h
                refine v_tableIn C 98 (dk dcX10_count_0 1 rfl) (by rw [c_7]; decide) (by rw [c_7]; decide) (by rw [c_7]; rfl) (by decide) ?_
                refine v_aload_n C 0 (dk dcX10_count_0 28 rfl) rfl rfl ?_
                refine gt_DB_bodies C wd_343 (dk dcX10_count_0 29 rfl) ?_
                obtain ⟨r_9, h_8, h⟩ := bnd1_s h
                refine v_callV1 C (mtX0_ran (L - 1) (by omega) h_8) wmX0_ran wd_1053 (by omega) (by decide) rfl _ (ce_Bodies) rfl rfl (Nat.le_of_ble_eq_true rfl) (dk dcX10_count_0 30 rfl) ?_
                cases h
                exact v_iret C rfl (dk dcX10_count_0 31 rfl)
              · replace h := if_f c_7 h
                have ec_1 := i32_ne (k := 0) c_1 (by decide)
                have ec_2 := i32_ne (k := 1) c_2 (by decide)
                have ec_3 := i32_ne (k := 2) c_3 (by decide)
                have ec_4 := i32_ne (k := 3) c_4 (by decide)
                have ec_5 := i32_ne (k := 4) c_5 (by decide)
                have ec_6 := i32_ne (k := 5) c_6 (by decide)
                have ec_7 := i32_ne (k := 6) c_7 (by decide)
                refine v_tableOut C 106 (dk dcX10_count_0 1 rfl) (by omega) (by decide) ?_
                refine v_bipush C (-2) (dk dcX10_count_0 32 rfl) kb_m2 ?_
                cases h
                exact v_iret C rfl (dk dcX10_count_0 33 rfl)
set_option maxRecDepth 20000 in
set_option maxHeartbeats 4000000 in
theorem vX10_beast_j11 {L : Nat} (hL : 4 ≤ L) (C : CX p s m args meth c cX10_beast 2 RX10 (some .int) E) {g : STt} (r : STt × Int32) (h : fX10_beast_j11 g = some r) : VJ p l e (rmL (L + 1)) s m args below meth c (QE below E (cellsC E r.1 ++ wx) (some (.int r.2)) args s) E 2 (cellsC E g ++ wx) [] [] 11 := by
  unfold fX10_beast_j11 at h
  refine v_bipush C (-2) (dk dcX10_beast_0 6 rfl) kb_m2 ?_
  refine v_goto C 27 (dk dcX10_beast_0 7 rfl) (by decide) ?_
  cases h
  exact v_iret C rfl (dk dcX10_beast_0 13 rfl)
set_option maxRecDepth 20000 in
set_option maxHeartbeats 4000000 in
theorem mtX10_beast {l : Launch} {E : WEt} {wx : va_W} (L : Nat) (hL : 4 ≤ L)  {g : STt} {x1 : Int32} {g' : STt} {rr : Int32} (h : fX10_beast g x1 = some (g', rr)) : MT l E yX10_beast cX10_beast 2 (some .int) (L + 1) [.ref (aE E 0 0), .int x1] (cellsC E g ++ wx) (cellsC E g' ++ wx) (some (.int rr)) := by
  refine mt_of (by decide +kernel) (Nat.le_of_ble_eq_true rfl) ?_
  intro p e s m args below meth c C
  replace C : CX p s m args meth c cX10_beast 2 RX10 (some .int) E := C
  unfold fX10_beast at h
  refine vj_sub (lv' := [(0, .ref (aE E 0 0)), (1, .int x1)]) [0, 1] rfl ?_
  refine v_iload_n C 1 (dk dcX10_beast_0 0 rfl) rfl rfl ?_
  refine v_iconst C (-1) (dk dcX10_beast_0 1 rfl) ki_m1 ?_
  refine v_icmp_lt C 11 (dk dcX10_beast_0 2 rfl) (by decide) (fun c_1 => ?_) (fun c_1 => ?_)
  · replace h := if_t c_1 h
    exact vj_sub [] rfl (vX10_beast_j11 hL C _ h)
  · replace h := if_f c_1 h
    refine v_iload_n C 1 (dk dcX10_beast_0 3 rfl) rfl rfl ?_
    refine v_bipush C 99 (dk dcX10_beast_0 4 rfl) kb_99 ?_
    refine v_icmp_le C 16 (dk dcX10_beast_0 5 rfl) (by decide) (fun c_2 => ?_) (fun c_2 => ?_)
    · replace h := if_t c_2 h
      refine v_aload_n C 0 (dk dcX10_beast_0 8 rfl) rfl rfl ?_
      refine gt_DB_present C wd_345 (dk dcX10_beast_0 9 rfl) ?_
      refine gt_Moment_beasts C (by decide) wd_235 (dk dcX10_beast_0 10 rfl) ?_
      refine v_iload_n C 1 (dk dcX10_beast_0 11 rfl) rfl rfl ?_
      obtain ⟨g_4, r_5, h_3, h⟩ := bnd_s h
      refine v_callS1 C (mtX10_addOrClear (L - 1) (by omega) (by decide) h_3) wmX10_addOrClear wd_763 (by omega) (by decide) rfl rfl (Nat.le_of_ble_eq_true rfl) (dk dcX10_beast_0 12 rfl) ?_
      cases h
      exact v_iret C rfl (dk dcX10_beast_0 13 rfl)
    · replace h := if_f c_2 h
      exact vj_sub [] rfl (vX10_beast_j11 hL C _ h)
end MS
