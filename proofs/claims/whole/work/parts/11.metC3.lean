section MS
variable {p : Program} {l : Launch} {e : Env} {s : State} {m : MethodId} {args : Array Value} {below : List Frame} {meth : Method} {c : Code} {E : WEt} {wx : va_W}
set_option maxRecDepth 20000 in
set_option maxHeartbeats 4000000 in
theorem mtX10_addOrClear {l : Launch} {E : WEt} {wx : va_W} (L : Nat) (hL : 3 ≤ L)  {g : STt} {d0 : Nat} (hd0 : d0 < 8) {x1 : Int32} {g' : STt} {rr : Int32} (h : fX10_addOrClear g d0 x1 = some (g', rr)) : MT l E yX10_addOrClear cX10_addOrClear 2 (some .int) (L + 1) [.ref (aE E 17 d0), .int x1] (cellsC E g ++ wx) (cellsC E g' ++ wx) (some (.int rr)) := by
  refine mt_of (by decide +kernel) (Nat.le_of_ble_eq_true rfl) ?_
  intro p e s m args below meth c C
  replace C : CX p s m args meth c cX10_addOrClear 2 RX10 (some .int) E := C
  unfold fX10_addOrClear at h
  refine vj_sub (lv' := [(0, .ref (aE E 17 d0)), (1, .int x1)]) [0, 1] rfl ?_
  refine v_iload_n C 1 (dk dcX10_addOrClear_0 0 rfl) rfl rfl ?_
  refine v_iconst C (-1) (dk dcX10_addOrClear_0 1 rfl) ki_m1 ?_
  refine v_icmp_ne C 11 (dk dcX10_addOrClear_0 2 rfl) (by decide) (fun c_1 => ?_) (fun c_1 => ?_)
  · replace h := if_f c_1 h
    refine v_aload_n C 0 (dk dcX10_addOrClear_0 7 rfl) rfl rfl ?_
    refine v_iload_n C 1 (dk dcX10_addOrClear_0 8 rfl) rfl rfl ?_
    obtain ⟨g_3, r_4, h_2, h⟩ := bnd_s h
    refine v_callV1 C (mtX5_add (L - 1) (by omega) hd0 h_2) wmX5_add wd_767 (by omega) (by decide) rfl _ (ce_Strip hd0) rfl rfl (Nat.le_of_ble_eq_true rfl) (dk dcX10_addOrClear_0 9 rfl) ?_
    refine v_if_eq C 26 (dk dcX10_addOrClear_0 10 rfl) (by decide) (fun c_5 => ?_) (fun c_5 => ?_)
    · replace h := if_t c_5 h
      refine v_bipush C (-4) (dk dcX10_addOrClear_0 14 rfl) kb_m4 ?_
      cases h
      exact v_iret C rfl (dk dcX10_addOrClear_0 15 rfl)
    · replace h := if_f c_5 h
      refine v_aload_n C 0 (dk dcX10_addOrClear_0 11 rfl) rfl rfl ?_
      obtain ⟨r_7, h_6, h⟩ := bnd1_s h
      refine v_callV1 C (mtX5_size (L - 1) (by omega) hd0 h_6) wmX5_size wd_768 (by omega) (by decide) rfl _ (ce_Strip hd0) rfl rfl (Nat.le_of_ble_eq_true rfl) (dk dcX10_addOrClear_0 12 rfl) ?_
      refine v_goto C 28 (dk dcX10_addOrClear_0 13 rfl) (by decide) ?_
      cases h
      exact v_iret C rfl (dk dcX10_addOrClear_0 15 rfl)
  · replace h := if_t c_1 h
    refine v_aload_n C 0 (dk dcX10_addOrClear_0 3 rfl) rfl rfl ?_
    obtain ⟨g_3, h_2, h⟩ := bnd1_s h
    refine v_callV0 C (mtX5_clear (L - 1) (by omega) hd0 h_2) wmX5_clear wd_766 (by omega) (by decide) rfl _ (ce_Strip hd0) rfl rfl (Nat.le_of_ble_eq_true rfl) (dk dcX10_addOrClear_0 4 rfl) ?_
    refine v_iconst C 0 (dk dcX10_addOrClear_0 5 rfl) ki_0 ?_
    cases h
    exact v_iret C rfl (dk dcX10_addOrClear_0 6 rfl)
set_option maxRecDepth 20000 in
set_option maxHeartbeats 4000000 in
theorem vX10_row_j14 {L : Nat} (hL : 4 ≤ L) (C : CX p s m args meth c cX10_row 2 RX10 (some .int) E) {g : STt} {l1 : Int32} (r : STt × Int32) (h : fX10_row_j14 g l1 = some r) : VJ p l e (rmL (L + 1)) s m args below meth c (QE below E (cellsC E r.1 ++ wx) (some (.int r.2)) args s) E 2 (cellsC E g ++ wx) [(0, .ref (aE E 0 0)), (1, .int l1)] [] 14 := by
  unfold fX10_row_j14 at h
  refine v_aload_n C 0 (dk dcX10_row_0 8 rfl) rfl rfl ?_
  refine gt_DB_present C wd_345 (dk dcX10_row_0 9 rfl) ?_
  refine gt_Moment_acts C (by decide) wd_230 (dk dcX10_row_0 10 rfl) ?_
  refine v_iload_n C 1 (dk dcX10_row_0 11 rfl) rfl rfl ?_
  obtain ⟨g_2, r_3, h_1, h⟩ := bnd_s h
  refine v_callS1 C (mtX10_addOrClear (L - 1) (by omega) (by decide) h_1) wmX10_addOrClear wd_763 (by omega) (by decide) rfl rfl (Nat.le_of_ble_eq_true rfl) (dk dcX10_row_0 12 rfl) ?_
  cases h
  exact v_iret C rfl (dk dcX10_row_0 13 rfl)
set_option maxRecDepth 20000 in
set_option maxHeartbeats 4000000 in
theorem mtX10_row {l : Launch} {E : WEt} {wx : va_W} (L : Nat) (hL : 4 ≤ L)  {g : STt} {x1 : Int32} {g' : STt} {rr : Int32} (h : fX10_row g x1 = some (g', rr)) : MT l E yX10_row cX10_row 2 (some .int) (L + 1) [.ref (aE E 0 0), .int x1] (cellsC E g ++ wx) (cellsC E g' ++ wx) (some (.int rr)) := by
  refine mt_of (by decide +kernel) (Nat.le_of_ble_eq_true rfl) ?_
  intro p e s m args below meth c C
  replace C : CX p s m args meth c cX10_row 2 RX10 (some .int) E := C
  unfold fX10_row at h
  refine vj_sub (lv' := [(0, .ref (aE E 0 0)), (1, .int x1)]) [0, 1] rfl ?_
  refine v_iload_n C 1 (dk dcX10_row_0 0 rfl) rfl rfl ?_
  refine v_iconst C (-1) (dk dcX10_row_0 1 rfl) ki_m1 ?_
  refine v_icmp_eq C 14 (dk dcX10_row_0 2 rfl) (by decide) (fun c_1 => ?_) (fun c_1 => ?_)
  · replace h := if_t c_1 h
    exact vj_sub [0, 1] rfl (vX10_row_j14 hL C _ h)
  · replace h := if_f c_1 h
    refine v_iload_n C 1 (dk dcX10_row_0 3 rfl) rfl rfl ?_
    obtain ⟨r_3, h_2, h⟩ := bnd1_s h
    refine v_callS1 C (mtX10_isAct (L - 1) (by omega) h_2) wmX10_isAct wd_695 (by omega) (by decide) rfl rfl (Nat.le_of_ble_eq_true rfl) (dk dcX10_row_0 4 rfl) ?_
    refine v_if_ne C 14 (dk dcX10_row_0 5 rfl) (by decide) (fun c_4 => ?_) (fun c_4 => ?_)
    · replace h := if_f c_4 h
      exact vj_sub [0, 1] rfl (vX10_row_j14 hL C _ h)
    · replace h := if_t c_4 h
      refine v_iconst C (-1) (dk dcX10_row_0 6 rfl) ki_m1 ?_
      cases h
      exact v_iret C rfl (dk dcX10_row_0 7 rfl)
set_option maxRecDepth 20000 in
set_option maxHeartbeats 4000000 in
theorem vX10_round_j37 {L : Nat} (hL : 7 ≤ L) (C : CX p s m args meth c cX10_round 2 RX10 (some .int) E) {g : STt} (r : STt × Int32) (h : fX10_round_j37 g = some r) : VJ p l e (rmL (L + 1)) s m args below meth c (QE below E (cellsC E r.1 ++ wx) (some (.int r.2)) args s) E 2 (cellsC E g ++ wx) [] [] 37 := by
  unfold fX10_round_j37 at h
  refine v_iconst C 1 (dk dcX10_round_0 18 rfl) ki_1 ?_
  refine v_goto C 42 (dk dcX10_round_0 19 rfl) (by decide) ?_
  cases h
  exact v_iret C rfl (dk dcX10_round_0 21 rfl)
set_option maxRecDepth 20000 in
set_option maxHeartbeats 4000000 in
theorem mtX10_round {l : Launch} {E : WEt} {wx : va_W} (L : Nat) (hL : 7 ≤ L)  {g : STt} {g' : STt} {rr : Int32} (h : fX10_round g = some (g', rr)) : MT l E yX10_round cX10_round 2 (some .int) (L + 1) [.ref (aE E 0 0)] (cellsC E g ++ wx) (cellsC E g' ++ wx) (some (.int rr)) := by
  refine mt_of (by decide +kernel) (Nat.le_of_ble_eq_true rfl) ?_
  intro p e s m args below meth c C
  replace C : CX p s m args meth c cX10_round 2 RX10 (some .int) E := C
  unfold fX10_round at h
  refine vj_sub (lv' := [(0, .ref (aE E 0 0))]) [0] rfl ?_
  refine v_aload_n C 0 (dk dcX10_round_0 0 rfl) rfl rfl ?_
  obtain ⟨r_2, h_1, h⟩ := bnd1_s h
  refine v_callV1 C (mtX10_isOver (L - 1) (by omega) h_1) wmX10_isOver wd_659 (by omega) (by decide) rfl _ (ce_DB) rfl rfl (Nat.le_of_ble_eq_true rfl) (dk dcX10_round_0 1 rfl) ?_
  refine v_if_eq C 10 (dk dcX10_round_0 2 rfl) (by decide) (fun c_3 => ?_) (fun c_3 => ?_)
  · replace h := if_t c_3 h
    refine v_aload_n C 0 (dk dcX10_round_0 5 rfl) rfl rfl ?_
    refine gt_DB_trial C wd_342 (dk dcX10_round_0 6 rfl) ?_
    obtain ⟨g_5, r_6, h_4, h⟩ := bnd_s h
    refine v_callV1 C (mtX8_waiting (L - 1) (by omega) h_4) wmX8_waiting wd_862 (by omega) (by decide) rfl _ (ce_Trial) rfl rfl (Nat.le_of_ble_eq_true rfl) (dk dcX10_round_0 7 rfl) ?_
    refine v_istore_n C (lv' := [(1, .int r_6), (0, .ref (aE E 0 0))]) (dk dcX10_round_0 8 rfl) rfl (by decide) rfl ?_
    refine v_iload_n C 0 (dk dcX10_round_0 9 rfl) rfl rfl ?_
    refine v_bipush C (-5) (dk dcX10_round_0 10 rfl) kb_m5 ?_
    refine v_icmp_eq C 37 (dk dcX10_round_0 11 rfl) (by decide) (fun c_7 => ?_) (fun c_7 => ?_)
    · replace h := if_t c_7 h
      exact vj_sub [] rfl (vX10_round_j37 hL C _ h)
    · replace h := if_f c_7 h
      refine v_aload_n C 1 (dk dcX10_round_0 12 rfl) rfl rfl ?_
      refine gt_DB_walk C wd_341 (dk dcX10_round_0 13 rfl) ?_
      refine v_bipush C 6 (dk dcX10_round_0 14 rfl) kb_6 ?_
      obtain ⟨r_9, h_8, h⟩ := bnd1_s h
      refine v_callV1 C (mtX9_halfMinutesOf (L - 1) (by omega) h_8) wmX9_halfMinutesOf wd_735 (by omega) (by decide) rfl _ (ce_Walk) rfl rfl (Nat.le_of_ble_eq_true rfl) (dk dcX10_round_0 15 rfl) ?_
      refine v_iload_n C 0 (dk dcX10_round_0 16 rfl) rfl rfl ?_
      refine v_icmp_ge C 41 (dk dcX10_round_0 17 rfl) (by decide) (fun c_10 => ?_) (fun c_10 => ?_)
      · replace h := if_t c_10 h
        refine v_iconst C 0 (dk dcX10_round_0 20 rfl) ki_0 ?_
        cases h
        exact v_iret C rfl (dk dcX10_round_0 21 rfl)
      · replace h := if_f c_10 h
        exact vj_sub [] rfl (vX10_round_j37 hL C _ h)
  · replace h := if_f c_3 h
    refine v_bipush C (-3) (dk dcX10_round_0 3 rfl) kb_m3 ?_
    cases h
    exact v_iret C rfl (dk dcX10_round_0 4 rfl)
set_option maxRecDepth 20000 in
set_option maxHeartbeats 4000000 in
theorem mtX6_has {l : Launch} {E : WEt} {wx : va_W} (L : Nat) (hL : 2 ≤ L)  {g : STt} {d0 : Nat} (hd0 : d0 < 6) {x1 : Int32} {rr : Int32} (h : fX6_has g d0 x1 = some rr) : MT l E yX6_has cX6_has 2 (some .boolean) (L + 1) [.ref (aE E 26 d0), .int x1] (cellsC E g ++ wx) (cellsC E g ++ wx) (some (.int rr)) := by
  refine mt_of (by decide +kernel) (Nat.le_of_ble_eq_true rfl) ?_
  intro p e s m args below meth c C
  replace C : CX p s m args meth c cX6_has 2 RX6 (some .boolean) E := C
  unfold fX6_has at h
  refine vj_sub (lv' := [(0, .ref (aE E 26 d0)), (1, .int x1)]) [0, 1] rfl ?_
  refine v_iload_n C 1 (dk dcX6_has_0 0 rfl) rfl rfl ?_
  refine v_if_lt C 22 (dk dcX6_has_0 1 rfl) (by decide) (fun c_1 => ?_) (fun c_1 => ?_)
  · replace h := if_t c_1 h
    refine v_iconst C 0 (dk dcX6_has_0 11 rfl) ki_0 ?_
    cases h
    exact v_zret C (x := 0) rfl rfl (dk dcX6_has_0 12 rfl)
  · replace h := if_f c_1 h
    refine v_iload_n C 1 (dk dcX6_has_0 2 rfl) rfl rfl ?_
    refine v_aload_n C 0 (dk dcX6_has_0 3 rfl) rfl rfl ?_
    refine gt_Tape_size C hd0 wd_327 (dk dcX6_has_0 4 rfl) ?_
    refine v_icmp_ge C 22 (dk dcX6_has_0 5 rfl) (by decide) (fun c_2 => ?_) (fun c_2 => ?_)
    · replace h := if_t c_2 h
      refine v_iconst C 0 (dk dcX6_has_0 11 rfl) ki_0 ?_
      cases h
      exact v_zret C (x := 0) rfl rfl (dk dcX6_has_0 12 rfl)
    · replace h := if_f c_2 h
      refine v_iload_n C 1 (dk dcX6_has_0 6 rfl) rfl rfl ?_
      refine v_bipush C 60 (dk dcX6_has_0 7 rfl) kb_60 ?_
      refine v_icmp_ge C 22 (dk dcX6_has_0 8 rfl) (by decide) (fun c_3 => ?_) (fun c_3 => ?_)
      · replace h := if_t c_3 h
        refine v_iconst C 0 (dk dcX6_has_0 11 rfl) ki_0 ?_
        cases h
        exact v_zret C (x := 0) rfl rfl (dk dcX6_has_0 12 rfl)
      · replace h := if_f c_3 h
        refine v_iconst C 1 (dk dcX6_has_0 9 rfl) ki_1 ?_
        refine v_goto C 23 (dk dcX6_has_0 10 rfl) (by decide) ?_
        cases h
        exact v_zret C (x := 1) rfl rfl (dk dcX6_has_0 12 rfl)
set_option maxRecDepth 20000 in
set_option maxHeartbeats 4000000 in
theorem mtX6_get {l : Launch} {E : WEt} {wx : va_W} (L : Nat) (hL : 3 ≤ L)  {g : STt} {d0 : Nat} (hd0 : d0 < 6) {x1 : Int32} {rr : Int64} (h : fX6_get g d0 x1 = some rr) : MT l E yX6_get cX6_get 2 (some .long) (L + 1) [.ref (aE E 26 d0), .int x1] (cellsC E g ++ wx) (cellsC E g ++ wx) (some (.long rr)) := by
  refine mt_of (by decide +kernel) (Nat.le_of_ble_eq_true rfl) ?_
  intro p e s m args below meth c C
  replace C : CX p s m args meth c cX6_get 2 RX6 (some .long) E := C
  unfold fX6_get at h
  refine vj_sub (lv' := [(0, .ref (aE E 26 d0)), (1, .int x1)]) [0, 1] rfl ?_
  refine v_aload_n C 0 (dk dcX6_get_0 0 rfl) rfl rfl ?_
  refine v_iload_n C 1 (dk dcX6_get_0 1 rfl) rfl rfl ?_
  obtain ⟨r_2, h_1, h⟩ := bnd1_s h
  refine v_callV1 C (mtX6_has (L - 1) (by omega) hd0 h_1) wmX6_has wd_976 (by omega) (by decide) rfl _ (ce_Tape hd0) rfl rfl (Nat.le_of_ble_eq_true rfl) (dk dcX6_get_0 2 rfl) ?_
  refine v_if_eq C 17 (dk dcX6_get_0 3 rfl) (by decide) (fun c_3 => ?_) (fun c_3 => ?_)
  · replace h := if_t c_3 h
    refine v_lconst C 0 (dk dcX6_get_0 9 rfl) rfl ?_
    cases h
    exact v_lret C rfl (dk dcX6_get_0 10 rfl)
  · replace h := if_f c_3 h
    refine v_aload_n C 0 (dk dcX6_get_0 4 rfl) rfl rfl ?_
    refine gt_Tape_items C hd0 wd_325 (dk dcX6_get_0 5 rfl) ?_
    refine v_iload_n C 1 (dk dcX6_get_0 6 rfl) rfl rfl ?_
    obtain ⟨b_4, h⟩ := gd_t h
    refine ld_tapeItems C hd0 b_4 (dk dcX6_get_0 7 rfl) ?_
    refine v_goto C 18 (dk dcX6_get_0 8 rfl) (by decide) ?_
    cases h
    exact v_lret C rfl (dk dcX6_get_0 10 rfl)
set_option maxRecDepth 20000 in
set_option maxHeartbeats 4000000 in
theorem mtX10_read {l : Launch} {E : WEt} {wx : va_W} (L : Nat) (hL : 4 ≤ L)  {g : STt} {x1 : Int32} {x2 : Int32} {rr : Int64} (h : fX10_read g x1 x2 = some rr) : MT l E yX10_read cX10_read 4 (some .long) (L + 1) [.ref (aE E 0 0), .int x1, .int x2] (cellsC E g ++ wx) (cellsC E g ++ wx) (some (.long rr)) := by
  refine mt_of (by decide +kernel) (Nat.le_of_ble_eq_true rfl) ?_
  intro p e s m args below meth c C
  replace C : CX p s m args meth c cX10_read 4 RX10 (some .long) E := C
  unfold fX10_read at h
  refine vj_sub (lv' := [(0, .ref (aE E 0 0)), (1, .int x1), (2, .int x2)]) [0, 1, 2] rfl ?_
  refine v_aload_n C 0 (dk dcX10_read_0 0 rfl) rfl rfl ?_
  refine v_iload_n C 1 (dk dcX10_read_0 1 rfl) rfl rfl ?_
  obtain ⟨r_2, h_1, h⟩ := bnd1_s h
  refine v_callV1 C (mtX10_tapeOf (L - 1) (by omega) h_1) wmX10_tapeOf wd_952 (by omega) (by decide) rfl _ (ce_DB) rfl rfl (Nat.le_of_ble_eq_true rfl) (dk dcX10_read_0 2 rfl) ?_
  rcases r_2 with _ | q_4
  · dsimp only [ocase] at h
    refine v_astore_nN C (lv' := [(3, .null), (0, .ref (aE E 0 0)), (1, .int x1), (2, .int x2)]) (dk dcX10_read_0 3 rfl) rfl (by decide) rfl ?_
    refine v_aload_nN C 0 (dk dcX10_read_0 4 rfl) rfl rfl ?_
    refine v_ifnullN C 26 (dk dcX10_read_0 5 rfl) (by decide) ?_
    refine v_ldc2 C wd_892 (dk dcX10_read_0 14 rfl) ?_
    cases h
    exact v_lret C rfl (dk dcX10_read_0 15 rfl)
  · dsimp only [ocase] at h
    obtain ⟨b_3, h⟩ := gd_t h
    refine v_astore_n C (lv' := [(3, .ref (aE E 26 q_4)), (0, .ref (aE E 0 0)), (1, .int x1), (2, .int x2)]) (dk dcX10_read_0 3 rfl) rfl (by decide) rfl ?_
    refine v_aload_n C 0 (dk dcX10_read_0 4 rfl) rfl rfl ?_
    refine v_ifnull C (dk dcX10_read_0 5 rfl) ?_
    refine v_aload_n C 0 (dk dcX10_read_0 6 rfl) rfl rfl ?_
    refine v_iload_n C 3 (dk dcX10_read_0 7 rfl) rfl rfl ?_
    obtain ⟨r_6, h_5, h⟩ := bnd1_s h
    refine v_callV1 C (mtX6_has (L - 1) (by omega) b_3 h_5) wmX6_has wd_1074 (by omega) (by decide) rfl _ (ce_Tape b_3) rfl rfl (Nat.le_of_ble_eq_true rfl) (dk dcX10_read_0 8 rfl) ?_
    refine v_if_eq C 26 (dk dcX10_read_0 9 rfl) (by decide) (fun c_7 => ?_) (fun c_7 => ?_)
    · replace h := if_t c_7 h
      refine v_ldc2 C wd_892 (dk dcX10_read_0 14 rfl) ?_
      cases h
      exact v_lret C rfl (dk dcX10_read_0 15 rfl)
    · replace h := if_f c_7 h
      refine v_aload_n C 0 (dk dcX10_read_0 10 rfl) rfl rfl ?_
      refine v_iload_n C 3 (dk dcX10_read_0 11 rfl) rfl rfl ?_
      obtain ⟨r_9, h_8, h⟩ := bnd1_s h
      refine v_callV1 C (mtX6_get (L - 1) (by omega) b_3 h_8) wmX6_get wd_1087 (by omega) (by decide) rfl _ (ce_Tape b_3) rfl rfl (Nat.le_of_ble_eq_true rfl) (dk dcX10_read_0 12 rfl) ?_
      refine v_goto C 29 (dk dcX10_read_0 13 rfl) (by decide) ?_
      cases h
      exact v_lret C rfl (dk dcX10_read_0 15 rfl)
set_option maxRecDepth 20000 in
set_option maxHeartbeats 4000000 in
theorem mtX4_add {l : Launch} {E : WEt} {wx : va_W} (L : Nat) (hL : 2 ≤ L)  {g : STt} {x1 : Int32} {x2 : Int32} {x3 : Int32} {g' : STt} {rr : Int32} (h : fX4_add g x1 x2 x3 = some (g', rr)) : MT l E yX4_add cX4_add 4 (some .int) (L + 1) [.ref (aE E 1 0), .int x1, .int x2, .int x3] (cellsC E g ++ wx) (cellsC E g' ++ wx) (some (.int rr)) := by
  refine mt_of (by decide +kernel) (Nat.le_of_ble_eq_true rfl) ?_
  intro p e s m args below meth c C
  replace C : CX p s m args meth c cX4_add 4 RX4 (some .int) E := C
  unfold fX4_add at h
  refine vj_sub (lv' := [(0, .ref (aE E 1 0)), (1, .int x1), (2, .int x2), (3, .int x3)]) [0, 1, 2, 3] rfl ?_
  refine v_aload_n C 0 (dk dcX4_add_0 0 rfl) rfl rfl ?_
  refine gt_Road_size C wd_114 (dk dcX4_add_0 1 rfl) ?_
  refine v_if_lt C 16 (dk dcX4_add_0 2 rfl) (by decide) (fun c_1 => ?_) (fun c_1 => ?_)
  · replace h := if_t c_1 h
    refine v_bipush C (-4) (dk dcX4_add_0 7 rfl) kb_m4 ?_
    cases h
    exact v_iret C rfl (dk dcX4_add_0 8 rfl)
  · replace h := if_f c_1 h
    refine v_aload_n C 0 (dk dcX4_add_0 3 rfl) rfl rfl ?_
    refine gt_Road_size C wd_114 (dk dcX4_add_0 4 rfl) ?_
    refine v_bipush C 10 (dk dcX4_add_0 5 rfl) kb_10 ?_
    refine v_icmp_lt C 19 (dk dcX4_add_0 6 rfl) (by decide) (fun c_2 => ?_) (fun c_2 => ?_)
    · replace h := if_t c_2 h
      refine v_aload_n C 0 (dk dcX4_add_0 9 rfl) rfl rfl ?_
      refine gt_Road_kinds C wd_111 (dk dcX4_add_0 10 rfl) ?_
      refine v_aload_n C 0 (dk dcX4_add_0 11 rfl) rfl rfl ?_
      refine gt_Road_size C wd_114 (dk dcX4_add_0 12 rfl) ?_
      refine v_iload_n C 1 (dk dcX4_add_0 13 rfl) rfl rfl ?_
      obtain ⟨b_3, h⟩ := gd_t h
      refine st_roadKinds C b_3 (dk dcX4_add_0 14 rfl) ?_
      refine v_aload_n C 0 (dk dcX4_add_0 15 rfl) rfl rfl ?_
      refine gt_Road_numbers C wd_112 (dk dcX4_add_0 16 rfl) ?_
      refine v_aload_n C 0 (dk dcX4_add_0 17 rfl) rfl rfl ?_
      refine gt_Road_size C wd_114 (dk dcX4_add_0 18 rfl) ?_
      refine v_iload_n C 2 (dk dcX4_add_0 19 rfl) rfl rfl ?_
      obtain ⟨b_4, h⟩ := gd_t h
      refine st_roadNumbers C b_4 (dk dcX4_add_0 20 rfl) ?_
      refine v_aload_n C 0 (dk dcX4_add_0 21 rfl) rfl rfl ?_
      refine gt_Road_things C wd_113 (dk dcX4_add_0 22 rfl) ?_
      refine v_aload_n C 0 (dk dcX4_add_0 23 rfl) rfl rfl ?_
      refine gt_Road_size C wd_114 (dk dcX4_add_0 24 rfl) ?_
      refine v_iload_n C 3 (dk dcX4_add_0 25 rfl) rfl rfl ?_
      obtain ⟨b_5, h⟩ := gd_t h
      refine st_roadThings C b_5 (dk dcX4_add_0 26 rfl) ?_
      refine v_aload_n C 0 (dk dcX4_add_0 27 rfl) rfl rfl ?_
      refine v_dup C rfl (dk dcX4_add_0 28 rfl) ?_
      refine gt_Road_size C wd_114 (dk dcX4_add_0 29 rfl) ?_
      refine v_iconst C 1 (dk dcX4_add_0 30 rfl) ki_1 ?_
      refine v_iadd C (dk dcX4_add_0 31 rfl) ?_
      refine pt_Road_size C wd_114 (dk dcX4_add_0 32 rfl) ?_
      refine v_aload_n C 0 (dk dcX4_add_0 33 rfl) rfl rfl ?_
      refine gt_Road_size C wd_114 (dk dcX4_add_0 34 rfl) ?_
      refine v_iconst C 1 (dk dcX4_add_0 35 rfl) ki_1 ?_
      refine v_isub C (dk dcX4_add_0 36 rfl) ?_
      cases h
      exact v_iret C rfl (dk dcX4_add_0 37 rfl)
    · replace h := if_f c_2 h
      refine v_bipush C (-4) (dk dcX4_add_0 7 rfl) kb_m4 ?_
      cases h
      exact v_iret C rfl (dk dcX4_add_0 8 rfl)
set_option maxRecDepth 20000 in
set_option maxHeartbeats 4000000 in
theorem mtX10_place {l : Launch} {E : WEt} {wx : va_W} (L : Nat) (hL : 3 ≤ L)  {g : STt} {x1 : Int32} {x2 : Int32} {x3 : Int32} {g' : STt} {rr : Int32} (h : fX10_place g x1 x2 x3 = some (g', rr)) : MT l E yX10_place cX10_place 4 (some .int) (L + 1) [.ref (aE E 0 0), .int x1, .int x2, .int x3] (cellsC E g ++ wx) (cellsC E g' ++ wx) (some (.int rr)) := by
  refine mt_of (by decide +kernel) (Nat.le_of_ble_eq_true rfl) ?_
  intro p e s m args below meth c C
  replace C : CX p s m args meth c cX10_place 4 RX10 (some .int) E := C
  unfold fX10_place at h
  refine vj_sub (lv' := [(0, .ref (aE E 0 0)), (1, .int x1), (2, .int x2), (3, .int x3)]) [0, 1, 2, 3] rfl ?_
  refine v_iload_n C 1 (dk dcX10_place_0 0 rfl) rfl rfl ?_
  refine v_if_lt C 19 (dk dcX10_place_0 1 rfl) (by decide) (fun c_1 => ?_) (fun c_1 => ?_)
  · replace h := if_t c_1 h
    refine v_iconst C (-1) (dk dcX10_place_0 10 rfl) ki_m1 ?_
    cases h
    exact v_iret C rfl (dk dcX10_place_0 11 rfl)
  · replace h := if_f c_1 h
    refine v_iload_n C 1 (dk dcX10_place_0 2 rfl) rfl rfl ?_
    refine v_bipush C 6 (dk dcX10_place_0 3 rfl) kb_6 ?_
    refine v_icmp_gt C 19 (dk dcX10_place_0 4 rfl) (by decide) (fun c_2 => ?_) (fun c_2 => ?_)
    · replace h := if_t c_2 h
      refine v_iconst C (-1) (dk dcX10_place_0 10 rfl) ki_m1 ?_
      cases h
      exact v_iret C rfl (dk dcX10_place_0 11 rfl)
    · replace h := if_f c_2 h
      refine v_iload_n C 3 (dk dcX10_place_0 5 rfl) rfl rfl ?_
      refine v_if_lt C 19 (dk dcX10_place_0 6 rfl) (by decide) (fun c_3 => ?_) (fun c_3 => ?_)
      · replace h := if_t c_3 h
        refine v_iconst C (-1) (dk dcX10_place_0 10 rfl) ki_m1 ?_
        cases h
        exact v_iret C rfl (dk dcX10_place_0 11 rfl)
      · replace h := if_f c_3 h
        refine v_iload_n C 3 (dk dcX10_place_0 7 rfl) rfl rfl ?_
        refine v_iconst C 5 (dk dcX10_place_0 8 rfl) ki_5 ?_
        refine v_icmp_le C 21 (dk dcX10_place_0 9 rfl) (by decide) (fun c_4 => ?_) (fun c_4 => ?_)
        · replace h := if_t c_4 h
          refine v_iload_n C 2 (dk dcX10_place_0 12 rfl) rfl rfl ?_
          refine v_if_lt C 31 (dk dcX10_place_0 13 rfl) (by decide) (fun c_5 => ?_) (fun c_5 => ?_)
          · replace h := if_t c_5 h
            refine v_bipush C (-2) (dk dcX10_place_0 17 rfl) kb_m2 ?_
            cases h
            exact v_iret C rfl (dk dcX10_place_0 18 rfl)
          · replace h := if_f c_5 h
            refine v_iload_n C 2 (dk dcX10_place_0 14 rfl) rfl rfl ?_
            refine v_bipush C 9 (dk dcX10_place_0 15 rfl) kb_9 ?_
            refine v_icmp_le C 34 (dk dcX10_place_0 16 rfl) (by decide) (fun c_6 => ?_) (fun c_6 => ?_)
            · replace h := if_t c_6 h
              refine v_aload_n C 0 (dk dcX10_place_0 19 rfl) rfl rfl ?_
              refine gt_DB_road C wd_336 (dk dcX10_place_0 20 rfl) ?_
              obtain ⟨r_8, h_7, h⟩ := bnd1_s h
              refine v_callV1 C (mtX4_size (L - 1) (by omega) h_7) wmX4_size wd_377 (by omega) (by decide) rfl _ (ce_Road) rfl rfl (Nat.le_of_ble_eq_true rfl) (dk dcX10_place_0 21 rfl) ?_
              refine v_bipush C 10 (dk dcX10_place_0 22 rfl) kb_10 ?_
              refine v_icmp_lt C 49 (dk dcX10_place_0 23 rfl) (by decide) (fun c_9 => ?_) (fun c_9 => ?_)
              · replace h := if_t c_9 h
                refine v_aload_n C 0 (dk dcX10_place_0 26 rfl) rfl rfl ?_
                refine gt_DB_road C wd_336 (dk dcX10_place_0 27 rfl) ?_
                refine v_iload_n C 1 (dk dcX10_place_0 28 rfl) rfl rfl ?_
                refine v_iload_n C 2 (dk dcX10_place_0 29 rfl) rfl rfl ?_
                refine v_iload_n C 3 (dk dcX10_place_0 30 rfl) rfl rfl ?_
                obtain ⟨g_11, r_12, h_10, h⟩ := bnd_s h
                refine v_callV1 C (mtX4_add (L - 1) (by omega) h_10) wmX4_add wd_381 (by omega) (by decide) rfl _ (ce_Road) rfl rfl (Nat.le_of_ble_eq_true rfl) (dk dcX10_place_0 31 rfl) ?_
                cases h
                exact v_iret C rfl (dk dcX10_place_0 32 rfl)
              · replace h := if_f c_9 h
                refine v_bipush C (-4) (dk dcX10_place_0 24 rfl) kb_m4 ?_
                cases h
                exact v_iret C rfl (dk dcX10_place_0 25 rfl)
            · replace h := if_f c_6 h
              refine v_bipush C (-2) (dk dcX10_place_0 17 rfl) kb_m2 ?_
              cases h
              exact v_iret C rfl (dk dcX10_place_0 18 rfl)
        · replace h := if_f c_4 h
          refine v_iconst C (-1) (dk dcX10_place_0 10 rfl) ki_m1 ?_
          cases h
          exact v_iret C rfl (dk dcX10_place_0 11 rfl)
set_option maxRecDepth 20000 in
set_option maxHeartbeats 4000000 in
theorem vX0_bodyOf_l4c {L : Nat} (hL : 3 ≤ L) (C : CX p s m args meth c cX0_bodyOf 5 RX0 (some .int) E) {g : STt} {l1 : Int32} {K4 : (Int32 × Int32) → Option Int32} (hK4 : ∀ {l2 : Int32} {l3 : Int32} (r : Int32), K4 (l2, l3) = some r → VJ p l e (rmL (L + 1)) s m args below meth c (QE below E (cellsC E g ++ wx) (some (.int r)) args s) E 5 (cellsC E g ++ wx) [(1, .int l1), (2, .int l2), (3, .int l3)] [] 4) {l2 : Int32} {l3 : Int32} (r : Int32) (h : fX0_bodyOf_l4c K4 g l1 l2 l3 = some r) : VJ p l e (rmL (L + 1)) s m args below meth c (QE below E (cellsC E g ++ wx) (some (.int r)) args s) E 5 (cellsC E g ++ wx) [(1, .int l1), (2, .int l2), (3, .int l3)] [] 4 := by
  unfold fX0_bodyOf_l4c at h
  refine v_iload_n C 2 (dk dcX0_bodyOf_0 4 rfl) rfl rfl ?_
  refine v_gets C C.2.2.2.2.2.2.1.2.2.1.1 wd_1020 rfl (dk dcX0_bodyOf_0 5 rfl) ?_
  refine v_tlen C C.2.2.2.2.2.2.1.2.2.1.2 (v := 21) rfl (dk dcX0_bodyOf_0 6 rfl) ?_
  refine v_icmp_ge C 66 (dk dcX0_bodyOf_0 7 rfl) (by decide) (fun c_1 => ?_) (fun c_1 => ?_)
  · replace h := if_t c_1 h
    refine v_iconst C 0 (dk dcX0_bodyOf_0 37 rfl) ki_0 ?_
    cases h
    exact v_iret C rfl (dk dcX0_bodyOf_0 38 rfl)
  · replace h := if_f c_1 h
    refine v_iload_n C 1 (dk dcX0_bodyOf_0 8 rfl) rfl rfl ?_
    refine v_iconst C 3 (dk dcX0_bodyOf_0 9 rfl) ki_3 ?_
    refine v_imul C (dk dcX0_bodyOf_0 10 rfl) ?_
    refine v_iload_n C 0 (dk dcX0_bodyOf_0 11 rfl) rfl rfl ?_
    refine v_iadd C (dk dcX0_bodyOf_0 12 rfl) ?_
    refine v_istore C (lv' := [(4, .int ((l2 * 3) + l1)), (1, .int l1), (2, .int l2), (3, .int l3)]) (dk dcX0_bodyOf_0 13 rfl) (by decide) rfl ?_
    refine v_iload_n C 2 (dk dcX0_bodyOf_0 14 rfl) rfl rfl ?_
    refine v_if_lt C 37 (dk dcX0_bodyOf_0 15 rfl) (by decide) (fun c_2 => ?_) (fun c_2 => ?_)
    · replace h := if_t c_2 h
      refine v_iconst C 0 (dk dcX0_bodyOf_0 22 rfl) ki_0 ?_
      cases h
      exact v_iret C rfl (dk dcX0_bodyOf_0 23 rfl)
    · replace h := if_f c_2 h
      refine v_iload C 0 (dk dcX0_bodyOf_0 16 rfl) rfl ?_
      refine v_if_lt C 37 (dk dcX0_bodyOf_0 17 rfl) (by decide) (fun c_3 => ?_) (fun c_3 => ?_)
      · replace h := if_t c_3 h
        refine v_iconst C 0 (dk dcX0_bodyOf_0 22 rfl) ki_0 ?_
        cases h
        exact v_iret C rfl (dk dcX0_bodyOf_0 23 rfl)
      · replace h := if_f c_3 h
        refine v_iload C 0 (dk dcX0_bodyOf_0 18 rfl) rfl ?_
        refine v_gets C C.2.2.2.2.2.2.1.2.2.1.1 wd_1020 rfl (dk dcX0_bodyOf_0 19 rfl) ?_
        refine v_tlen C C.2.2.2.2.2.2.1.2.2.1.2 (v := 21) rfl (dk dcX0_bodyOf_0 20 rfl) ?_
        refine v_icmp_lt C 39 (dk dcX0_bodyOf_0 21 rfl) (by decide) (fun c_4 => ?_) (fun c_4 => ?_)
        · replace h := if_t c_4 h
          refine v_gets C C.2.2.2.2.2.2.1.2.2.1.1 wd_1020 rfl (dk dcX0_bodyOf_0 24 rfl) ?_
          refine v_iload C 0 (dk dcX0_bodyOf_0 25 rfl) rfl ?_
          obtain ⟨b_5, h⟩ := gd_t h
          refine v_ti C C.2.2.2.2.2.2.1.2.2.1.2 (inB_in b_5) (dk dcX0_bodyOf_0 26 rfl) ?_
          refine v_if_eq C 55 (dk dcX0_bodyOf_0 27 rfl) (by decide) (fun c_6 => ?_) (fun c_6 => ?_)
          · replace h := if_t c_6 h
            refine v_iload_n C 2 (dk dcX0_bodyOf_0 32 rfl) rfl rfl ?_
            obtain ⟨r_8, h_7, h⟩ := bnd1_s h
            refine v_callS1 C (mtX4_aboveOf (L - 1) (by omega) h_7) wmX4_aboveOf wd_1022 (by omega) (by decide) rfl rfl (Nat.le_of_ble_eq_true rfl) (dk dcX0_bodyOf_0 33 rfl) ?_
            refine v_istore_n C (lv' := [(2, .int r_8), (4, .int ((l2 * 3) + l1)), (1, .int l1), (3, .int l3)]) (dk dcX0_bodyOf_0 34 rfl) rfl (by decide) rfl ?_
            refine v_iinc C (lv' := [(3, .int (l3 + 1)), (2, .int r_8), (4, .int ((l2 * 3) + l1)), (1, .int l1)]) (l3 + 1) 3 (dk dcX0_bodyOf_0 35 rfl) rfl (congrArg (fun z => l3 + z) ki_1) (by decide) rfl ?_
            refine v_goto C 4 (dk dcX0_bodyOf_0 36 rfl) (by decide) ?_
            exact vj_sub [3, 1, 0] rfl (hK4 _ h)
          · replace h := if_f c_6 h
            refine v_gets C C.2.2.2.2.2.2.1.2.2.1.1 wd_1020 rfl (dk dcX0_bodyOf_0 28 rfl) ?_
            refine v_iload C 0 (dk dcX0_bodyOf_0 29 rfl) rfl ?_
            obtain ⟨b_7, h⟩ := gd_t h
            refine v_ti C C.2.2.2.2.2.2.1.2.2.1.2 (inB_in b_7) (dk dcX0_bodyOf_0 30 rfl) ?_
            cases h
            exact v_iret C rfl (dk dcX0_bodyOf_0 31 rfl)
        · replace h := if_f c_4 h
          refine v_iconst C 0 (dk dcX0_bodyOf_0 22 rfl) ki_0 ?_
          cases h
          exact v_iret C rfl (dk dcX0_bodyOf_0 23 rfl)
set_option maxRecDepth 20000 in
set_option maxHeartbeats 4000000 in
theorem vX0_bodyOf_l4 {L : Nat} (hL : 3 ≤ L) (C : CX p s m args meth c cX0_bodyOf 5 RX0 (some .int) E) {g : STt} {l1 : Int32} {l2 : Int32} {l3 : Int32} (r : Int32) (h : fX0_bodyOf_l4 g l1 l2 l3 = some r) : VJ p l e (rmL (L + 1)) s m args below meth c (QE below E (cellsC E g ++ wx) (some (.int r)) args s) E 5 (cellsC E g ++ wx) [(1, .int l1), (2, .int l2), (3, .int l3)] [] 4 :=
  iterO_ind (F := fun K z => fX0_bodyOf_l4c K g l1 z.1 z.2) (fun z r => VJ p l e (rmL (L + 1)) s m args below meth c (QE below E (cellsC E g ++ wx) (some (.int r)) args s) E 5 (cellsC E g ++ wx) [(1, .int l1), (2, .int z.1), (3, .int z.2)] [] 4) (fun K hK z r h => vX0_bodyOf_l4c hL C (fun {l2} {l3} r h => hK (l2, l3) r h) r h) fuelN (l2, l3) r h
set_option maxRecDepth 20000 in
set_option maxHeartbeats 4000000 in
theorem mtX0_bodyOf {l : Launch} {E : WEt} {wx : va_W} (L : Nat) (hL : 3 ≤ L)  {g : STt} {x0 : Int32} {x1 : Int32} {rr : Int32} (h : fX0_bodyOf g x0 x1 = some rr) : MT l E yX0_bodyOf cX0_bodyOf 5 (some .int) (L + 1) [.int x0, .int x1] (cellsC E g ++ wx) (cellsC E g ++ wx) (some (.int rr)) := by
  refine mt_of (by decide +kernel) (Nat.le_of_ble_eq_true rfl) ?_
  intro p e s m args below meth c C
  replace C : CX p s m args meth c cX0_bodyOf 5 RX0 (some .int) E := C
  unfold fX0_bodyOf at h
  refine vj_sub (lv' := [(0, .int x0), (1, .int x1)]) [0, 1] rfl ?_
  refine v_iload_n C 0 (dk dcX0_bodyOf_0 0 rfl) rfl rfl ?_
  refine v_istore_n C (lv' := [(2, .int x0), (0, .int x0), (1, .int x1)]) (dk dcX0_bodyOf_0 1 rfl) rfl (by decide) rfl ?_
  refine v_iconst C 0 (dk dcX0_bodyOf_0 2 rfl) ki_0 ?_
  refine v_istore_n C (lv' := [(3, .int 0), (2, .int x0), (0, .int x0), (1, .int x1)]) (dk dcX0_bodyOf_0 3 rfl) rfl (by decide) rfl ?_
  exact vj_sub [3, 1, 0] rfl (vX0_bodyOf_l4 hL C _ h)
set_option maxRecDepth 20000 in
set_option maxHeartbeats 4000000 in
theorem moX0_answer {l : Launch} {E : WEt} {wx : va_W} (L : Nat) (hL : 4 ≤ L) {qX0_answer : STt → Int32 → Int32 → Int32 → Option (STt × Int32)} {qX0_run : STt → Int32 → Int32 → Int32 → Int32 → Option (STt × Int32)} (hcX0_answer : ∀ {g : STt} {x1 : Int32} {x2 : Int32} {x3 : Int32} {g' : STt} {rr : Int32}, qX0_answer g x1 x2 x3 = some (g', rr) → MT l E yX0_answer cX0_answer 4 (some .int) (L) [.ref (aE E 14 0), .int x1, .int x2, .int x3] (cellsC E g ++ wx) (cellsC E g' ++ wx) (some (.int rr))) (hcX0_run : ∀ {g : STt} {x1 : Int32} {x2 : Int32} {x3 : Int32} {x4 : Int32} {g' : STt} {rr : Int32}, qX0_run g x1 x2 x3 x4 = some (g', rr) → MT l E yX0_run cX0_run 6 (some .int) (L) [.ref (aE E 14 0), .int x1, .int x2, .int x3, .int x4] (cellsC E g ++ wx) (cellsC E g' ++ wx) (some (.int rr)))  {g : STt} {x1 : Int32} {x2 : Int32} {x3 : Int32} {g' : STt} {rr : Int32} (h : FX0_answer qX0_answer qX0_run g x1 x2 x3 = some (g', rr)) : MT l E yX0_answer cX0_answer 4 (some .int) (L + 1) [.ref (aE E 14 0), .int x1, .int x2, .int x3] (cellsC E g ++ wx) (cellsC E g' ++ wx) (some (.int rr)) := by
  refine mt_of (by decide +kernel) (Nat.le_of_ble_eq_true rfl) ?_
  intro p e s m args below meth c C
  replace C : CX p s m args meth c cX0_answer 4 RX0 (some .int) E := C
  unfold FX0_answer at h
  refine vj_sub (lv' := [(0, .ref (aE E 14 0)), (1, .int x1), (2, .int x2), (3, .int x3)]) [0, 1, 2, 3] rfl ?_
  refine v_iload_n C 1 (dk dcX0_answer_0 0 rfl) rfl rfl ?_
  by_cases c_1 : x1 = 10
  · replace h := if_t c_1 h
    refine v_lookup C 100 (dk dcX0_answer_0 1 rfl) (by decide) (by first | (rw [c_1]; done) | (rw [c_1]; rfl)) (by decide) ?_
    refine v_iload_n C 2 (dk dcX0_answer_0 2 rfl) rfl rfl ?_
    refine v_aload_n C 0 (dk dcX0_answer_0 3 rfl) rfl rfl ?_
    refine gt_Bodies_number C wd_304 (dk dcX0_answer_0 4 rfl) ?_
    refine v_iadd C (dk dcX0_answer_0 5 rfl) ?_
    cases h
    exact v_iret C rfl (dk dcX0_answer_0 6 rfl)
  · replace h := if_f c_1 h
    by_cases c_2 : x1 = 11
    · replace h := if_t c_2 h
      refine v_lookup C 107 (dk dcX0_answer_0 1 rfl) (by decide) (by first | (rw [c_2]; done) | (rw [c_2]; rfl)) (by decide) ?_
      refine v_aload_n C 0 (dk dcX0_answer_0 7 rfl) rfl rfl ?_
      refine v_aload_n C 0 (dk dcX0_answer_0 8 rfl) rfl rfl ?_
      refine gt_Bodies_kind C wd_302 (dk dcX0_answer_0 9 rfl) ?_
      refine v_iconst C 0 (dk dcX0_answer_0 10 rfl) ki_0 ?_
      refine v_iload_n C 2 (dk dcX0_answer_0 11 rfl) rfl rfl ?_
      refine v_iload_n C 3 (dk dcX0_answer_0 12 rfl) rfl rfl ?_
      obtain ⟨g_4, r_5, h_3, h⟩ := bnd_s h
      refine v_callV1 C (hcX0_run h_3) wmX0_run wd_1013 (by omega) (by decide) rfl _ (ce_Bodies) rfl rfl (Nat.le_of_ble_eq_true rfl) (dk dcX0_answer_0 13 rfl) ?_
      refine v_aload_n C 0 (dk dcX0_answer_0 14 rfl) rfl rfl ?_
      refine gt_Bodies_v C wd_303 (dk dcX0_answer_0 15 rfl) ?_
      refine v_isub C (dk dcX0_answer_0 16 rfl) ?_
      cases h
      exact v_iret C rfl (dk dcX0_answer_0 17 rfl)
    · replace h := if_f c_2 h
      by_cases c_3 : x1 = 12
      · replace h := if_t c_3 h
        refine v_lookup C 124 (dk dcX0_answer_0 1 rfl) (by decide) (by first | (rw [c_3]; done) | (rw [c_3]; rfl)) (by decide) ?_
        refine v_aload_n C 0 (dk dcX0_answer_0 18 rfl) rfl rfl ?_
        refine v_aload_n C 0 (dk dcX0_answer_0 19 rfl) rfl rfl ?_
        refine gt_Bodies_kind C wd_302 (dk dcX0_answer_0 20 rfl) ?_
        refine v_iconst C 1 (dk dcX0_answer_0 21 rfl) ki_1 ?_
        refine v_iload_n C 2 (dk dcX0_answer_0 22 rfl) rfl rfl ?_
        refine v_iload_n C 3 (dk dcX0_answer_0 23 rfl) rfl rfl ?_
        obtain ⟨g_5, r_6, h_4, h⟩ := bnd_s h
        refine v_callV1 C (hcX0_run h_4) wmX0_run wd_1013 (by omega) (by decide) rfl _ (ce_Bodies) rfl rfl (Nat.le_of_ble_eq_true rfl) (dk dcX0_answer_0 24 rfl) ?_
        refine v_iconst C 2 (dk dcX0_answer_0 25 rfl) ki_2 ?_
        refine v_imul C (dk dcX0_answer_0 26 rfl) ?_
        cases h
        exact v_iret C rfl (dk dcX0_answer_0 27 rfl)
      · replace h := if_f c_3 h
        by_cases c_4 : x1 = 20
        · replace h := if_t c_4 h
          refine v_lookup C 138 (dk dcX0_answer_0 1 rfl) (by decide) (by first | (rw [c_4]; done) | (rw [c_4]; rfl)) (by decide) ?_
          refine v_aload_n C 0 (dk dcX0_answer_0 28 rfl) rfl rfl ?_
          refine v_iconst C 0 (dk dcX0_answer_0 29 rfl) ki_0 ?_
          refine v_iconst C 1 (dk dcX0_answer_0 30 rfl) ki_1 ?_
          refine v_iload_n C 2 (dk dcX0_answer_0 31 rfl) rfl rfl ?_
          refine v_iload_n C 3 (dk dcX0_answer_0 32 rfl) rfl rfl ?_
          obtain ⟨g_6, r_7, h_5, h⟩ := bnd_s h
          refine v_callV1 C (hcX0_run h_5) wmX0_run wd_1013 (by omega) (by decide) rfl _ (ce_Bodies) rfl rfl (Nat.le_of_ble_eq_true rfl) (dk dcX0_answer_0 33 rfl) ?_
          refine v_bipush C 6 (dk dcX0_answer_0 34 rfl) kb_6 ?_
          refine v_ixor C (dk dcX0_answer_0 35 rfl) ?_
          cases h
          exact v_iret C rfl (dk dcX0_answer_0 36 rfl)
        · replace h := if_f c_4 h
          by_cases c_5 : x1 = 30
          · replace h := if_t c_5 h
            refine v_lookup C 150 (dk dcX0_answer_0 1 rfl) (by decide) (by first | (rw [c_5]; done) | (rw [c_5]; rfl)) (by decide) ?_
            refine v_aload_n C 0 (dk dcX0_answer_0 37 rfl) rfl rfl ?_
            refine v_iconst C 0 (dk dcX0_answer_0 38 rfl) ki_0 ?_
            refine v_iconst C 0 (dk dcX0_answer_0 39 rfl) ki_0 ?_
            refine v_iload_n C 2 (dk dcX0_answer_0 40 rfl) rfl rfl ?_
            refine v_iconst C 3 (dk dcX0_answer_0 41 rfl) ki_3 ?_
            refine v_imul C (dk dcX0_answer_0 42 rfl) ?_
            refine v_iload_n C 3 (dk dcX0_answer_0 43 rfl) rfl rfl ?_
            obtain ⟨g_7, r_8, h_6, h⟩ := bnd_s h
            refine v_callV1 C (hcX0_run h_6) wmX0_run wd_1013 (by omega) (by decide) rfl _ (ce_Bodies) rfl rfl (Nat.le_of_ble_eq_true rfl) (dk dcX0_answer_0 44 rfl) ?_
            cases h
            exact v_iret C rfl (dk dcX0_answer_0 45 rfl)
          · replace h := if_f c_5 h
            by_cases c_6 : x1 = 40
            · replace h := if_t c_6 h
              refine v_lookup C 161 (dk dcX0_answer_0 1 rfl) (by decide) (by first | (rw [c_6]; done) | (rw [c_6]; rfl)) (by decide) ?_
              refine v_aload_n C 0 (dk dcX0_answer_0 46 rfl) rfl rfl ?_
              refine v_iconst C 0 (dk dcX0_answer_0 47 rfl) ki_0 ?_
              refine v_iconst C 2 (dk dcX0_answer_1 0 rfl) ki_2 ?_
              refine v_iload_n C 2 (dk dcX0_answer_1 1 rfl) rfl rfl ?_
              refine v_iload_n C 3 (dk dcX0_answer_1 2 rfl) rfl rfl ?_
              obtain ⟨g_8, r_9, h_7, h⟩ := bnd_s h
              refine v_callV1 C (hcX0_run h_7) wmX0_run wd_1013 (by omega) (by decide) rfl _ (ce_Bodies) rfl rfl (Nat.le_of_ble_eq_true rfl) (dk dcX0_answer_1 3 rfl) ?_
              refine v_aload_n C 0 (dk dcX0_answer_1 4 rfl) rfl rfl ?_
              refine v_aload_n C 0 (dk dcX0_answer_1 5 rfl) rfl rfl ?_
              refine gt_Bodies_kind C wd_302 (dk dcX0_answer_1 6 rfl) ?_
              refine v_iconst C 1 (dk dcX0_answer_1 7 rfl) ki_1 ?_
              refine v_iconst C 1 (dk dcX0_answer_1 8 rfl) ki_1 ?_
              refine v_iload_n C 3 (dk dcX0_answer_1 9 rfl) rfl rfl ?_
              obtain ⟨g_11, r_12, h_10, h⟩ := bnd_s h
              refine v_callV1 C (hcX0_run h_10) wmX0_run wd_1013 (by omega) (by decide) rfl _ (ce_Bodies) rfl rfl (Nat.le_of_ble_eq_true rfl) (dk dcX0_answer_1 10 rfl) ?_
              refine v_iadd C (dk dcX0_answer_1 11 rfl) ?_
              cases h
              exact v_iret C rfl (dk dcX0_answer_1 12 rfl)
            · replace h := if_f c_6 h
              by_cases c_7 : x1 = 50
              · replace h := if_t c_7 h
                refine v_lookup C 182 (dk dcX0_answer_0 1 rfl) (by decide) (by first | (rw [c_7]; done) | (rw [c_7]; rfl)) (by decide) ?_
                refine v_aload_n C 0 (dk dcX0_answer_1 13 rfl) rfl rfl ?_
                refine v_iconst C 1 (dk dcX0_answer_1 14 rfl) ki_1 ?_
                refine v_iconst C 0 (dk dcX0_answer_1 15 rfl) ki_0 ?_
                refine v_iload_n C 2 (dk dcX0_answer_1 16 rfl) rfl rfl ?_
                refine v_iload_n C 3 (dk dcX0_answer_1 17 rfl) rfl rfl ?_
                obtain ⟨g_9, r_10, h_8, h⟩ := bnd_s h
                refine v_callV1 C (hcX0_run h_8) wmX0_run wd_1013 (by omega) (by decide) rfl _ (ce_Bodies) rfl rfl (Nat.le_of_ble_eq_true rfl) (dk dcX0_answer_1 18 rfl) ?_
                refine v_ineg C (dk dcX0_answer_1 19 rfl) ?_
                cases h
                exact v_iret C rfl (dk dcX0_answer_1 20 rfl)
              · replace h := if_f c_7 h
                by_cases c_8 : x1 = 51
                · replace h := if_t c_8 h
                  refine v_lookup C 192 (dk dcX0_answer_0 1 rfl) (by decide) (by first | (rw [c_8]; done) | (rw [c_8]; rfl)) (by decide) ?_
                  refine v_aload_n C 0 (dk dcX0_answer_1 21 rfl) rfl rfl ?_
                  refine v_iconst C 1 (dk dcX0_answer_1 22 rfl) ki_1 ?_
                  refine v_iconst C 1 (dk dcX0_answer_1 23 rfl) ki_1 ?_
                  refine v_iload_n C 2 (dk dcX0_answer_1 24 rfl) rfl rfl ?_
                  refine v_iconst C 1 (dk dcX0_answer_1 25 rfl) ki_1 ?_
                  refine v_iadd C (dk dcX0_answer_1 26 rfl) ?_
                  refine v_iload_n C 3 (dk dcX0_answer_1 27 rfl) rfl rfl ?_
                  obtain ⟨g_10, r_11, h_9, h⟩ := bnd_s h
                  refine v_callV1 C (hcX0_run h_9) wmX0_run wd_1013 (by omega) (by decide) rfl _ (ce_Bodies) rfl rfl (Nat.le_of_ble_eq_true rfl) (dk dcX0_answer_1 28 rfl) ?_
                  cases h
                  exact v_iret C rfl (dk dcX0_answer_1 29 rfl)
                · replace h := if_f c_8 h
                  by_cases c_9 : x1 = 60
                  · replace h := if_t c_9 h
                    refine v_lookup C 203 (dk dcX0_answer_0 1 rfl) (by decide) (by first | (rw [c_9]; done) | (rw [c_9]; rfl)) (by decide) ?_
                    refine v_aload_n C 0 (dk dcX0_answer_1 30 rfl) rfl rfl ?_
                    refine v_iconst C 2 (dk dcX0_answer_1 31 rfl) ki_2 ?_
                    refine v_iconst C 2 (dk dcX0_answer_1 32 rfl) ki_2 ?_
                    refine v_iload_n C 2 (dk dcX0_answer_1 33 rfl) rfl rfl ?_
                    refine v_aload_n C 0 (dk dcX0_answer_1 34 rfl) rfl rfl ?_
                    refine gt_Bodies_number C wd_304 (dk dcX0_answer_1 35 rfl) ?_
                    refine v_isub C (dk dcX0_answer_1 36 rfl) ?_
                    refine v_iload_n C 3 (dk dcX0_answer_1 37 rfl) rfl rfl ?_
                    obtain ⟨g_11, r_12, h_10, h⟩ := bnd_s h
                    refine v_callV1 C (hcX0_run h_10) wmX0_run wd_1013 (by omega) (by decide) rfl _ (ce_Bodies) rfl rfl (Nat.le_of_ble_eq_true rfl) (dk dcX0_answer_1 38 rfl) ?_
                    cases h
                    exact v_iret C rfl (dk dcX0_answer_1 39 rfl)
                  · replace h := if_f c_9 h
                    by_cases c_10 : x1 = 70
                    · replace h := if_t c_10 h
                      refine v_lookup C 217 (dk dcX0_answer_0 1 rfl) (by decide) (by first | (rw [c_10]; done) | (rw [c_10]; rfl)) (by decide) ?_
                      refine v_aload_n C 0 (dk dcX0_answer_1 40 rfl) rfl rfl ?_
                      refine v_iconst C 3 (dk dcX0_answer_1 41 rfl) ki_3 ?_
                      refine v_iconst C 1 (dk dcX0_answer_1 42 rfl) ki_1 ?_
                      refine v_iload_n C 2 (dk dcX0_answer_1 43 rfl) rfl rfl ?_
                      refine v_iload_n C 3 (dk dcX0_answer_1 44 rfl) rfl rfl ?_
                      obtain ⟨g_12, r_13, h_11, h⟩ := bnd_s h
                      refine v_callV1 C (hcX0_run h_11) wmX0_run wd_1013 (by omega) (by decide) rfl _ (ce_Bodies) rfl rfl (Nat.le_of_ble_eq_true rfl) (dk dcX0_answer_1 45 rfl) ?_
                      refine v_aload_n C 0 (dk dcX0_answer_1 46 rfl) rfl rfl ?_
                      refine v_iconst C 3 (dk dcX0_answer_1 47 rfl) ki_3 ?_
                      refine v_iconst C 0 (dk dcX0_answer_2 0 rfl) ki_0 ?_
                      refine v_iconst C 2 (dk dcX0_answer_2 1 rfl) ki_2 ?_
                      refine v_iload_n C 3 (dk dcX0_answer_2 2 rfl) rfl rfl ?_
                      obtain ⟨g_15, r_16, h_14, h⟩ := bnd_s h
                      refine v_callV1 C (hcX0_run h_14) wmX0_run wd_1013 (by omega) (by decide) rfl _ (ce_Bodies) rfl rfl (Nat.le_of_ble_eq_true rfl) (dk dcX0_answer_2 3 rfl) ?_
                      refine v_iadd C (dk dcX0_answer_2 4 rfl) ?_
                      cases h
                      exact v_iret C rfl (dk dcX0_answer_2 5 rfl)
                    · replace h := if_f c_10 h
                      by_cases c_11 : x1 = 71
                      · replace h := if_t c_11 h
                        refine v_lookup C 235 (dk dcX0_answer_0 1 rfl) (by decide) (by first | (rw [c_11]; done) | (rw [c_11]; rfl)) (by decide) ?_
                        refine v_aload_n C 0 (dk dcX0_answer_2 6 rfl) rfl rfl ?_
                        refine v_iconst C 3 (dk dcX0_answer_2 7 rfl) ki_3 ?_
                        refine v_iconst C 0 (dk dcX0_answer_2 8 rfl) ki_0 ?_
                        refine v_iload_n C 2 (dk dcX0_answer_2 9 rfl) rfl rfl ?_
                        refine v_iload_n C 3 (dk dcX0_answer_2 10 rfl) rfl rfl ?_
                        obtain ⟨g_13, r_14, h_12, h⟩ := bnd_s h
                        refine v_callV1 C (hcX0_run h_12) wmX0_run wd_1013 (by omega) (by decide) rfl _ (ce_Bodies) rfl rfl (Nat.le_of_ble_eq_true rfl) (dk dcX0_answer_2 11 rfl) ?_
                        refine v_aload_n C 0 (dk dcX0_answer_2 12 rfl) rfl rfl ?_
                        refine gt_Bodies_v C wd_303 (dk dcX0_answer_2 13 rfl) ?_
                        refine v_ixor C (dk dcX0_answer_2 14 rfl) ?_
                        cases h
                        exact v_iret C rfl (dk dcX0_answer_2 15 rfl)
                      · replace h := if_f c_11 h
                        refine v_lookup C (off := 248) 249 (dk dcX0_answer_0 1 rfl) (by decide) ((lv_osw c_1 (by decide)).trans ((lv_osw c_2 (by decide)).trans ((lv_osw c_3 (by decide)).trans ((lv_osw c_4 (by decide)).trans ((lv_osw c_5 (by decide)).trans ((lv_osw c_6 (by decide)).trans ((lv_osw c_7 (by decide)).trans ((lv_osw c_8 (by decide)).trans ((lv_osw c_9 (by decide)).trans ((lv_osw c_10 (by decide)).trans ((lv_osw c_11 (by decide)).trans rfl))))))))))) (by decide) ?_
                        refine v_iconst C 0 (dk dcX0_answer_2 16 rfl) ki_0 ?_
                        cases h
                        exact v_iret C rfl (dk dcX0_answer_2 17 rfl)
set_option maxRecDepth 20000 in
set_option maxHeartbeats 4000000 in
theorem moX0_run {l : Launch} {E : WEt} {wx : va_W} (L : Nat) (hL : 4 ≤ L) {qX0_answer : STt → Int32 → Int32 → Int32 → Option (STt × Int32)} {qX0_run : STt → Int32 → Int32 → Int32 → Int32 → Option (STt × Int32)} (hcX0_answer : ∀ {g : STt} {x1 : Int32} {x2 : Int32} {x3 : Int32} {g' : STt} {rr : Int32}, qX0_answer g x1 x2 x3 = some (g', rr) → MT l E yX0_answer cX0_answer 4 (some .int) (L) [.ref (aE E 14 0), .int x1, .int x2, .int x3] (cellsC E g ++ wx) (cellsC E g' ++ wx) (some (.int rr))) (hcX0_run : ∀ {g : STt} {x1 : Int32} {x2 : Int32} {x3 : Int32} {x4 : Int32} {g' : STt} {rr : Int32}, qX0_run g x1 x2 x3 x4 = some (g', rr) → MT l E yX0_run cX0_run 6 (some .int) (L) [.ref (aE E 14 0), .int x1, .int x2, .int x3, .int x4] (cellsC E g ++ wx) (cellsC E g' ++ wx) (some (.int rr)))  {g : STt} {x1 : Int32} {x2 : Int32} {x3 : Int32} {x4 : Int32} {g' : STt} {rr : Int32} (h : FX0_run qX0_answer qX0_run g x1 x2 x3 x4 = some (g', rr)) : MT l E yX0_run cX0_run 6 (some .int) (L + 1) [.ref (aE E 14 0), .int x1, .int x2, .int x3, .int x4] (cellsC E g ++ wx) (cellsC E g' ++ wx) (some (.int rr)) := by
  refine mt_of (by decide +kernel) (Nat.le_of_ble_eq_true rfl) ?_
  intro p e s m args below meth c C
  replace C : CX p s m args meth c cX0_run 6 RX0 (some .int) E := C
  unfold FX0_run at h
  refine vj_sub (lv' := [(0, .ref (aE E 14 0)), (1, .int x1), (2, .int x2), (3, .int x3), (4, .int x4)]) [0, 1, 2, 3, 4] rfl ?_
  refine v_iload C 4 (dk dcX0_run_0 0 rfl) rfl ?_
  refine v_bipush C 40 (dk dcX0_run_0 1 rfl) kb_40 ?_
  refine v_icmp_lt C 9 (dk dcX0_run_0 2 rfl) (by decide) (fun c_1 => ?_) (fun c_1 => ?_)
  · replace h := if_t c_1 h
    refine v_iload_n C 1 (dk dcX0_run_0 5 rfl) rfl rfl ?_
    refine v_iload_n C 2 (dk dcX0_run_0 6 rfl) rfl rfl ?_
    obtain ⟨r_3, h_2, h⟩ := bnd1_s h
    refine v_callS1 C (mtX0_bodyOf (L - 1) (by omega) h_2) wmX0_bodyOf wd_1017 (by omega) (by decide) rfl rfl (Nat.le_of_ble_eq_true rfl) (dk dcX0_run_0 7 rfl) ?_
    refine v_istore C (lv' := [(5, .int r_3), (0, .ref (aE E 14 0)), (1, .int x1), (2, .int x2), (3, .int x3), (4, .int x4)]) (dk dcX0_run_0 8 rfl) (by decide) rfl ?_
    refine v_aload_n C 1 (dk dcX0_run_0 9 rfl) rfl rfl ?_
    refine v_dup C rfl (dk dcX0_run_0 10 rfl) ?_
    refine gt_Bodies_ran C wd_301 (dk dcX0_run_0 11 rfl) ?_
    refine v_iconst C 1 (dk dcX0_run_0 12 rfl) ki_1 ?_
    refine v_iadd C (dk dcX0_run_0 13 rfl) ?_
    refine pt_Bodies_ran C wd_301 (dk dcX0_run_0 14 rfl) ?_
    refine v_aload_n C 1 (dk dcX0_run_0 15 rfl) rfl rfl ?_
    refine gt_Bodies_numbers C wd_300 (dk dcX0_run_0 16 rfl) ?_
    refine v_iload C 0 (dk dcX0_run_0 17 rfl) rfl ?_
    obtain ⟨g_5, r_6, h_4, h⟩ := bnd_s h
    refine v_callV1 C (mtX5_add (L - 1) (by omega) (by decide) h_4) wmX5_add wd_1027 (by omega) (by decide) rfl _ (ce_Strip (by decide)) rfl rfl (Nat.le_of_ble_eq_true rfl) (dk dcX0_run_0 18 rfl) ?_
    refine v_pop C rfl (dk dcX0_run_0 19 rfl) ?_
    refine v_aload_n C 1 (dk dcX0_run_0 20 rfl) rfl rfl ?_
    refine v_iload C 0 (dk dcX0_run_0 21 rfl) rfl ?_
    refine v_iload_n C 4 (dk dcX0_run_0 22 rfl) rfl rfl ?_
    refine v_iload C 5 (dk dcX0_run_0 23 rfl) rfl ?_
    refine v_iconst C 1 (dk dcX0_run_0 24 rfl) ki_1 ?_
    refine v_iadd C (dk dcX0_run_0 25 rfl) ?_
    obtain ⟨g_8, r_9, h_7, h⟩ := bnd_s h
    refine v_callV1 C (hcX0_answer h_7) wmX0_answer wd_1028 (by omega) (by decide) rfl _ (ce_Bodies) rfl rfl (Nat.le_of_ble_eq_true rfl) (dk dcX0_run_0 26 rfl) ?_
    cases h
    exact v_iret C rfl (dk dcX0_run_0 27 rfl)
  · replace h := if_f c_1 h
    refine v_iconst C 0 (dk dcX0_run_0 3 rfl) ki_0 ?_
    cases h
    exact v_iret C rfl (dk dcX0_run_0 4 rfl)
set_option maxRecDepth 20000 in
set_option maxHeartbeats 4000000 in
theorem mgX0_answer {l : Launch} {E : WEt} {wx : va_W} : ∀ (n L : Nat), 4 ≤ L → (∀ {g : STt} {x1 : Int32} {x2 : Int32} {x3 : Int32} {g' : STt} {rr : Int32}, (RGX0_answer n).1 g x1 x2 x3 = some (g', rr) → MT l E yX0_answer cX0_answer 4 (some .int) (L + n) [.ref (aE E 14 0), .int x1, .int x2, .int x3] (cellsC E g ++ wx) (cellsC E g' ++ wx) (some (.int rr))) ∧ (∀ {g : STt} {x1 : Int32} {x2 : Int32} {x3 : Int32} {x4 : Int32} {g' : STt} {rr : Int32}, (RGX0_answer n).2 g x1 x2 x3 x4 = some (g', rr) → MT l E yX0_run cX0_run 6 (some .int) (L + n) [.ref (aE E 14 0), .int x1, .int x2, .int x3, .int x4] (cellsC E g ++ wx) (cellsC E g' ++ wx) (some (.int rr))) := by
  intro n
  induction n with
  | zero => intro L hL; exact ⟨(by intros; rename_i h; cases h), (by intros; rename_i h; cases h)⟩
  | succ n ih =>
    intro L hL
    obtain ⟨i0, i1⟩ := ih L hL
    exact ⟨fun {_} {_} {_} {_} {_} {_} h => moX0_answer (L + n) (by omega) i0 i1 h, fun {_} {_} {_} {_} {_} {_} {_} h => moX0_run (L + n) (by omega) i0 i1 h⟩
set_option maxRecDepth 20000 in
set_option maxHeartbeats 4000000 in
theorem mtX0_answer {l : Launch} {E : WEt} {wx : va_W} (L : Nat) (hL : 44 ≤ L) {g : STt} {x1 : Int32} {x2 : Int32} {x3 : Int32} {g' : STt} {rr : Int32} (h : fX0_answer fuelX0_answer g x1 x2 x3 = some (g', rr)) : MT l E yX0_answer cX0_answer 4 (some .int) (L + 1) [.ref (aE E 14 0), .int x1, .int x2, .int x3] (cellsC E g ++ wx) (cellsC E g' ++ wx) (some (.int rr)) := by
  have e : L + 1 = (L + 1 - fuelX0_answer) + fuelX0_answer := by show L + 1 = (L + 1 - 40) + 40; omega
  rw [e]
  exact (mgX0_answer fuelX0_answer (L + 1 - fuelX0_answer) (by show 4 ≤ L + 1 - 40; omega)).1  h
set_option maxRecDepth 20000 in
set_option maxHeartbeats 4000000 in
theorem mtX0_run {l : Launch} {E : WEt} {wx : va_W} (L : Nat) (hL : 44 ≤ L) {g : STt} {x1 : Int32} {x2 : Int32} {x3 : Int32} {x4 : Int32} {g' : STt} {rr : Int32} (h : fX0_run fuelX0_answer g x1 x2 x3 x4 = some (g', rr)) : MT l E yX0_run cX0_run 6 (some .int) (L + 1) [.ref (aE E 14 0), .int x1, .int x2, .int x3, .int x4] (cellsC E g ++ wx) (cellsC E g' ++ wx) (some (.int rr)) := by
  have e : L + 1 = (L + 1 - fuelX0_answer) + fuelX0_answer := by show L + 1 = (L + 1 - 40) + 40; omega
  rw [e]
  exact (mgX0_answer fuelX0_answer (L + 1 - fuelX0_answer) (by show 4 ≤ L + 1 - 40; omega)).2  h
set_option maxRecDepth 20000 in
set_option maxHeartbeats 4000000 in
theorem mtX0_ask {l : Launch} {E : WEt} {wx : va_W} (L : Nat) (hL : 45 ≤ L)  {g : STt} {x1 : Int32} {x2 : Int32} {x3 : Int32} {g' : STt} {rr : Int32} (h : fX0_ask g x1 x2 x3 = some (g', rr)) : MT l E yX0_ask cX0_ask 4 (some .int) (L + 1) [.ref (aE E 14 0), .int x1, .int x2, .int x3] (cellsC E g ++ wx) (cellsC E g' ++ wx) (some (.int rr)) := by
  refine mt_of (by decide +kernel) (Nat.le_of_ble_eq_true rfl) ?_
  intro p e s m args below meth c C
  replace C : CX p s m args meth c cX0_ask 4 RX0 (some .int) E := C
  unfold fX0_ask at h
  refine vj_sub (lv' := [(0, .ref (aE E 14 0)), (1, .int x1), (2, .int x2), (3, .int x3)]) [0, 1, 2, 3] rfl ?_
  refine v_aload_n C 0 (dk dcX0_ask_0 0 rfl) rfl rfl ?_
  refine gt_Bodies_numbers C wd_300 (dk dcX0_ask_0 1 rfl) ?_
  obtain ⟨g_2, h_1, h⟩ := bnd1_s h
  refine v_callV0 C (mtX5_clear (L - 1) (by omega) (by decide) h_1) wmX5_clear wd_1009 (by omega) (by decide) rfl _ (ce_Strip (by decide)) rfl rfl (Nat.le_of_ble_eq_true rfl) (dk dcX0_ask_0 2 rfl) ?_
  refine v_aload_n C 0 (dk dcX0_ask_0 3 rfl) rfl rfl ?_
  refine v_iconst C 0 (dk dcX0_ask_0 4 rfl) ki_0 ?_
  refine pt_Bodies_ran C wd_301 (dk dcX0_ask_0 5 rfl) ?_
  refine v_aload_n C 0 (dk dcX0_ask_0 6 rfl) rfl rfl ?_
  refine gt_Bodies_road C wd_299 (dk dcX0_ask_0 7 rfl) ?_
  refine v_iload_n C 1 (dk dcX0_ask_0 8 rfl) rfl rfl ?_
  obtain ⟨r_4, h_3, h⟩ := bnd1_s h
  refine v_callV1 C (mtX4_has (L - 1) (by omega) h_3) wmX4_has wd_1010 (by omega) (by decide) rfl _ (ce_Road) rfl rfl (Nat.le_of_ble_eq_true rfl) (dk dcX0_ask_0 9 rfl) ?_
  refine v_if_eq C 32 (dk dcX0_ask_0 10 rfl) (by decide) (fun c_5 => ?_) (fun c_5 => ?_)
  · replace h := if_t c_5 h
    refine v_iconst C 0 (dk dcX0_ask_0 16 rfl) ki_0 ?_
    cases h
    exact v_iret C rfl (dk dcX0_ask_0 17 rfl)
  · replace h := if_f c_5 h
    refine v_iload_n C 2 (dk dcX0_ask_0 11 rfl) rfl rfl ?_
    refine v_if_lt C 32 (dk dcX0_ask_0 12 rfl) (by decide) (fun c_6 => ?_) (fun c_6 => ?_)
    · replace h := if_t c_6 h
      refine v_iconst C 0 (dk dcX0_ask_0 16 rfl) ki_0 ?_
      cases h
      exact v_iret C rfl (dk dcX0_ask_0 17 rfl)
    · replace h := if_f c_6 h
      refine v_iload_n C 2 (dk dcX0_ask_0 13 rfl) rfl rfl ?_
      refine v_iconst C 2 (dk dcX0_ask_0 14 rfl) ki_2 ?_
      refine v_icmp_le C 34 (dk dcX0_ask_0 15 rfl) (by decide) (fun c_7 => ?_) (fun c_7 => ?_)
      · replace h := if_t c_7 h
        refine v_aload_n C 0 (dk dcX0_ask_0 18 rfl) rfl rfl ?_
        refine v_aload_n C 0 (dk dcX0_ask_0 19 rfl) rfl rfl ?_
        refine gt_Bodies_road C wd_299 (dk dcX0_ask_0 20 rfl) ?_
        refine v_iload_n C 1 (dk dcX0_ask_0 21 rfl) rfl rfl ?_
        obtain ⟨r_9, h_8, h⟩ := bnd1_s h
        refine v_callV1 C (mtX4_kindOf (L - 1) (by omega) h_8) wmX4_kindOf wd_1011 (by omega) (by decide) rfl _ (ce_Road) rfl rfl (Nat.le_of_ble_eq_true rfl) (dk dcX0_ask_0 22 rfl) ?_
        refine pt_Bodies_kind C wd_302 (dk dcX0_ask_0 23 rfl) ?_
        refine v_aload_n C 0 (dk dcX0_ask_0 24 rfl) rfl rfl ?_
        refine v_aload_n C 0 (dk dcX0_ask_0 25 rfl) rfl rfl ?_
        refine gt_Bodies_road C wd_299 (dk dcX0_ask_0 26 rfl) ?_
        refine v_iload_n C 1 (dk dcX0_ask_0 27 rfl) rfl rfl ?_
        obtain ⟨r_11, h_10, h⟩ := bnd1_s h
        refine v_callV1 C (mtX4_numberOf (L - 1) (by omega) h_10) wmX4_numberOf wd_1012 (by omega) (by decide) rfl _ (ce_Road) rfl rfl (Nat.le_of_ble_eq_true rfl) (dk dcX0_ask_0 28 rfl) ?_
        refine pt_Bodies_v C wd_303 (dk dcX0_ask_0 29 rfl) ?_
        refine v_aload_n C 0 (dk dcX0_ask_0 30 rfl) rfl rfl ?_
        refine v_iload_n C 1 (dk dcX0_ask_0 31 rfl) rfl rfl ?_
        refine pt_Bodies_number C wd_304 (dk dcX0_ask_0 32 rfl) ?_
        refine v_aload_n C 0 (dk dcX0_ask_0 33 rfl) rfl rfl ?_
        refine v_aload_n C 0 (dk dcX0_ask_0 34 rfl) rfl rfl ?_
        refine gt_Bodies_kind C wd_302 (dk dcX0_ask_0 35 rfl) ?_
        refine v_iload_n C 2 (dk dcX0_ask_0 36 rfl) rfl rfl ?_
        refine v_iload_n C 3 (dk dcX0_ask_0 37 rfl) rfl rfl ?_
        refine v_iconst C 0 (dk dcX0_ask_0 38 rfl) ki_0 ?_
        obtain ⟨g_13, r_14, h_12, h⟩ := bnd_s h
        refine v_callV1 C (mtX0_run (L - 1) (by omega) h_12) wmX0_run wd_1013 (by omega) (by decide) rfl _ (ce_Bodies) rfl rfl (Nat.le_of_ble_eq_true rfl) (dk dcX0_ask_0 39 rfl) ?_
        cases h
        exact v_iret C rfl (dk dcX0_ask_0 40 rfl)
      · replace h := if_f c_7 h
        refine v_iconst C 0 (dk dcX0_ask_0 16 rfl) ki_0 ?_
        cases h
        exact v_iret C rfl (dk dcX0_ask_0 17 rfl)
set_option maxRecDepth 20000 in
set_option maxHeartbeats 4000000 in
theorem mtX10_part {l : Launch} {E : WEt} {wx : va_W} (L : Nat) (hL : 46 ≤ L)  {g : STt} {x1 : Int32} {x2 : Int32} {x3 : Int32} {g' : STt} {rr : Int32} (h : fX10_part g x1 x2 x3 = some (g', rr)) : MT l E yX10_part cX10_part 4 (some .int) (L + 1) [.ref (aE E 0 0), .int x1, .int x2, .int x3] (cellsC E g ++ wx) (cellsC E g' ++ wx) (some (.int rr)) := by
  refine mt_of (by decide +kernel) (Nat.le_of_ble_eq_true rfl) ?_
  intro p e s m args below meth c C
  replace C : CX p s m args meth c cX10_part 4 RX10 (some .int) E := C
  unfold fX10_part at h
  refine vj_sub (lv' := [(0, .ref (aE E 0 0)), (1, .int x1), (2, .int x2), (3, .int x3)]) [0, 1, 2, 3] rfl ?_
  refine v_aload_n C 0 (dk dcX10_part_0 0 rfl) rfl rfl ?_
  refine gt_DB_bodies C wd_343 (dk dcX10_part_0 1 rfl) ?_
  refine v_iload_n C 1 (dk dcX10_part_0 2 rfl) rfl rfl ?_
  refine v_iload_n C 2 (dk dcX10_part_0 3 rfl) rfl rfl ?_
  refine v_iload_n C 3 (dk dcX10_part_0 4 rfl) rfl rfl ?_
  obtain ⟨g_2, r_3, h_1, h⟩ := bnd_s h
  refine v_callV1 C (mtX0_ask (L - 1) (by omega) h_1) wmX0_ask wd_1005 (by omega) (by decide) rfl _ (ce_Bodies) rfl rfl (Nat.le_of_ble_eq_true rfl) (dk dcX10_part_0 5 rfl) ?_
  cases h
  exact v_iret C rfl (dk dcX10_part_0 6 rfl)
set_option maxRecDepth 20000 in
set_option maxHeartbeats 4000000 in
theorem vX8_firstOtherwise_l7c {L : Nat} (hL : 6 ≤ L) (C : CX p s m args meth c cX8_firstOtherwise 3 RX8 (some .int) E) {l1 : Nat} (hl1 : l1 < 10) {K7 : (STt × Int32) → Option (STt × Int32)} (hK7 : ∀ {g : STt} {l2 : Int32} (r : STt × Int32), K7 (g, l2) = some r → VJ p l e (rmL (L + 1)) s m args below meth c (QE below E (cellsC E r.1 ++ wx) (some (.int r.2)) args s) E 3 (cellsC E g ++ wx) [(0, .ref (aE E 10 0)), (1, .ref (aE E 19 l1)), (2, .int l2)] [] 7) {g : STt} {l2 : Int32} (r : STt × Int32) (h : fX8_firstOtherwise_l7c K7 l1 g l2 = some r) : VJ p l e (rmL (L + 1)) s m args below meth c (QE below E (cellsC E r.1 ++ wx) (some (.int r.2)) args s) E 3 (cellsC E g ++ wx) [(0, .ref (aE E 10 0)), (1, .ref (aE E 19 l1)), (2, .int l2)] [] 7 := by
  unfold fX8_firstOtherwise_l7c at h
  refine v_iload_n C 2 (dk dcX8_firstOtherwise_0 5 rfl) rfl rfl ?_
  refine v_aload_n C 0 (dk dcX8_firstOtherwise_0 6 rfl) rfl rfl ?_
  refine gt_Trial_present C wd_264 (dk dcX8_firstOtherwise_0 7 rfl) ?_
  refine gt_Moment_acts C (by decide) wd_229 (dk dcX8_firstOtherwise_0 8 rfl) ?_
  obtain ⟨r_2, h_1, h⟩ := bnd1_s h
  refine v_callV1 C (mtX5_size (L - 1) (by omega) (by decide) h_1) wmX5_size wd_797 (by omega) (by decide) rfl _ (ce_Strip (by decide)) rfl rfl (Nat.le_of_ble_eq_true rfl) (dk dcX8_firstOtherwise_0 9 rfl) ?_
  refine v_icmp_ge C 77 (dk dcX8_firstOtherwise_0 10 rfl) (by decide) (fun c_3 => ?_) (fun c_3 => ?_)
  · replace h := if_t c_3 h
    refine v_bipush C (-5) (dk dcX8_firstOtherwise_0 37 rfl) kb_m5 ?_
    cases h
    exact v_iret C rfl (dk dcX8_firstOtherwise_0 38 rfl)
  · replace h := if_f c_3 h
    refine v_iload_n C 2 (dk dcX8_firstOtherwise_0 11 rfl) rfl rfl ?_
    refine v_aload_n C 0 (dk dcX8_firstOtherwise_0 12 rfl) rfl rfl ?_
    refine gt_Trial_present C wd_264 (dk dcX8_firstOtherwise_0 13 rfl) ?_
    refine gt_Moment_seen C (by decide) wd_232 (dk dcX8_firstOtherwise_0 14 rfl) ?_
    obtain ⟨r_5, h_4, h⟩ := bnd1_s h
    refine v_callV1 C (mtX5_size (L - 1) (by omega) (by decide) h_4) wmX5_size wd_797 (by omega) (by decide) rfl _ (ce_Strip (by decide)) rfl rfl (Nat.le_of_ble_eq_true rfl) (dk dcX8_firstOtherwise_0 15 rfl) ?_
    refine v_icmp_ge C 77 (dk dcX8_firstOtherwise_0 16 rfl) (by decide) (fun c_6 => ?_) (fun c_6 => ?_)
    · replace h := if_t c_6 h
      refine v_bipush C (-5) (dk dcX8_firstOtherwise_0 37 rfl) kb_m5 ?_
      cases h
      exact v_iret C rfl (dk dcX8_firstOtherwise_0 38 rfl)
    · replace h := if_f c_6 h
      refine v_aload_n C 0 (dk dcX8_firstOtherwise_0 17 rfl) rfl rfl ?_
      refine gt_Trial_walk C wd_263 (dk dcX8_firstOtherwise_0 18 rfl) ?_
      refine v_aload_n C 1 (dk dcX8_firstOtherwise_0 19 rfl) rfl rfl ?_
      refine v_aload_n C 0 (dk dcX8_firstOtherwise_0 20 rfl) rfl rfl ?_
      refine gt_Trial_present C wd_264 (dk dcX8_firstOtherwise_0 21 rfl) ?_
      refine gt_Moment_acts C (by decide) wd_229 (dk dcX8_firstOtherwise_0 22 rfl) ?_
      refine v_iload_n C 2 (dk dcX8_firstOtherwise_0 23 rfl) rfl rfl ?_
      obtain ⟨r_8, h_7, h⟩ := bnd1_s h
      refine v_callV1 C (mtX5_get (L - 1) (by omega) (by decide) h_7) wmX5_get wd_798 (by omega) (by decide) rfl _ (ce_Strip (by decide)) rfl rfl (Nat.le_of_ble_eq_true rfl) (dk dcX8_firstOtherwise_0 24 rfl) ?_
      refine v_iconst C 0 (dk dcX8_firstOtherwise_0 25 rfl) ki_0 ?_
      obtain ⟨g_10, r_11, h_9, h⟩ := bnd_s h
      refine v_callV1 C (mtX9_step (L - 1) (by omega) hl1 h_9) wmX9_step wd_799 (by omega) (by decide) rfl _ (ce_Walk) rfl rfl (Nat.le_of_ble_eq_true rfl) (dk dcX8_firstOtherwise_0 26 rfl) ?_
      refine v_aload_n C 0 (dk dcX8_firstOtherwise_0 27 rfl) rfl rfl ?_
      refine gt_Trial_present C wd_264 (dk dcX8_firstOtherwise_0 28 rfl) ?_
      refine gt_Moment_seen C (by decide) wd_232 (dk dcX8_firstOtherwise_0 29 rfl) ?_
      refine v_iload_n C 2 (dk dcX8_firstOtherwise_0 30 rfl) rfl rfl ?_
      obtain ⟨r_13, h_12, h⟩ := bnd1_s h
      refine v_callV1 C (mtX5_get (L - 1) (by omega) (by decide) h_12) wmX5_get wd_798 (by omega) (by decide) rfl _ (ce_Strip (by decide)) rfl rfl (Nat.le_of_ble_eq_true rfl) (dk dcX8_firstOtherwise_0 31 rfl) ?_
      refine v_icmp_eq C 71 (dk dcX8_firstOtherwise_0 32 rfl) (by decide) (fun c_14 => ?_) (fun c_14 => ?_)
      · replace h := if_t c_14 h
        refine v_iinc C (lv' := [(2, .int (l2 + 1)), (0, .ref (aE E 10 0)), (1, .ref (aE E 19 l1))]) (l2 + 1) 2 (dk dcX8_firstOtherwise_0 35 rfl) rfl (congrArg (fun z => l2 + z) ki_1) (by decide) rfl ?_
        refine v_goto C 7 (dk dcX8_firstOtherwise_0 36 rfl) (by decide) ?_
        exact vj_sub [1, 2, 0] rfl (hK7 _ h)
      · replace h := if_f c_14 h
        refine v_iload_n C 2 (dk dcX8_firstOtherwise_0 33 rfl) rfl rfl ?_
        cases h
        exact v_iret C rfl (dk dcX8_firstOtherwise_0 34 rfl)
set_option maxRecDepth 20000 in
set_option maxHeartbeats 4000000 in
theorem vX8_firstOtherwise_l7 {L : Nat} (hL : 6 ≤ L) (C : CX p s m args meth c cX8_firstOtherwise 3 RX8 (some .int) E) {l1 : Nat} (hl1 : l1 < 10) {g : STt} {l2 : Int32} (r : STt × Int32) (h : fX8_firstOtherwise_l7 l1 g l2 = some r) : VJ p l e (rmL (L + 1)) s m args below meth c (QE below E (cellsC E r.1 ++ wx) (some (.int r.2)) args s) E 3 (cellsC E g ++ wx) [(0, .ref (aE E 10 0)), (1, .ref (aE E 19 l1)), (2, .int l2)] [] 7 :=
  iterO_ind (F := fun K z => fX8_firstOtherwise_l7c K l1 z.1 z.2) (fun z r => VJ p l e (rmL (L + 1)) s m args below meth c (QE below E (cellsC E r.1 ++ wx) (some (.int r.2)) args s) E 3 (cellsC E z.1 ++ wx) [(0, .ref (aE E 10 0)), (1, .ref (aE E 19 l1)), (2, .int z.2)] [] 7) (fun K hK z r h => vX8_firstOtherwise_l7c hL C hl1 (fun {g} {l2} r h => hK (g, l2) r h) r h) fuelN (g, l2) r h
set_option maxRecDepth 20000 in
set_option maxHeartbeats 4000000 in
theorem mtX8_firstOtherwise {l : Launch} {E : WEt} {wx : va_W} (L : Nat) (hL : 6 ≤ L)  {g : STt} {g' : STt} {rr : Int32} (h : fX8_firstOtherwise g = some (g', rr)) : MT l E yX8_firstOtherwise cX8_firstOtherwise 3 (some .int) (L + 1) [.ref (aE E 10 0)] (cellsC E g ++ wx) (cellsC E g' ++ wx) (some (.int rr)) := by
  refine mt_of (by decide +kernel) (Nat.le_of_ble_eq_true rfl) ?_
  intro p e s m args below meth c C
  replace C : CX p s m args meth c cX8_firstOtherwise 3 RX8 (some .int) E := C
  unfold fX8_firstOtherwise at h
  refine vj_sub (lv' := [(0, .ref (aE E 10 0))]) [0] rfl ?_
  refine v_aload_n C 0 (dk dcX8_firstOtherwise_0 0 rfl) rfl rfl ?_
  obtain ⟨g_2, r_3, h_1, h⟩ := bnd_s h
  refine v_callV1 C (mtX8_begin (L - 1) (by omega) h_1) wmX8_begin wd_777 (by omega) (by decide) rfl _ (ce_Trial) rfl rfl (Nat.le_of_ble_eq_true rfl) (dk dcX8_firstOtherwise_0 1 rfl) ?_
  obtain ⟨b_4, h⟩ := gd_t h
  refine v_astore_n C (lv' := [(1, .ref (aE E 19 r_3)), (0, .ref (aE E 10 0))]) (dk dcX8_firstOtherwise_0 2 rfl) rfl (by decide) rfl ?_
  refine v_iconst C 0 (dk dcX8_firstOtherwise_0 3 rfl) ki_0 ?_
  refine v_istore_n C (lv' := [(2, .int 0), (1, .ref (aE E 19 r_3)), (0, .ref (aE E 10 0))]) (dk dcX8_firstOtherwise_0 4 rfl) rfl (by decide) rfl ?_
  exact vj_sub [2, 1, 0] rfl (vX8_firstOtherwise_l7 hL C b_4 _ h)
set_option maxRecDepth 20000 in
set_option maxHeartbeats 4000000 in
theorem mtX10_off {l : Launch} {E : WEt} {wx : va_W} (L : Nat) (hL : 7 ≤ L)  {g : STt} {g' : STt} {rr : Int32} (h : fX10_off g = some (g', rr)) : MT l E yX10_off cX10_off 1 (some .int) (L + 1) [.ref (aE E 0 0)] (cellsC E g ++ wx) (cellsC E g' ++ wx) (some (.int rr)) := by
  refine mt_of (by decide +kernel) (Nat.le_of_ble_eq_true rfl) ?_
  intro p e s m args below meth c C
  replace C : CX p s m args meth c cX10_off 1 RX10 (some .int) E := C
  unfold fX10_off at h
  refine vj_sub (lv' := [(0, .ref (aE E 0 0))]) [0] rfl ?_
  refine v_aload_n C 0 (dk dcX10_off_0 0 rfl) rfl rfl ?_
  refine gt_DB_trial C wd_342 (dk dcX10_off_0 1 rfl) ?_
  obtain ⟨g_2, r_3, h_1, h⟩ := bnd_s h
  refine v_callV1 C (mtX8_firstOtherwise (L - 1) (by omega) h_1) wmX8_firstOtherwise wd_944 (by omega) (by decide) rfl _ (ce_Trial) rfl rfl (Nat.le_of_ble_eq_true rfl) (dk dcX10_off_0 2 rfl) ?_
  cases h
  exact v_iret C rfl (dk dcX10_off_0 3 rfl)
set_option maxRecDepth 20000 in
set_option maxHeartbeats 4000000 in
theorem mtX10_of {l : Launch} {E : WEt} {wx : va_W} (L : Nat) (hL : 3 ≤ L)  {g : STt} {x1 : Int32} {x2 : Int32} {rr : Int32} (h : fX10_of g x1 x2 = some rr) : MT l E yX10_of cX10_of 3 (some .int) (L + 1) [.ref (aE E 0 0), .int x1, .int x2] (cellsC E g ++ wx) (cellsC E g ++ wx) (some (.int rr)) := by
  refine mt_of (by decide +kernel) (Nat.le_of_ble_eq_true rfl) ?_
  intro p e s m args below meth c C
  replace C : CX p s m args meth c cX10_of 3 RX10 (some .int) E := C
  unfold fX10_of at h
  refine vj_sub (lv' := [(0, .ref (aE E 0 0)), (1, .int x1), (2, .int x2)]) [0, 1, 2] rfl ?_
  refine v_aload_n C 0 (dk dcX10_of_0 0 rfl) rfl rfl ?_
  refine gt_DB_road C wd_336 (dk dcX10_of_0 1 rfl) ?_
  refine v_iload_n C 1 (dk dcX10_of_0 2 rfl) rfl rfl ?_
  obtain ⟨r_2, h_1, h⟩ := bnd1_s h
  refine v_callV1 C (mtX4_has (L - 1) (by omega) h_1) wmX4_has wd_389 (by omega) (by decide) rfl _ (ce_Road) rfl rfl (Nat.le_of_ble_eq_true rfl) (dk dcX10_of_0 3 rfl) ?_
  refine v_if_ne C 13 (dk dcX10_of_0 4 rfl) (by decide) (fun c_3 => ?_) (fun c_3 => ?_)
  · replace h := if_f c_3 h
    refine v_iload_n C 2 (dk dcX10_of_0 7 rfl) rfl rfl ?_
    by_cases c_4 : x2 = 0
    · replace h := if_t c_4 h
      refine v_tableIn C 40 (dk dcX10_of_0 8 rfl) (by rw [c_4]; decide) (by rw [c_4]; decide) (by rw [c_4]; rfl) (by decide) ?_
      refine v_aload_n C 0 (dk dcX10_of_0 9 rfl) rfl rfl ?_
      refine gt_DB_road C wd_336 (dk dcX10_of_0 10 rfl) ?_
      refine v_iload_n C 1 (dk dcX10_of_0 11 rfl) rfl rfl ?_
      obtain ⟨r_6, h_5, h⟩ := bnd1_s h
      refine v_callV1 C (mtX4_kindOf (L - 1) (by omega) h_5) wmX4_kindOf wd_393 (by omega) (by decide) rfl _ (ce_Road) rfl rfl (Nat.le_of_ble_eq_true rfl) (dk dcX10_of_0 12 rfl) ?_
      cases h
      exact v_iret C rfl (dk dcX10_of_0 13 rfl)
    · replace h := if_f c_4 h
      by_cases c_5 : x2 = 1
      · replace h := if_t c_5 h
        refine v_tableIn C 49 (dk dcX10_of_0 8 rfl) (by rw [c_5]; decide) (by rw [c_5]; decide) (by rw [c_5]; rfl) (by decide) ?_
        refine v_aload_n C 0 (dk dcX10_of_0 14 rfl) rfl rfl ?_
        refine gt_DB_road C wd_336 (dk dcX10_of_0 15 rfl) ?_
        refine v_iload_n C 1 (dk dcX10_of_0 16 rfl) rfl rfl ?_
        obtain ⟨r_7, h_6, h⟩ := bnd1_s h
        refine v_callV1 C (mtX4_numberOf (L - 1) (by omega) h_6) wmX4_numberOf wd_397 (by omega) (by decide) rfl _ (ce_Road) rfl rfl (Nat.le_of_ble_eq_true rfl) (dk dcX10_of_0 17 rfl) ?_
        cases h
        exact v_iret C rfl (dk dcX10_of_0 18 rfl)
      · replace h := if_f c_5 h
        by_cases c_6 : x2 = 2
        · replace h := if_t c_6 h
          refine v_tableIn C 58 (dk dcX10_of_0 8 rfl) (by rw [c_6]; decide) (by rw [c_6]; decide) (by rw [c_6]; rfl) (by decide) ?_
          refine v_aload_n C 0 (dk dcX10_of_0 19 rfl) rfl rfl ?_
          refine gt_DB_road C wd_336 (dk dcX10_of_0 20 rfl) ?_
          refine v_iload_n C 1 (dk dcX10_of_0 21 rfl) rfl rfl ?_
          obtain ⟨r_8, h_7, h⟩ := bnd1_s h
          refine v_callV1 C (mtX4_thingOf (L - 1) (by omega) h_7) wmX4_thingOf wd_401 (by omega) (by decide) rfl _ (ce_Road) rfl rfl (Nat.le_of_ble_eq_true rfl) (dk dcX10_of_0 22 rfl) ?_
          cases h
          exact v_iret C rfl (dk dcX10_of_0 23 rfl)
        · replace h := if_f c_6 h
          have ec_4 := i32_ne (k := 0) c_4 (by decide)
          have ec_5 := i32_ne (k := 1) c_5 (by decide)
          have ec_6 := i32_ne (k := 2) c_6 (by decide)
          refine v_tableOut C 67 (dk dcX10_of_0 8 rfl) (by omega) (by decide) ?_
          refine v_iconst C (-1) (dk dcX10_of_0 24 rfl) ki_m1 ?_
          cases h
          exact v_iret C rfl (dk dcX10_of_0 25 rfl)
  · replace h := if_t c_3 h
    refine v_iconst C (-1) (dk dcX10_of_0 5 rfl) ki_m1 ?_
    cases h
    exact v_iret C rfl (dk dcX10_of_0 6 rfl)
set_option maxRecDepth 20000 in
set_option maxHeartbeats 4000000 in
theorem vX1_learnt_l4c {L : Nat} (hL : 2 ≤ L) (C : CX p s m args meth c cX1_learnt 3 RX1 (some .int) E) {g : STt} {l0 : Nat} (hl0 : l0 < 10) {K4 : (Int32 × Int32) → Option Int32} (hK4 : ∀ {l1 : Int32} {l2 : Int32} (r : Int32), K4 (l1, l2) = some r → VJ p l e (rmL (L + 1)) s m args below meth c (QE below E (cellsC E g ++ wx) (some (.int r)) args s) E 3 (cellsC E g ++ wx) [(0, .ref (aE E 19 l0)), (1, .int l1), (2, .int l2)] [] 4) {l1 : Int32} {l2 : Int32} (r : Int32) (h : fX1_learnt_l4c K4 g l0 l1 l2 = some r) : VJ p l e (rmL (L + 1)) s m args below meth c (QE below E (cellsC E g ++ wx) (some (.int r)) args s) E 3 (cellsC E g ++ wx) [(0, .ref (aE E 19 l0)), (1, .int l1), (2, .int l2)] [] 4 := by
  unfold fX1_learnt_l4c at h
  refine v_iload_n C 2 (dk dcX1_learnt_0 4 rfl) rfl rfl ?_
  refine v_bipush C 6 (dk dcX1_learnt_0 5 rfl) kb_6 ?_
  refine v_icmp_gt C 34 (dk dcX1_learnt_0 6 rfl) (by decide) (fun c_1 => ?_) (fun c_1 => ?_)
  · replace h := if_t c_1 h
    refine v_iload_n C 1 (dk dcX1_learnt_0 21 rfl) rfl rfl ?_
    cases h
    exact v_iret C rfl (dk dcX1_learnt_0 22 rfl)
  · replace h := if_f c_1 h
    refine v_iload_n C 2 (dk dcX1_learnt_0 7 rfl) rfl rfl ?_
    refine v_aload_n C 0 (dk dcX1_learnt_0 8 rfl) rfl rfl ?_
    refine gt_Donkey_numbers C hl0 wd_219 (dk dcX1_learnt_0 9 rfl) ?_
    refine al_donkNums C hl0 (dk dcX1_learnt_0 10 rfl) ?_
    refine v_icmp_ge C 34 (dk dcX1_learnt_0 11 rfl) (by decide) (fun c_2 => ?_) (fun c_2 => ?_)
    · replace h := if_t c_2 h
      refine v_iload_n C 1 (dk dcX1_learnt_0 21 rfl) rfl rfl ?_
      cases h
      exact v_iret C rfl (dk dcX1_learnt_0 22 rfl)
    · replace h := if_f c_2 h
      refine v_iload_n C 1 (dk dcX1_learnt_0 12 rfl) rfl rfl ?_
      refine v_aload_n C 0 (dk dcX1_learnt_0 13 rfl) rfl rfl ?_
      refine gt_Donkey_numbers C hl0 wd_219 (dk dcX1_learnt_0 14 rfl) ?_
      refine v_iload_n C 2 (dk dcX1_learnt_0 15 rfl) rfl rfl ?_
      obtain ⟨b_3, h⟩ := gd_t h
      refine ld_donkNums C hl0 b_3 (dk dcX1_learnt_0 16 rfl) ?_
      refine v_iadd C (dk dcX1_learnt_0 17 rfl) ?_
      refine v_istore_n C (lv' := [(1, .int (l1 + (g.2.1 22 l0 l2.toNatClampNeg))), (0, .ref (aE E 19 l0)), (2, .int l2)]) (dk dcX1_learnt_0 18 rfl) rfl (by decide) rfl ?_
      refine v_iinc C (lv' := [(2, .int (l2 + 1)), (1, .int (l1 + (g.2.1 22 l0 l2.toNatClampNeg))), (0, .ref (aE E 19 l0))]) (l2 + 1) 2 (dk dcX1_learnt_0 19 rfl) rfl (congrArg (fun z => l2 + z) ki_1) (by decide) rfl ?_
      refine v_goto C 4 (dk dcX1_learnt_0 20 rfl) (by decide) ?_
      exact vj_sub [2, 1, 0] rfl (hK4 _ h)
set_option maxRecDepth 20000 in
set_option maxHeartbeats 4000000 in
theorem vX1_learnt_l4 {L : Nat} (hL : 2 ≤ L) (C : CX p s m args meth c cX1_learnt 3 RX1 (some .int) E) {g : STt} {l0 : Nat} (hl0 : l0 < 10) {l1 : Int32} {l2 : Int32} (r : Int32) (h : fX1_learnt_l4 g l0 l1 l2 = some r) : VJ p l e (rmL (L + 1)) s m args below meth c (QE below E (cellsC E g ++ wx) (some (.int r)) args s) E 3 (cellsC E g ++ wx) [(0, .ref (aE E 19 l0)), (1, .int l1), (2, .int l2)] [] 4 :=
  iterO_ind (F := fun K z => fX1_learnt_l4c K g l0 z.1 z.2) (fun z r => VJ p l e (rmL (L + 1)) s m args below meth c (QE below E (cellsC E g ++ wx) (some (.int r)) args s) E 3 (cellsC E g ++ wx) [(0, .ref (aE E 19 l0)), (1, .int z.1), (2, .int z.2)] [] 4) (fun K hK z r h => vX1_learnt_l4c hL C hl0 (fun {l1} {l2} r h => hK (l1, l2) r h) r h) fuelN (l1, l2) r h
set_option maxRecDepth 20000 in
set_option maxHeartbeats 4000000 in
theorem mtX1_learnt {l : Launch} {E : WEt} {wx : va_W} (L : Nat) (hL : 2 ≤ L)  {g : STt} {d0 : Nat} (hd0 : d0 < 10) {rr : Int32} (h : fX1_learnt g d0 = some rr) : MT l E yX1_learnt cX1_learnt 3 (some .int) (L + 1) [.ref (aE E 19 d0)] (cellsC E g ++ wx) (cellsC E g ++ wx) (some (.int rr)) := by
  refine mt_of (by decide +kernel) (Nat.le_of_ble_eq_true rfl) ?_
  intro p e s m args below meth c C
  replace C : CX p s m args meth c cX1_learnt 3 RX1 (some .int) E := C
  unfold fX1_learnt at h
  refine vj_sub (lv' := [(0, .ref (aE E 19 d0))]) [0] rfl ?_
  refine v_iconst C 0 (dk dcX1_learnt_0 0 rfl) ki_0 ?_
  refine v_istore_n C (lv' := [(1, .int 0), (0, .ref (aE E 19 d0))]) (dk dcX1_learnt_0 1 rfl) rfl (by decide) rfl ?_
  refine v_iconst C 0 (dk dcX1_learnt_0 2 rfl) ki_0 ?_
  refine v_istore_n C (lv' := [(2, .int 0), (1, .int 0), (0, .ref (aE E 19 d0))]) (dk dcX1_learnt_0 3 rfl) rfl (by decide) rfl ?_
  exact vj_sub [2, 1, 0] rfl (vX1_learnt_l4 hL C hd0 _ h)
set_option maxRecDepth 20000 in
set_option maxHeartbeats 4000000 in
theorem mtX1_tell {l : Launch} {E : WEt} {wx : va_W} (L : Nat) (hL : 3 ≤ L)  {g : STt} {d0 : Nat} (hd0 : d0 < 10) {x1 : Int32} {rr : Int32} (h : fX1_tell g d0 x1 = some rr) : MT l E yX1_tell cX1_tell 2 (some .int) (L + 1) [.ref (aE E 19 d0), .int x1] (cellsC E g ++ wx) (cellsC E g ++ wx) (some (.int rr)) := by
  refine mt_of (by decide +kernel) (Nat.le_of_ble_eq_true rfl) ?_
  intro p e s m args below meth c C
  replace C : CX p s m args meth c cX1_tell 2 RX1 (some .int) E := C
  unfold fX1_tell at h
  refine vj_sub (lv' := [(0, .ref (aE E 19 d0)), (1, .int x1)]) [0, 1] rfl ?_
  refine v_iload_n C 1 (dk dcX1_tell_0 0 rfl) rfl rfl ?_
  refine v_bipush C 15 (dk dcX1_tell_0 1 rfl) kb_15 ?_
  refine v_icmp_ne C 13 (dk dcX1_tell_0 2 rfl) (by decide) (fun c_1 => ?_) (fun c_1 => ?_)
  · replace h := if_f c_1 h
    refine v_aload_n C 0 (dk dcX1_tell_0 6 rfl) rfl rfl ?_
    refine v_iload_n C 1 (dk dcX1_tell_0 7 rfl) rfl rfl ?_
    obtain ⟨r_3, h_2, h⟩ := bnd1_s h
    refine v_callV1 C (mtX1_get (L - 1) (by omega) hd0 h_2) wmX1_get wd_432 (by omega) (by decide) rfl _ (ce_Donkey hd0) rfl rfl (Nat.le_of_ble_eq_true rfl) (dk dcX1_tell_0 8 rfl) ?_
    cases h
    exact v_iret C rfl (dk dcX1_tell_0 9 rfl)
  · replace h := if_t c_1 h
    refine v_aload_n C 0 (dk dcX1_tell_0 3 rfl) rfl rfl ?_
    obtain ⟨r_3, h_2, h⟩ := bnd1_s h
    refine v_callV1 C (mtX1_learnt (L - 1) (by omega) hd0 h_2) wmX1_learnt wd_428 (by omega) (by decide) rfl _ (ce_Donkey hd0) rfl rfl (Nat.le_of_ble_eq_true rfl) (dk dcX1_tell_0 4 rfl) ?_
    refine v_goto C 18 (dk dcX1_tell_0 5 rfl) (by decide) ?_
    cases h
    exact v_iret C rfl (dk dcX1_tell_0 9 rfl)
set_option maxRecDepth 20000 in
set_option maxHeartbeats 4000000 in
theorem vX10_now_j10 {L : Nat} (hL : 4 ≤ L) (C : CX p s m args meth c cX10_now 2 RX10 (some .int) E) {g : STt} (r : Int32) (h : fX10_now_j10 g = some r) : VJ p l e (rmL (L + 1)) s m args below meth c (QE below E (cellsC E g ++ wx) (some (.int r)) args s) E 2 (cellsC E g ++ wx) [] [] 10 := by
  unfold fX10_now_j10 at h
  refine v_iconst C (-1) (dk dcX10_now_0 5 rfl) ki_m1 ?_
  refine v_goto C 25 (dk dcX10_now_0 6 rfl) (by decide) ?_
  cases h
  exact v_iret C rfl (dk dcX10_now_0 12 rfl)
set_option maxRecDepth 20000 in
set_option maxHeartbeats 4000000 in
theorem mtX10_now {l : Launch} {E : WEt} {wx : va_W} (L : Nat) (hL : 4 ≤ L)  {g : STt} {x1 : Int32} {rr : Int32} (h : fX10_now g x1 = some rr) : MT l E yX10_now cX10_now 2 (some .int) (L + 1) [.ref (aE E 0 0), .int x1] (cellsC E g ++ wx) (cellsC E g ++ wx) (some (.int rr)) := by
  refine mt_of (by decide +kernel) (Nat.le_of_ble_eq_true rfl) ?_
  intro p e s m args below meth c C
  replace C : CX p s m args meth c cX10_now 2 RX10 (some .int) E := C
  unfold fX10_now at h
  refine vj_sub (lv' := [(0, .ref (aE E 0 0)), (1, .int x1)]) [0, 1] rfl ?_
  refine v_iload_n C 1 (dk dcX10_now_0 0 rfl) rfl rfl ?_
  refine v_if_lt C 10 (dk dcX10_now_0 1 rfl) (by decide) (fun c_1 => ?_) (fun c_1 => ?_)
  · replace h := if_t c_1 h
    exact vj_sub [] rfl (vX10_now_j10 hL C _ h)
  · replace h := if_f c_1 h
    refine v_iload_n C 1 (dk dcX10_now_0 2 rfl) rfl rfl ?_
    refine v_bipush C 15 (dk dcX10_now_0 3 rfl) kb_15 ?_
    refine v_icmp_le C 14 (dk dcX10_now_0 4 rfl) (by decide) (fun c_2 => ?_) (fun c_2 => ?_)
    · replace h := if_t c_2 h
      refine v_aload_n C 0 (dk dcX10_now_0 7 rfl) rfl rfl ?_
      refine gt_DB_present C wd_345 (dk dcX10_now_0 8 rfl) ?_
      refine gt_Moment_donkey C (by decide) wd_227 (dk dcX10_now_0 9 rfl) ?_
      refine v_iload_n C 1 (dk dcX10_now_0 10 rfl) rfl rfl ?_
      obtain ⟨r_4, h_3, h⟩ := bnd1_s h
      refine v_callV1 C (mtX1_tell (L - 1) (by omega) (by decide) h_3) wmX1_tell wd_424 (by omega) (by decide) rfl _ (ce_Donkey (by decide)) rfl rfl (Nat.le_of_ble_eq_true rfl) (dk dcX10_now_0 11 rfl) ?_
      cases h
      exact v_iret C rfl (dk dcX10_now_0 12 rfl)
    · replace h := if_f c_2 h
      exact vj_sub [] rfl (vX10_now_j10 hL C _ h)
set_option maxRecDepth 20000 in
set_option maxHeartbeats 4000000 in
theorem mtX7_clear {l : Launch} {E : WEt} {wx : va_W} (L : Nat) (hL : 3 ≤ L)  {g : STt} {g' : STt} (h : fX7_clear g = some g') : MT l E yX7_clear cX7_clear 1 none (L + 1) [.ref (aE E 5 0)] (cellsC E g ++ wx) (cellsC E g' ++ wx) none := by
  refine mt_of (by decide +kernel) (Nat.le_of_ble_eq_true rfl) ?_
  intro p e s m args below meth c C
  replace C : CX p s m args meth c cX7_clear 1 RX7 none E := C
  unfold fX7_clear at h
  refine vj_sub (lv' := [(0, .ref (aE E 5 0))]) [0] rfl ?_
  refine v_aload_n C 0 (dk dcX7_clear_0 0 rfl) rfl rfl ?_
  refine gt_Text_signs C wd_147 (dk dcX7_clear_0 1 rfl) ?_
  obtain ⟨g_2, h_1, h⟩ := bnd1_s h
  refine v_callV0 C (mtX5_clear (L - 1) (by omega) (by decide) h_1) wmX5_clear wd_638 (by omega) (by decide) rfl _ (ce_Strip (by decide)) rfl rfl (Nat.le_of_ble_eq_true rfl) (dk dcX7_clear_0 2 rfl) ?_
  cases h
  exact v_vret C rfl (dk dcX7_clear_0 3 rfl)
set_option maxRecDepth 20000 in
set_option maxHeartbeats 4000000 in
theorem mtX2_clear {l : Launch} {E : WEt} {wx : va_W} (L : Nat) (hL : 2 ≤ L)  {g : STt} {d0 : Nat} (hd0 : d0 < 7) {g' : STt} (h : fX2_clear g d0 = some g') : MT l E yX2_clear cX2_clear 1 none (L + 1) [.ref (aE E 21 d0)] (cellsC E g ++ wx) (cellsC E g' ++ wx) none := by
  refine mt_of (by decide +kernel) (Nat.le_of_ble_eq_true rfl) ?_
  intro p e s m args below meth c C
  replace C : CX p s m args meth c cX2_clear 1 RX2 none E := C
  unfold fX2_clear at h
  refine vj_sub (lv' := [(0, .ref (aE E 21 d0))]) [0] rfl ?_
  refine v_aload_n C 0 (dk dcX2_clear_0 0 rfl) rfl rfl ?_
  refine v_iconst C 0 (dk dcX2_clear_0 1 rfl) ki_0 ?_
  refine pt_Law_clauses C hd0 wd_164 (dk dcX2_clear_0 2 rfl) ?_
  refine v_aload_n C 0 (dk dcX2_clear_0 3 rfl) rfl rfl ?_
  refine v_iconst C 0 (dk dcX2_clear_0 4 rfl) ki_0 ?_
  refine pt_Law_codeCount C hd0 wd_166 (dk dcX2_clear_0 5 rfl) ?_
  cases h
  exact v_vret C rfl (dk dcX2_clear_0 6 rfl)
set_option maxRecDepth 20000 in
set_option maxHeartbeats 4000000 in
theorem mtX7_next {l : Launch} {E : WEt} {wx : va_W} (L : Nat) (hL : 3 ≤ L)  {g : STt} {x1 : Int32} {g' : STt} {rr : Int32} (h : fX7_next g x1 = some (g', rr)) : MT l E yX7_next cX7_next 2 (some .boolean) (L + 1) [.ref (aE E 5 0), .int x1] (cellsC E g ++ wx) (cellsC E g' ++ wx) (some (.int rr)) := by
  refine mt_of (by decide +kernel) (Nat.le_of_ble_eq_true rfl) ?_
  intro p e s m args below meth c C
  replace C : CX p s m args meth c cX7_next 2 RX7 (some .boolean) E := C
  unfold fX7_next at h
  refine vj_sub (lv' := [(0, .ref (aE E 5 0)), (1, .int x1)]) [0, 1] rfl ?_
  refine v_aload_n C 0 (dk dcX7_next_0 0 rfl) rfl rfl ?_
  refine gt_Text_signs C wd_147 (dk dcX7_next_0 1 rfl) ?_
  refine v_aload_n C 0 (dk dcX7_next_0 2 rfl) rfl rfl ?_
  refine gt_Text_pos C wd_148 (dk dcX7_next_0 3 rfl) ?_
  obtain ⟨r_2, h_1, h⟩ := bnd1_s h
  refine v_callV1 C (mtX5_get (L - 1) (by omega) (by decide) h_1) wmX5_get wd_493 (by omega) (by decide) rfl _ (ce_Strip (by decide)) rfl rfl (Nat.le_of_ble_eq_true rfl) (dk dcX7_next_0 4 rfl) ?_
  refine v_iload_n C 1 (dk dcX7_next_0 5 rfl) rfl rfl ?_
  refine v_icmp_eq C 17 (dk dcX7_next_0 6 rfl) (by decide) (fun c_3 => ?_) (fun c_3 => ?_)
  · replace h := if_t c_3 h
    refine v_aload_n C 0 (dk dcX7_next_0 9 rfl) rfl rfl ?_
    refine v_dup C rfl (dk dcX7_next_0 10 rfl) ?_
    refine gt_Text_pos C wd_148 (dk dcX7_next_0 11 rfl) ?_
    refine v_iconst C 1 (dk dcX7_next_0 12 rfl) ki_1 ?_
    refine v_iadd C (dk dcX7_next_0 13 rfl) ?_
    refine pt_Text_pos C wd_148 (dk dcX7_next_0 14 rfl) ?_
    refine v_iconst C 1 (dk dcX7_next_0 15 rfl) ki_1 ?_
    cases h
    exact v_zret C (x := 1) rfl rfl (dk dcX7_next_0 16 rfl)
  · replace h := if_f c_3 h
    refine v_iconst C 0 (dk dcX7_next_0 7 rfl) ki_0 ?_
    cases h
    exact v_zret C (x := 0) rfl rfl (dk dcX7_next_0 8 rfl)
set_option maxRecDepth 20000 in
set_option maxHeartbeats 4000000 in
theorem mtX2_addCode {l : Launch} {E : WEt} {wx : va_W} (L : Nat) (hL : 2 ≤ L)  {g : STt} {d0 : Nat} (hd0 : d0 < 7) {x1 : Int32} {g' : STt} (h : fX2_addCode g d0 x1 = some g') : MT l E yX2_addCode cX2_addCode 2 none (L + 1) [.ref (aE E 21 d0), .int x1] (cellsC E g ++ wx) (cellsC E g' ++ wx) none := by
  refine mt_of (by decide +kernel) (Nat.le_of_ble_eq_true rfl) ?_
  intro p e s m args below meth c C
  replace C : CX p s m args meth c cX2_addCode 2 RX2 none E := C
  unfold fX2_addCode at h
  refine vj_sub (lv' := [(0, .ref (aE E 21 d0)), (1, .int x1)]) [0, 1] rfl ?_
  refine v_aload_n C 0 (dk dcX2_addCode_0 0 rfl) rfl rfl ?_
  refine gt_Law_codeCount C hd0 wd_166 (dk dcX2_addCode_0 1 rfl) ?_
  refine v_if_lt C 36 (dk dcX2_addCode_0 2 rfl) (by decide) (fun c_1 => ?_) (fun c_1 => ?_)
  · replace h := if_t c_1 h
    cases h
    exact v_vret C rfl (dk dcX2_addCode_0 19 rfl)
  · replace h := if_f c_1 h
    refine v_aload_n C 0 (dk dcX2_addCode_0 3 rfl) rfl rfl ?_
    refine gt_Law_codeCount C hd0 wd_166 (dk dcX2_addCode_0 4 rfl) ?_
    refine v_bipush C 100 (dk dcX2_addCode_0 5 rfl) kb_100 ?_
    refine v_icmp_ge C 36 (dk dcX2_addCode_0 6 rfl) (by decide) (fun c_2 => ?_) (fun c_2 => ?_)
    · replace h := if_t c_2 h
      cases h
      exact v_vret C rfl (dk dcX2_addCode_0 19 rfl)
    · replace h := if_f c_2 h
      refine v_aload_n C 0 (dk dcX2_addCode_0 7 rfl) rfl rfl ?_
      refine gt_Law_codes C hd0 wd_165 (dk dcX2_addCode_0 8 rfl) ?_
      refine v_aload_n C 0 (dk dcX2_addCode_0 9 rfl) rfl rfl ?_
      refine gt_Law_codeCount C hd0 wd_166 (dk dcX2_addCode_0 10 rfl) ?_
      refine v_iload_n C 1 (dk dcX2_addCode_0 11 rfl) rfl rfl ?_
      obtain ⟨b_3, h⟩ := gd_t h
      refine st_lawCodes C hd0 b_3 (dk dcX2_addCode_0 12 rfl) ?_
      refine v_aload_n C 0 (dk dcX2_addCode_0 13 rfl) rfl rfl ?_
      refine v_dup C rfl (dk dcX2_addCode_0 14 rfl) ?_
      refine gt_Law_codeCount C hd0 wd_166 (dk dcX2_addCode_0 15 rfl) ?_
      refine v_iconst C 1 (dk dcX2_addCode_0 16 rfl) ki_1 ?_
      refine v_iadd C (dk dcX2_addCode_0 17 rfl) ?_
      refine pt_Law_codeCount C hd0 wd_166 (dk dcX2_addCode_0 18 rfl) ?_
      cases h
      exact v_vret C rfl (dk dcX2_addCode_0 19 rfl)
set_option maxRecDepth 20000 in
set_option maxHeartbeats 4000000 in
theorem mtX2_codeOf {l : Launch} {E : WEt} {wx : va_W} (L : Nat) (hL : 2 ≤ L)  {g : STt} {x0 : Int32} {x1 : Int32} {x2 : Int32} {rr : Int32} (h : fX2_codeOf g x0 x1 x2 = some rr) : MT l E yX2_codeOf cX2_codeOf 3 (some .int) (L + 1) [.int x0, .int x1, .int x2] (cellsC E g ++ wx) (cellsC E g ++ wx) (some (.int rr)) := by
  refine mt_of (by decide +kernel) (Nat.le_of_ble_eq_true rfl) ?_
  intro p e s m args below meth c C
  replace C : CX p s m args meth c cX2_codeOf 3 RX2 (some .int) E := C
  unfold fX2_codeOf at h
  refine vj_sub (lv' := [(0, .int x0), (1, .int x1), (2, .int x2)]) [0, 1, 2] rfl ?_
  refine v_iload_n C 0 (dk dcX2_codeOf_0 0 rfl) rfl rfl ?_
  refine v_sipush C 1000 (dk dcX2_codeOf_0 1 rfl) ks_1000 ?_
  refine v_imul C (dk dcX2_codeOf_0 2 rfl) ?_
  refine v_iload_n C 1 (dk dcX2_codeOf_0 3 rfl) rfl rfl ?_
  refine v_bipush C 100 (dk dcX2_codeOf_0 4 rfl) kb_100 ?_
  refine v_imul C (dk dcX2_codeOf_0 5 rfl) ?_
  refine v_iadd C (dk dcX2_codeOf_0 6 rfl) ?_
  refine v_iload_n C 2 (dk dcX2_codeOf_0 7 rfl) rfl rfl ?_
  refine v_iadd C (dk dcX2_codeOf_0 8 rfl) ?_
  cases h
  exact v_iret C rfl (dk dcX2_codeOf_0 9 rfl)
set_option maxRecDepth 20000 in
set_option maxHeartbeats 4000000 in
theorem mtJ0_isLatin1_aae02 {l : Launch} {E : WEt} {wx : va_W} (L : Nat) (hL : 2 ≤ L)  {g : STt} {d0 : Nat} (hd0 : d0 < 9) {rr : Int32} (h : fJ0_isLatin1_aae02 g d0 = some rr) : MT l E yJ0_isLatin1_aae02 cJ0_isLatin1_aae02 1 (some .boolean) (L + 1) [.ref (E.2.2.2.2 (10 + d0))] (cellsC E g ++ wx) (cellsC E g ++ wx) (some (.int rr)) := by
  refine mt_of (by decide +kernel) (Nat.le_of_ble_eq_true rfl) ?_
  intro p e s m args below meth c C
  replace C : CX p s m args meth c cJ0_isLatin1_aae02 1 RJ0 (some .boolean) E := C
  unfold fJ0_isLatin1_aae02 at h
  refine vj_sub (lv' := [(0, .ref (E.2.2.2.2 (10 + d0)))]) [0] rfl ?_
  refine v_gets C C.2.2.2.2.2.2.1.2.2.2.1.1 wd_491 rfl (dk dcJ0_isLatin1_aae02_0 0 rfl) ?_
  refine v_if_eq C 17 (dk dcJ0_isLatin1_aae02_0 1 rfl) (by decide) (fun c_1 => ?_) (fun c_1 => ?_)
  · replace h := if_t c_1 h
    refine v_iconst C 0 (dk dcJ0_isLatin1_aae02_0 7 rfl) ki_0 ?_
    cases h
    exact v_zret C (x := 0) rfl rfl (dk dcJ0_isLatin1_aae02_0 8 rfl)
  · replace h := if_f c_1 h
    refine v_aload_n C 0 (dk dcJ0_isLatin1_aae02_0 2 rfl) rfl rfl ?_
    refine v_strcod C hd0 wd_1617 (dk dcJ0_isLatin1_aae02_0 3 rfl) ?_
    refine v_if_ne C 17 (dk dcJ0_isLatin1_aae02_0 4 rfl) (by decide) (fun c_2 => ?_) (fun c_2 => ?_)
    · replace h := if_f c_2 h
      refine v_iconst C 0 (dk dcJ0_isLatin1_aae02_0 7 rfl) ki_0 ?_
      cases h
      exact v_zret C (x := 0) rfl rfl (dk dcJ0_isLatin1_aae02_0 8 rfl)
    · replace h := if_t c_2 h
      refine v_iconst C 1 (dk dcJ0_isLatin1_aae02_0 5 rfl) ki_1 ?_
      refine v_goto C 18 (dk dcJ0_isLatin1_aae02_0 6 rfl) (by decide) ?_
      cases h
      exact v_zret C (x := 1) rfl rfl (dk dcJ0_isLatin1_aae02_0 8 rfl)
set_option maxRecDepth 20000 in
set_option maxHeartbeats 4000000 in
theorem mtJ0_coder_7d493 {l : Launch} {E : WEt} {wx : va_W} (L : Nat) (hL : 2 ≤ L)  {g : STt} {d0 : Nat} (hd0 : d0 < 9) {rr : Int32} (h : fJ0_coder_7d493 g d0 = some rr) : MT l E yJ0_coder_7d493 cJ0_coder_7d493 1 (some .byte) (L + 1) [.ref (E.2.2.2.2 (10 + d0))] (cellsC E g ++ wx) (cellsC E g ++ wx) (some (.int rr)) := by
  refine mt_of (by decide +kernel) (Nat.le_of_ble_eq_true rfl) ?_
  intro p e s m args below meth c C
  replace C : CX p s m args meth c cJ0_coder_7d493 1 RJ0 (some .byte) E := C
  unfold fJ0_coder_7d493 at h
  refine vj_sub (lv' := [(0, .ref (E.2.2.2.2 (10 + d0)))]) [0] rfl ?_
  refine v_gets C C.2.2.2.2.2.2.1.2.2.2.1.1 wd_491 rfl (dk dcJ0_coder_7d493_0 0 rfl) ?_
  refine v_if_eq C 13 (dk dcJ0_coder_7d493_0 1 rfl) (by decide) (fun c_1 => ?_) (fun c_1 => ?_)
  · replace h := if_t c_1 h
    refine v_iconst C 1 (dk dcJ0_coder_7d493_0 5 rfl) ki_1 ?_
    cases h
    exact v_zret C (x := 1) rfl rfl (dk dcJ0_coder_7d493_0 6 rfl)
  · replace h := if_f c_1 h
    refine v_aload_n C 0 (dk dcJ0_coder_7d493_0 2 rfl) rfl rfl ?_
    refine v_strcod C hd0 wd_1617 (dk dcJ0_coder_7d493_0 3 rfl) ?_
    refine v_goto C 14 (dk dcJ0_coder_7d493_0 4 rfl) (by decide) ?_
    cases h
    exact v_zret C (x := 0) rfl rfl (dk dcJ0_coder_7d493_0 6 rfl)
set_option maxRecDepth 20000 in
set_option maxHeartbeats 4000000 in
theorem mtJ0_length_8abf5 {l : Launch} {E : WEt} {wx : va_W} (L : Nat) (hL : 3 ≤ L)  {g : STt} {d0 : Nat} (hd0 : d0 < 9) {rr : Int32} (h : fJ0_length_8abf5 g d0 = some rr) : MT l E yJ0_length_8abf5 cJ0_length_8abf5 1 (some .int) (L + 1) [.ref (E.2.2.2.2 (10 + d0))] (cellsC E g ++ wx) (cellsC E g ++ wx) (some (.int rr)) := by
  refine mt_of (by decide +kernel) (Nat.le_of_ble_eq_true rfl) ?_
  intro p e s m args below meth c C
  replace C : CX p s m args meth c cJ0_length_8abf5 1 RJ0 (some .int) E := C
  unfold fJ0_length_8abf5 at h
  refine vj_sub (lv' := [(0, .ref (E.2.2.2.2 (10 + d0)))]) [0] rfl ?_
  refine v_aload_n C 0 (dk dcJ0_length_8abf5_0 0 rfl) rfl rfl ?_
  refine v_strval C hd0 wd_1616 (dk dcJ0_length_8abf5_0 1 rfl) ?_
  refine v_tlen C (C.2.2.2.2.2.2.1.2.2.2.2.1.1 d0 hd0).2.2.2 rfl (dk dcJ0_length_8abf5_0 2 rfl) ?_
  refine v_aload_n C 0 (dk dcJ0_length_8abf5_0 3 rfl) rfl rfl ?_
  obtain ⟨r_2, h_1, h⟩ := bnd1_s h
  refine v_callVK1 C (mtJ0_coder_7d493 (L - 1) (by omega) hd0 h_1) wmJ0_coder_7d493 wd_487 (by omega) (by decide) rfl hd0 rfl rfl (Nat.le_of_ble_eq_true rfl) (dk dcJ0_length_8abf5_0 4 rfl) ?_
  refine v_ishr C (dk dcJ0_length_8abf5_0 5 rfl) ?_
  cases h
  exact v_iret C rfl (dk dcJ0_length_8abf5_0 6 rfl)
set_option maxRecDepth 20000 in
set_option maxHeartbeats 4000000 in
theorem mtJ1_canEncode_9a6ad {l : Launch} {E : WEt} {wx : va_W} (L : Nat) (hL : 2 ≤ L)  {g : STt} {x0 : Int32} {rr : Int32} (h : fJ1_canEncode_9a6ad g x0 = some rr) : MT l E yJ1_canEncode_9a6ad cJ1_canEncode_9a6ad 1 (some .boolean) (L + 1) [.int x0] (cellsC E g ++ wx) (cellsC E g ++ wx) (some (.int rr)) := by
  refine mt_of (by decide +kernel) (Nat.le_of_ble_eq_true rfl) ?_
  intro p e s m args below meth c C
  replace C : CX p s m args meth c cJ1_canEncode_9a6ad 1 RJ1 (some .boolean) E := C
  unfold fJ1_canEncode_9a6ad at h
  refine vj_sub (lv' := [(0, .int x0)]) [0] rfl ?_
  refine v_iload_n C 0 (dk dcJ1_canEncode_9a6ad_0 0 rfl) rfl rfl ?_
  refine v_if_lt C 15 (dk dcJ1_canEncode_9a6ad_0 1 rfl) (by decide) (fun c_1 => ?_) (fun c_1 => ?_)
  · replace h := if_t c_1 h
    refine v_iconst C 0 (dk dcJ1_canEncode_9a6ad_0 7 rfl) ki_0 ?_
    cases h
    exact v_zret C (x := 0) rfl rfl (dk dcJ1_canEncode_9a6ad_0 8 rfl)
  · replace h := if_f c_1 h
    refine v_iload_n C 0 (dk dcJ1_canEncode_9a6ad_0 2 rfl) rfl rfl ?_
    refine v_sipush C 255 (dk dcJ1_canEncode_9a6ad_0 3 rfl) ks_255 ?_
    refine v_icmp_gt C 15 (dk dcJ1_canEncode_9a6ad_0 4 rfl) (by decide) (fun c_2 => ?_) (fun c_2 => ?_)
    · replace h := if_t c_2 h
      refine v_iconst C 0 (dk dcJ1_canEncode_9a6ad_0 7 rfl) ki_0 ?_
      cases h
      exact v_zret C (x := 0) rfl rfl (dk dcJ1_canEncode_9a6ad_0 8 rfl)
    · replace h := if_f c_2 h
      refine v_iconst C 1 (dk dcJ1_canEncode_9a6ad_0 5 rfl) ki_1 ?_
      refine v_goto C 16 (dk dcJ1_canEncode_9a6ad_0 6 rfl) (by decide) ?_
      cases h
      exact v_zret C (x := 1) rfl rfl (dk dcJ1_canEncode_9a6ad_0 8 rfl)
set_option maxRecDepth 20000 in
set_option maxHeartbeats 4000000 in
theorem vJ1_indexOfChar_4cfef_l7c {L : Nat} (hL : 2 ≤ L) (C : CX p s m args meth c cJ1_indexOfChar_4cfef 6 RJ1 (some .int) E) {g : STt} {l0 : Nat} {l3 : Int32} {l4 : Int32} (hl0 : l0 < 9) {K7 : Int32 → Option Int32} (hK7 : ∀ {l5 : Int32} (r : Int32), K7 (l5) = some r → VJ p l e (rmL (L + 1)) s m args below meth c (QE below E (cellsC E g ++ wx) (some (.int r)) args s) E 6 (cellsC E g ++ wx) [(0, .ref (E.2.2.2.2 (20 + l0))), (3, .int l3), (4, .int l4), (5, .int l5)] [] 7) {l5 : Int32} (r : Int32) (h : fJ1_indexOfChar_4cfef_l7c K7 g l0 l3 l4 l5 = some r) : VJ p l e (rmL (L + 1)) s m args below meth c (QE below E (cellsC E g ++ wx) (some (.int r)) args s) E 6 (cellsC E g ++ wx) [(0, .ref (E.2.2.2.2 (20 + l0))), (3, .int l3), (4, .int l4), (5, .int l5)] [] 7 := by
  unfold fJ1_indexOfChar_4cfef_l7c at h
  refine v_iload C 3 (dk dcJ1_indexOfChar_4cfef_0 5 rfl) rfl ?_
  refine v_iload_n C 1 (dk dcJ1_indexOfChar_4cfef_0 6 rfl) rfl rfl ?_
  refine v_icmp_ge C 31 (dk dcJ1_indexOfChar_4cfef_0 7 rfl) (by decide) (fun c_1 => ?_) (fun c_1 => ?_)
  · replace h := if_t c_1 h
    refine v_iconst C (-1) (dk dcJ1_indexOfChar_4cfef_0 17 rfl) ki_m1 ?_
    cases h
    exact v_iret C rfl (dk dcJ1_indexOfChar_4cfef_0 18 rfl)
  · replace h := if_f c_1 h
    refine v_aload_n C 0 (dk dcJ1_indexOfChar_4cfef_0 8 rfl) rfl rfl ?_
    refine v_iload C 3 (dk dcJ1_indexOfChar_4cfef_0 9 rfl) rfl ?_
    obtain ⟨b_2, h⟩ := gd_t h
    refine v_tb C (C.2.2.2.2.2.2.1.2.2.2.2.1.1 l0 hl0).2.2.2 (inB_in b_2) (dk dcJ1_indexOfChar_4cfef_0 10 rfl) ?_
    refine v_iload C 2 (dk dcJ1_indexOfChar_4cfef_0 11 rfl) rfl ?_
    refine v_icmp_ne C 25 (dk dcJ1_indexOfChar_4cfef_0 12 rfl) (by decide) (fun c_3 => ?_) (fun c_3 => ?_)
    · replace h := if_f c_3 h
      refine v_iinc C (lv' := [(5, .int (l5 + 1)), (0, .ref (E.2.2.2.2 (20 + l0))), (3, .int l3), (4, .int l4)]) (l5 + 1) 3 (dk dcJ1_indexOfChar_4cfef_0 15 rfl) rfl (congrArg (fun z => l5 + z) ki_1) (by decide) rfl ?_
      refine v_goto C 7 (dk dcJ1_indexOfChar_4cfef_0 16 rfl) (by decide) ?_
      exact vj_sub [1, 2, 3, 0] rfl (hK7 _ h)
    · replace h := if_t c_3 h
      refine v_iload C 3 (dk dcJ1_indexOfChar_4cfef_0 13 rfl) rfl ?_
      cases h
      exact v_iret C rfl (dk dcJ1_indexOfChar_4cfef_0 14 rfl)
set_option maxRecDepth 20000 in
set_option maxHeartbeats 4000000 in
theorem vJ1_indexOfChar_4cfef_l7 {L : Nat} (hL : 2 ≤ L) (C : CX p s m args meth c cJ1_indexOfChar_4cfef 6 RJ1 (some .int) E) {g : STt} {l0 : Nat} {l3 : Int32} {l4 : Int32} (hl0 : l0 < 9) {l5 : Int32} (r : Int32) (h : fJ1_indexOfChar_4cfef_l7 g l0 l3 l4 l5 = some r) : VJ p l e (rmL (L + 1)) s m args below meth c (QE below E (cellsC E g ++ wx) (some (.int r)) args s) E 6 (cellsC E g ++ wx) [(0, .ref (E.2.2.2.2 (20 + l0))), (3, .int l3), (4, .int l4), (5, .int l5)] [] 7 :=
  iterO_ind (F := fun K z => fJ1_indexOfChar_4cfef_l7c K g l0 l3 l4 z) (fun z r => VJ p l e (rmL (L + 1)) s m args below meth c (QE below E (cellsC E g ++ wx) (some (.int r)) args s) E 6 (cellsC E g ++ wx) [(0, .ref (E.2.2.2.2 (20 + l0))), (3, .int l3), (4, .int l4), (5, .int z)] [] 7) (fun K hK z r h => vJ1_indexOfChar_4cfef_l7c hL C hl0 (fun {l5} r h => hK (l5) r h) r h) fuelN (l5) r h
set_option maxRecDepth 20000 in
set_option maxHeartbeats 4000000 in
theorem mtJ1_indexOfChar_4cfef {l : Launch} {E : WEt} {wx : va_W} (L : Nat) (hL : 2 ≤ L)  {g : STt} {d0 : Nat} (hd0 : d0 < 9) {x1 : Int32} {x2 : Int32} {x3 : Int32} {rr : Int32} (h : fJ1_indexOfChar_4cfef g d0 x1 x2 x3 = some rr) : MT l E yJ1_indexOfChar_4cfef cJ1_indexOfChar_4cfef 6 (some .int) (L + 1) [.ref (E.2.2.2.2 (20 + d0)), .int x1, .int x2, .int x3] (cellsC E g ++ wx) (cellsC E g ++ wx) (some (.int rr)) := by
  refine mt_of (by decide +kernel) (Nat.le_of_ble_eq_true rfl) ?_
  intro p e s m args below meth c C
  replace C : CX p s m args meth c cJ1_indexOfChar_4cfef 6 RJ1 (some .int) E := C
  unfold fJ1_indexOfChar_4cfef at h
  refine vj_sub (lv' := [(0, .ref (E.2.2.2.2 (20 + d0))), (1, .int x1), (2, .int x2), (3, .int x3)]) [0, 1, 2, 3] rfl ?_
  refine v_iload_n C 1 (dk dcJ1_indexOfChar_4cfef_0 0 rfl) rfl rfl ?_
  refine v_i2b C (dk dcJ1_indexOfChar_4cfef_0 1 rfl) ?_
  refine v_istore C (lv' := [(4, .int x1.toInt8.toInt32), (0, .ref (E.2.2.2.2 (20 + d0))), (1, .int x1), (2, .int x2), (3, .int x3)]) (dk dcJ1_indexOfChar_4cfef_0 2 rfl) (by decide) rfl ?_
  refine v_iload_n C 3 (dk dcJ1_indexOfChar_4cfef_0 3 rfl) rfl rfl ?_
  refine v_istore C (lv' := [(5, .int x2), (4, .int x1.toInt8.toInt32), (0, .ref (E.2.2.2.2 (20 + d0))), (1, .int x1), (2, .int x2), (3, .int x3)]) (dk dcJ1_indexOfChar_4cfef_0 4 rfl) (by decide) rfl ?_
  exact vj_sub [2, 5, 1, 0] rfl (vJ1_indexOfChar_4cfef_l7 hL C hd0 _ h)
set_option maxRecDepth 20000 in
set_option maxHeartbeats 4000000 in
theorem mtJ1_indexOf_4cfef {l : Launch} {E : WEt} {wx : va_W} (L : Nat) (hL : 3 ≤ L)  {g : STt} {d0 : Nat} (hd0 : d0 < 9) {x1 : Int32} {x2 : Int32} {x3 : Int32} {rr : Int32} (h : fJ1_indexOf_4cfef g d0 x1 x2 x3 = some rr) : MT l E yJ1_indexOf_4cfef cJ1_indexOf_4cfef 4 (some .int) (L + 1) [.ref (E.2.2.2.2 (20 + d0)), .int x1, .int x2, .int x3] (cellsC E g ++ wx) (cellsC E g ++ wx) (some (.int rr)) := by
  refine mt_of (by decide +kernel) (Nat.le_of_ble_eq_true rfl) ?_
  intro p e s m args below meth c C
  replace C : CX p s m args meth c cJ1_indexOf_4cfef 4 RJ1 (some .int) E := C
  unfold fJ1_indexOf_4cfef at h
  refine vj_sub (lv' := [(0, .ref (E.2.2.2.2 (20 + d0))), (1, .int x1), (2, .int x2), (3, .int x3)]) [0, 1, 2, 3] rfl ?_
  refine v_iload_n C 1 (dk dcJ1_indexOf_4cfef_0 0 rfl) rfl rfl ?_
  obtain ⟨r_2, h_1, h⟩ := bnd1_s h
  refine v_callS1 C (mtJ1_canEncode_9a6ad (L - 1) (by omega) h_1) wmJ1_canEncode_9a6ad wd_581 (by omega) (by decide) rfl rfl (Nat.le_of_ble_eq_true rfl) (dk dcJ1_indexOf_4cfef_0 1 rfl) ?_
  refine v_if_ne C 9 (dk dcJ1_indexOf_4cfef_0 2 rfl) (by decide) (fun c_3 => ?_) (fun c_3 => ?_)
  · replace h := if_f c_3 h
    refine v_iload_n C 2 (dk dcJ1_indexOf_4cfef_0 5 rfl) rfl rfl ?_
    refine v_iconst C 0 (dk dcJ1_indexOf_4cfef_0 6 rfl) ki_0 ?_
    refine v_mmax C (by omega) wd_584 wn_maxS wn_math wn_maxC (Nat.le_of_ble_eq_true rfl) (dk dcJ1_indexOf_4cfef_0 7 rfl) ?_
    refine v_istore_n C (lv' := [(2, .int (if x2 < (0 : Int32) then (0 : Int32) else x2)), (0, .ref (E.2.2.2.2 (20 + d0))), (1, .int x1), (3, .int x3)]) (dk dcJ1_indexOf_4cfef_0 8 rfl) rfl (by decide) rfl ?_
    refine v_iload_n C 3 (dk dcJ1_indexOf_4cfef_0 9 rfl) rfl rfl ?_
    refine v_aload_n C 1 (dk dcJ1_indexOf_4cfef_0 10 rfl) rfl rfl ?_
    refine v_tlen C (C.2.2.2.2.2.2.1.2.2.2.2.1.1 d0 hd0).2.2.2 rfl (dk dcJ1_indexOf_4cfef_0 11 rfl) ?_
    refine v_mmin C (by omega) wd_585 wn_minS wn_math wn_minC (Nat.le_of_ble_eq_true rfl) (dk dcJ1_indexOf_4cfef_0 12 rfl) ?_
    refine v_istore_n C (lv' := [(3, .int (if (Int32.ofNat (sL_len.getD d0 0)) < x3 then (Int32.ofNat (sL_len.getD d0 0)) else x3)), (2, .int (if x2 < (0 : Int32) then (0 : Int32) else x2)), (0, .ref (E.2.2.2.2 (20 + d0))), (1, .int x1)]) (dk dcJ1_indexOf_4cfef_0 13 rfl) rfl (by decide) rfl ?_
    refine v_iload_n C 1 (dk dcJ1_indexOf_4cfef_0 14 rfl) rfl rfl ?_
    refine v_iload_n C 0 (dk dcJ1_indexOf_4cfef_0 15 rfl) rfl rfl ?_
    refine v_icmp_lt C 29 (dk dcJ1_indexOf_4cfef_0 16 rfl) (by decide) (fun c_4 => ?_) (fun c_4 => ?_)
    · replace h := if_t c_4 h
      refine v_aload_n C 2 (dk dcJ1_indexOf_4cfef_0 19 rfl) rfl rfl ?_
      refine v_iload_n C 3 (dk dcJ1_indexOf_4cfef_0 20 rfl) rfl rfl ?_
      refine v_iload_n C 1 (dk dcJ1_indexOf_4cfef_0 21 rfl) rfl rfl ?_
      refine v_iload_n C 0 (dk dcJ1_indexOf_4cfef_0 22 rfl) rfl rfl ?_
      obtain ⟨r_6, h_5, h⟩ := bnd1_s h
      refine v_callS1 C (mtJ1_indexOfChar_4cfef (L - 1) (by omega) hd0 h_5) wmJ1_indexOfChar_4cfef wd_588 (by omega) (by decide) rfl rfl (Nat.le_of_ble_eq_true rfl) (dk dcJ1_indexOf_4cfef_0 23 rfl) ?_
      cases h
      exact v_iret C rfl (dk dcJ1_indexOf_4cfef_0 24 rfl)
    · replace h := if_f c_4 h
      refine v_iconst C (-1) (dk dcJ1_indexOf_4cfef_0 17 rfl) ki_m1 ?_
      cases h
      exact v_iret C rfl (dk dcJ1_indexOf_4cfef_0 18 rfl)
  · replace h := if_t c_3 h
    refine v_iconst C (-1) (dk dcJ1_indexOf_4cfef_0 3 rfl) ki_m1 ?_
    cases h
    exact v_iret C rfl (dk dcJ1_indexOf_4cfef_0 4 rfl)
set_option maxRecDepth 20000 in
set_option maxHeartbeats 4000000 in
theorem mtJ0_indexOf_7cf53 {l : Launch} {E : WEt} {wx : va_W} (L : Nat) (hL : 4 ≤ L)  {g : STt} {d0 : Nat} (hd0 : d0 < 9) {x1 : Int32} {x2 : Int32} {rr : Int32} (h : fJ0_indexOf_7cf53 g d0 x1 x2 = some rr) : MT l E yJ0_indexOf_7cf53 cJ0_indexOf_7cf53 3 (some .int) (L + 1) [.ref (E.2.2.2.2 (10 + d0)), .int x1, .int x2] (cellsC E g ++ wx) (cellsC E g ++ wx) (some (.int rr)) := by
  refine mt_of (by decide +kernel) (Nat.le_of_ble_eq_true rfl) ?_
  intro p e s m args below meth c C
  replace C : CX p s m args meth c cJ0_indexOf_7cf53 3 RJ0 (some .int) E := C
  unfold fJ0_indexOf_7cf53 at h
  refine vj_sub (lv' := [(0, .ref (E.2.2.2.2 (10 + d0))), (1, .int x1), (2, .int x2)]) [0, 1, 2] rfl ?_
  refine v_aload_n C 0 (dk dcJ0_indexOf_7cf53_0 0 rfl) rfl rfl ?_
  obtain ⟨r_2, h_1, h⟩ := bnd1_s h
  refine v_callVK1 C (mtJ0_isLatin1_aae02 (L - 1) (by omega) hd0 h_1) wmJ0_isLatin1_aae02 wd_501 (by omega) (by decide) rfl hd0 rfl rfl (Nat.le_of_ble_eq_true rfl) (dk dcJ0_indexOf_7cf53_0 1 rfl) ?_
  refine v_if_eq C 23 (dk dcJ0_indexOf_7cf53_0 2 rfl) (by decide) (fun c_3 => ?_) (fun c_3 => ?_)
  · replace h := if_t c_3 h
    refine v_aload_n C 0 (dk dcJ0_indexOf_7cf53_0 11 rfl) rfl rfl ?_
    refine v_strval C hd0 wd_1616 (dk dcJ0_indexOf_7cf53_0 12 rfl) ?_
    refine v_iload_n C 1 (dk dcJ0_indexOf_7cf53_0 13 rfl) rfl rfl ?_
    refine v_iload_n C 2 (dk dcJ0_indexOf_7cf53_0 14 rfl) rfl rfl ?_
    refine v_aload_n C 0 (dk dcJ0_indexOf_7cf53_0 15 rfl) rfl rfl ?_
    obtain ⟨r_5, h_4, h⟩ := bnd1_s h
    refine v_callVK1 C (mtJ0_length_8abf5 (L - 1) (by omega) hd0 h_4) wmJ0_length_8abf5 wd_577 (by omega) (by decide) rfl hd0 rfl rfl (Nat.le_of_ble_eq_true rfl) (dk dcJ0_indexOf_7cf53_0 16 rfl) ?_
    cases h
  · replace h := if_f c_3 h
    refine v_aload_n C 0 (dk dcJ0_indexOf_7cf53_0 3 rfl) rfl rfl ?_
    refine v_strval C hd0 wd_1616 (dk dcJ0_indexOf_7cf53_0 4 rfl) ?_
    refine v_iload_n C 1 (dk dcJ0_indexOf_7cf53_0 5 rfl) rfl rfl ?_
    refine v_iload_n C 2 (dk dcJ0_indexOf_7cf53_0 6 rfl) rfl rfl ?_
    refine v_aload_n C 0 (dk dcJ0_indexOf_7cf53_0 7 rfl) rfl rfl ?_
    obtain ⟨r_5, h_4, h⟩ := bnd1_s h
    refine v_callVK1 C (mtJ0_length_8abf5 (L - 1) (by omega) hd0 h_4) wmJ0_length_8abf5 wd_577 (by omega) (by decide) rfl hd0 rfl rfl (Nat.le_of_ble_eq_true rfl) (dk dcJ0_indexOf_7cf53_0 8 rfl) ?_
    obtain ⟨r_7, h_6, h⟩ := bnd1_s h
    refine v_callS1 C (mtJ1_indexOf_4cfef (L - 1) (by omega) hd0 h_6) wmJ1_indexOf_4cfef wd_578 (by omega) (by decide) rfl rfl (Nat.le_of_ble_eq_true rfl) (dk dcJ0_indexOf_7cf53_0 9 rfl) ?_
    refine v_goto C 36 (dk dcJ0_indexOf_7cf53_0 10 rfl) (by decide) ?_
    cases h
    exact v_iret C rfl (dk dcJ0_indexOf_7cf53_0 18 rfl)
set_option maxRecDepth 20000 in
set_option maxHeartbeats 4000000 in
theorem mtJ0_indexOf_0f7a4 {l : Launch} {E : WEt} {wx : va_W} (L : Nat) (hL : 5 ≤ L)  {g : STt} {d0 : Nat} (hd0 : d0 < 9) {x1 : Int32} {rr : Int32} (h : fJ0_indexOf_0f7a4 g d0 x1 = some rr) : MT l E yJ0_indexOf_0f7a4 cJ0_indexOf_0f7a4 2 (some .int) (L + 1) [.ref (E.2.2.2.2 (10 + d0)), .int x1] (cellsC E g ++ wx) (cellsC E g ++ wx) (some (.int rr)) := by
  refine mt_of (by decide +kernel) (Nat.le_of_ble_eq_true rfl) ?_
  intro p e s m args below meth c C
  replace C : CX p s m args meth c cJ0_indexOf_0f7a4 2 RJ0 (some .int) E := C
  unfold fJ0_indexOf_0f7a4 at h
  refine vj_sub (lv' := [(0, .ref (E.2.2.2.2 (10 + d0))), (1, .int x1)]) [0, 1] rfl ?_
  refine v_aload_n C 0 (dk dcJ0_indexOf_0f7a4_0 0 rfl) rfl rfl ?_
  refine v_iload_n C 1 (dk dcJ0_indexOf_0f7a4_0 1 rfl) rfl rfl ?_
  refine v_iconst C 0 (dk dcJ0_indexOf_0f7a4_0 2 rfl) ki_0 ?_
  obtain ⟨r_2, h_1, h⟩ := bnd1_s h
  refine v_callVK1 C (mtJ0_indexOf_7cf53 (L - 1) (by omega) hd0 h_1) wmJ0_indexOf_7cf53 wd_573 (by omega) (by decide) rfl hd0 rfl rfl (Nat.le_of_ble_eq_true rfl) (dk dcJ0_indexOf_0f7a4_0 3 rfl) ?_
  cases h
  exact v_iret C rfl (dk dcJ0_indexOf_0f7a4_0 4 rfl)
set_option maxRecDepth 20000 in
set_option maxHeartbeats 4000000 in
theorem mtX7_placeIn {l : Launch} {E : WEt} {wx : va_W} (L : Nat) (hL : 6 ≤ L)  {g : STt} {d1 : Nat} (hd1 : d1 < 9) {rr : Int32} (h : fX7_placeIn g d1 = some rr) : MT l E yX7_placeIn cX7_placeIn 3 (some .int) (L + 1) [.ref (aE E 5 0), .ref (E.2.2.2.2 (10 + d1))] (cellsC E g ++ wx) (cellsC E g ++ wx) (some (.int rr)) := by
  refine mt_of (by decide +kernel) (Nat.le_of_ble_eq_true rfl) ?_
  intro p e s m args below meth c C
  replace C : CX p s m args meth c cX7_placeIn 3 RX7 (some .int) E := C
  unfold fX7_placeIn at h
  refine vj_sub (lv' := [(0, .ref (aE E 5 0)), (1, .ref (E.2.2.2.2 (10 + d1)))]) [0, 1] rfl ?_
  refine v_aload_n C 0 (dk dcX7_placeIn_0 0 rfl) rfl rfl ?_
  refine gt_Text_signs C wd_147 (dk dcX7_placeIn_0 1 rfl) ?_
  refine v_aload_n C 0 (dk dcX7_placeIn_0 2 rfl) rfl rfl ?_
  refine gt_Text_pos C wd_148 (dk dcX7_placeIn_0 3 rfl) ?_
  obtain ⟨r_2, h_1, h⟩ := bnd1_s h
  refine v_callV1 C (mtX5_get (L - 1) (by omega) (by decide) h_1) wmX5_get wd_493 (by omega) (by decide) rfl _ (ce_Strip (by decide)) rfl rfl (Nat.le_of_ble_eq_true rfl) (dk dcX7_placeIn_0 4 rfl) ?_
  refine v_istore_n C (lv' := [(2, .int r_2), (0, .ref (aE E 5 0)), (1, .ref (E.2.2.2.2 (10 + d1)))]) (dk dcX7_placeIn_0 5 rfl) rfl (by decide) rfl ?_
  refine v_iload_n C 0 (dk dcX7_placeIn_0 6 rfl) rfl rfl ?_
  refine v_if_ge C 20 (dk dcX7_placeIn_0 7 rfl) (by decide) (fun c_3 => ?_) (fun c_3 => ?_)
  · replace h := if_t c_3 h
    refine v_aload_n C 2 (dk dcX7_placeIn_0 10 rfl) rfl rfl ?_
    refine v_iload_n C 0 (dk dcX7_placeIn_0 11 rfl) rfl rfl ?_
    refine v_i2c C (dk dcX7_placeIn_0 12 rfl) ?_
    obtain ⟨r_5, h_4, h⟩ := bnd1_s h
    refine v_callVK1 C (mtJ0_indexOf_0f7a4 (L - 1) (by omega) hd1 h_4) wmJ0_indexOf_0f7a4 wd_569 (by omega) (by decide) rfl hd1 rfl rfl (Nat.le_of_ble_eq_true rfl) (dk dcX7_placeIn_0 13 rfl) ?_
    cases h
    exact v_iret C rfl (dk dcX7_placeIn_0 14 rfl)
  · replace h := if_f c_3 h
    refine v_iconst C (-1) (dk dcX7_placeIn_0 8 rfl) ki_m1 ?_
    refine v_goto C 26 (dk dcX7_placeIn_0 9 rfl) (by decide) ?_
    cases h
    exact v_iret C rfl (dk dcX7_placeIn_0 14 rfl)
set_option maxRecDepth 20000 in
set_option maxHeartbeats 4000000 in
theorem vX7_readNumber_j50 {L : Nat} (hL : 3 ≤ L) (C : CX p s m args meth c cX7_readNumber 4 RX7 (some .int) E) {g : STt} {l2 : Int32} {s0 : Int32} {K4 : (STt × Int32 × Int32) → Option (STt × Int32)} (hK4 : ∀ {g : STt} {l1 : Int32} {l2 : Int32} (r : STt × Int32), K4 (g, l1, l2) = some r → VJ p l e (rmL (L + 1)) s m args below meth c (QE below E (cellsC E r.1 ++ wx) (some (.int r.2)) args s) E 4 (cellsC E g ++ wx) [(0, .ref (aE E 5 0)), (1, .int l1), (2, .int l2)] [] 4) (r : STt × Int32) (h : fX7_readNumber_j50 K4 g l2 s0 = some r) : VJ p l e (rmL (L + 1)) s m args below meth c (QE below E (cellsC E r.1 ++ wx) (some (.int r.2)) args s) E 4 (cellsC E g ++ wx) [(0, .ref (aE E 5 0)), (2, .int l2)] [.int s0] 50 := by
  unfold fX7_readNumber_j50 at h
  refine v_istore_n C (lv' := [(1, .int s0), (0, .ref (aE E 5 0)), (2, .int l2)]) (dk dcX7_readNumber_0 31 rfl) rfl (by decide) rfl ?_
  refine v_aload_n C 1 (dk dcX7_readNumber_0 32 rfl) rfl rfl ?_
  refine v_dup C rfl (dk dcX7_readNumber_0 33 rfl) ?_
  refine gt_Text_pos C wd_148 (dk dcX7_readNumber_0 34 rfl) ?_
  refine v_iconst C 1 (dk dcX7_readNumber_0 35 rfl) ki_1 ?_
  refine v_iadd C (dk dcX7_readNumber_0 36 rfl) ?_
  refine pt_Text_pos C wd_148 (dk dcX7_readNumber_0 37 rfl) ?_
  refine v_iinc C (lv' := [(2, .int (l2 + 1)), (1, .int s0), (0, .ref (aE E 5 0))]) (l2 + 1) 2 (dk dcX7_readNumber_0 38 rfl) rfl (congrArg (fun z => l2 + z) ki_1) (by decide) rfl ?_
  refine v_goto C 4 (dk dcX7_readNumber_0 39 rfl) (by decide) ?_
  exact vj_sub [2, 1, 0] rfl (hK4 _ h)
set_option maxRecDepth 20000 in
set_option maxHeartbeats 4000000 in
theorem vX7_readNumber_l4c {L : Nat} (hL : 3 ≤ L) (C : CX p s m args meth c cX7_readNumber 4 RX7 (some .int) E) {K4 : (STt × Int32 × Int32) → Option (STt × Int32)} (hK4 : ∀ {g : STt} {l1 : Int32} {l2 : Int32} (r : STt × Int32), K4 (g, l1, l2) = some r → VJ p l e (rmL (L + 1)) s m args below meth c (QE below E (cellsC E r.1 ++ wx) (some (.int r.2)) args s) E 4 (cellsC E g ++ wx) [(0, .ref (aE E 5 0)), (1, .int l1), (2, .int l2)] [] 4) {g : STt} {l1 : Int32} {l2 : Int32} (r : STt × Int32) (h : fX7_readNumber_l4c K4 g l1 l2 = some r) : VJ p l e (rmL (L + 1)) s m args below meth c (QE below E (cellsC E r.1 ++ wx) (some (.int r.2)) args s) E 4 (cellsC E g ++ wx) [(0, .ref (aE E 5 0)), (1, .int l1), (2, .int l2)] [] 4 := by
  unfold fX7_readNumber_l4c at h
  refine v_iload_n C 2 (dk dcX7_readNumber_0 4 rfl) rfl rfl ?_
  refine v_iconst C 2 (dk dcX7_readNumber_0 5 rfl) ki_2 ?_
  refine v_icmp_ge C 67 (dk dcX7_readNumber_0 6 rfl) (by decide) (fun c_1 => ?_) (fun c_1 => ?_)
  · replace h := if_t c_1 h
    refine v_iload_n C 1 (dk dcX7_readNumber_0 40 rfl) rfl rfl ?_
    cases h
    exact v_iret C rfl (dk dcX7_readNumber_0 41 rfl)
  · replace h := if_f c_1 h
    refine v_aload_n C 0 (dk dcX7_readNumber_0 7 rfl) rfl rfl ?_
    refine gt_Text_signs C wd_147 (dk dcX7_readNumber_0 8 rfl) ?_
    refine v_aload_n C 0 (dk dcX7_readNumber_0 9 rfl) rfl rfl ?_
    refine gt_Text_pos C wd_148 (dk dcX7_readNumber_0 10 rfl) ?_
    obtain ⟨r_3, h_2, h⟩ := bnd1_s h
    refine v_callV1 C (mtX5_get (L - 1) (by omega) (by decide) h_2) wmX5_get wd_493 (by omega) (by decide) rfl _ (ce_Strip (by decide)) rfl rfl (Nat.le_of_ble_eq_true rfl) (dk dcX7_readNumber_0 11 rfl) ?_
    refine v_bipush C 48 (dk dcX7_readNumber_0 12 rfl) kb_48 ?_
    refine v_isub C (dk dcX7_readNumber_0 13 rfl) ?_
    refine v_istore_n C (lv' := [(3, .int (r_3 - 48)), (0, .ref (aE E 5 0)), (1, .int l1), (2, .int l2)]) (dk dcX7_readNumber_0 14 rfl) rfl (by decide) rfl ?_
    refine v_iload_n C 0 (dk dcX7_readNumber_0 15 rfl) rfl rfl ?_
    refine v_if_lt C 34 (dk dcX7_readNumber_0 16 rfl) (by decide) (fun c_4 => ?_) (fun c_4 => ?_)
    · replace h := if_t c_4 h
      refine v_iload_n C 2 (dk dcX7_readNumber_0 20 rfl) rfl rfl ?_
      cases h
      exact v_iret C rfl (dk dcX7_readNumber_0 21 rfl)
    · replace h := if_f c_4 h
      refine v_iload_n C 0 (dk dcX7_readNumber_0 17 rfl) rfl rfl ?_
      refine v_bipush C 9 (dk dcX7_readNumber_0 18 rfl) kb_9 ?_
      refine v_icmp_le C 36 (dk dcX7_readNumber_0 19 rfl) (by decide) (fun c_5 => ?_) (fun c_5 => ?_)
      · replace h := if_t c_5 h
        refine v_iload_n C 3 (dk dcX7_readNumber_0 22 rfl) rfl rfl ?_
        refine v_if_ne C 44 (dk dcX7_readNumber_0 23 rfl) (by decide) (fun c_6 => ?_) (fun c_6 => ?_)
        · replace h := if_f c_6 h
          refine v_iload_n C 2 (dk dcX7_readNumber_0 26 rfl) rfl rfl ?_
          refine v_bipush C 10 (dk dcX7_readNumber_0 27 rfl) kb_10 ?_
          refine v_imul C (dk dcX7_readNumber_0 28 rfl) ?_
          refine v_iload_n C 0 (dk dcX7_readNumber_0 29 rfl) rfl rfl ?_
          refine v_iadd C (dk dcX7_readNumber_0 30 rfl) ?_
          exact vj_sub [1, 3] rfl (vX7_readNumber_j50 hL C hK4 _ h)
        · replace h := if_t c_6 h
          refine v_iload_n C 0 (dk dcX7_readNumber_0 24 rfl) rfl rfl ?_
          refine v_goto C 50 (dk dcX7_readNumber_0 25 rfl) (by decide) ?_
          exact vj_sub [1, 3] rfl (vX7_readNumber_j50 hL C hK4 _ h)
      · replace h := if_f c_5 h
        refine v_iload_n C 2 (dk dcX7_readNumber_0 20 rfl) rfl rfl ?_
        cases h
        exact v_iret C rfl (dk dcX7_readNumber_0 21 rfl)
set_option maxRecDepth 20000 in
set_option maxHeartbeats 4000000 in
theorem vX7_readNumber_l4 {L : Nat} (hL : 3 ≤ L) (C : CX p s m args meth c cX7_readNumber 4 RX7 (some .int) E) {g : STt} {l1 : Int32} {l2 : Int32} (r : STt × Int32) (h : fX7_readNumber_l4 g l1 l2 = some r) : VJ p l e (rmL (L + 1)) s m args below meth c (QE below E (cellsC E r.1 ++ wx) (some (.int r.2)) args s) E 4 (cellsC E g ++ wx) [(0, .ref (aE E 5 0)), (1, .int l1), (2, .int l2)] [] 4 :=
  iterO_ind (F := fun K z => fX7_readNumber_l4c K z.1 z.2.1 z.2.2) (fun z r => VJ p l e (rmL (L + 1)) s m args below meth c (QE below E (cellsC E r.1 ++ wx) (some (.int r.2)) args s) E 4 (cellsC E z.1 ++ wx) [(0, .ref (aE E 5 0)), (1, .int z.2.1), (2, .int z.2.2)] [] 4) (fun K hK z r h => vX7_readNumber_l4c hL C (fun {g} {l1} {l2} r h => hK (g, l1, l2) r h) r h) fuelN (g, l1, l2) r h
set_option maxRecDepth 20000 in
set_option maxHeartbeats 4000000 in
theorem mtX7_readNumber {l : Launch} {E : WEt} {wx : va_W} (L : Nat) (hL : 3 ≤ L)  {g : STt} {g' : STt} {rr : Int32} (h : fX7_readNumber g = some (g', rr)) : MT l E yX7_readNumber cX7_readNumber 4 (some .int) (L + 1) [.ref (aE E 5 0)] (cellsC E g ++ wx) (cellsC E g' ++ wx) (some (.int rr)) := by
  refine mt_of (by decide +kernel) (Nat.le_of_ble_eq_true rfl) ?_
  intro p e s m args below meth c C
  replace C : CX p s m args meth c cX7_readNumber 4 RX7 (some .int) E := C
  unfold fX7_readNumber at h
  refine vj_sub (lv' := [(0, .ref (aE E 5 0))]) [0] rfl ?_
  refine v_iconst C (-1) (dk dcX7_readNumber_0 0 rfl) ki_m1 ?_
  refine v_istore_n C (lv' := [(1, .int (-1)), (0, .ref (aE E 5 0))]) (dk dcX7_readNumber_0 1 rfl) rfl (by decide) rfl ?_
  refine v_iconst C 0 (dk dcX7_readNumber_0 2 rfl) ki_0 ?_
  refine v_istore_n C (lv' := [(2, .int 0), (1, .int (-1)), (0, .ref (aE E 5 0))]) (dk dcX7_readNumber_0 3 rfl) rfl (by decide) rfl ?_
  exact vj_sub [2, 1, 0] rfl (vX7_readNumber_l4 hL C _ h)
set_option maxRecDepth 20000 in
set_option maxHeartbeats 4000000 in
theorem mtX7_readTest {l : Launch} {E : WEt} {wx : va_W} (L : Nat) (hL : 7 ≤ L)  {g : STt} {d1 : Nat} (hd1 : d1 < 7) {g' : STt} {rr : Int32} (h : fX7_readTest g d1 = some (g', rr)) : MT l E yX7_readTest cX7_readTest 5 (some .boolean) (L + 1) [.ref (aE E 5 0), .ref (aE E 21 d1)] (cellsC E g ++ wx) (cellsC E g' ++ wx) (some (.int rr)) := by
  refine mt_of (by decide +kernel) (Nat.le_of_ble_eq_true rfl) ?_
  intro p e s m args below meth c C
  replace C : CX p s m args meth c cX7_readTest 5 RX7 (some .boolean) E := C
  unfold fX7_readTest at h
  refine vj_sub (lv' := [(0, .ref (aE E 5 0)), (1, .ref (aE E 21 d1))]) [0, 1] rfl ?_
  refine v_aload_n C 0 (dk dcX7_readTest_0 0 rfl) rfl rfl ?_
  refine v_ldcS C (C.2.2.2.2.2.2.1.2.2.2.2.2 7 (by decide)) (dk dcX7_readTest_0 1 rfl) ?_
  obtain ⟨r_2, h_1, h⟩ := bnd1_s h
  refine v_callV1 C (mtX7_placeIn (L - 1) (by omega) (by decide) h_1) wmX7_placeIn wd_565 (by omega) (by decide) rfl _ (ce_Text) rfl rfl (Nat.le_of_ble_eq_true rfl) (dk dcX7_readTest_0 2 rfl) ?_
  refine v_istore_n C (lv' := [(2, .int r_2), (0, .ref (aE E 5 0)), (1, .ref (aE E 21 d1))]) (dk dcX7_readTest_0 3 rfl) rfl (by decide) rfl ?_
  refine v_iload_n C 0 (dk dcX7_readTest_0 4 rfl) rfl rfl ?_
  refine v_if_ge C 13 (dk dcX7_readTest_0 5 rfl) (by decide) (fun c_3 => ?_) (fun c_3 => ?_)
  · replace h := if_t c_3 h
    refine v_aload_n C 1 (dk dcX7_readTest_0 8 rfl) rfl rfl ?_
    refine v_dup C rfl (dk dcX7_readTest_0 9 rfl) ?_
    refine gt_Text_pos C wd_148 (dk dcX7_readTest_0 10 rfl) ?_
    refine v_iconst C 1 (dk dcX7_readTest_0 11 rfl) ki_1 ?_
    refine v_iadd C (dk dcX7_readTest_0 12 rfl) ?_
    refine pt_Text_pos C wd_148 (dk dcX7_readTest_0 13 rfl) ?_
    refine v_aload_n C 1 (dk dcX7_readTest_0 14 rfl) rfl rfl ?_
    refine v_ldcS C (C.2.2.2.2.2.2.1.2.2.2.2.2 8 (by decide)) (dk dcX7_readTest_0 15 rfl) ?_
    obtain ⟨r_5, h_4, h⟩ := bnd1_s h
    refine v_callV1 C (mtX7_placeIn (L - 1) (by omega) (by decide) h_4) wmX7_placeIn wd_565 (by omega) (by decide) rfl _ (ce_Text) rfl rfl (Nat.le_of_ble_eq_true rfl) (dk dcX7_readTest_0 16 rfl) ?_
    refine v_istore_n C (lv' := [(3, .int r_5), (2, .int r_2), (0, .ref (aE E 5 0)), (1, .ref (aE E 21 d1))]) (dk dcX7_readTest_0 17 rfl) rfl (by decide) rfl ?_
    refine v_iload_n C 0 (dk dcX7_readTest_0 18 rfl) rfl rfl ?_
    refine v_if_ge C 36 (dk dcX7_readTest_0 19 rfl) (by decide) (fun c_6 => ?_) (fun c_6 => ?_)
    · replace h := if_t c_6 h
      refine v_aload_n C 2 (dk dcX7_readTest_0 22 rfl) rfl rfl ?_
      refine v_dup C rfl (dk dcX7_readTest_0 23 rfl) ?_
      refine gt_Text_pos C wd_148 (dk dcX7_readTest_0 24 rfl) ?_
      refine v_iconst C 1 (dk dcX7_readTest_0 25 rfl) ki_1 ?_
      refine v_iadd C (dk dcX7_readTest_0 26 rfl) ?_
      refine pt_Text_pos C wd_148 (dk dcX7_readTest_0 27 rfl) ?_
      refine v_aload_n C 2 (dk dcX7_readTest_0 28 rfl) rfl rfl ?_
      obtain ⟨g_8, r_9, h_7, h⟩ := bnd_s h
      refine v_callV1 C (mtX7_readNumber (L - 1) (by omega) h_7) wmX7_readNumber wd_540 (by omega) (by decide) rfl _ (ce_Text) rfl rfl (Nat.le_of_ble_eq_true rfl) (dk dcX7_readTest_0 29 rfl) ?_
      refine v_istore C (lv' := [(4, .int r_9), (3, .int r_5), (2, .int r_2), (0, .ref (aE E 5 0)), (1, .ref (aE E 21 d1))]) (dk dcX7_readTest_0 30 rfl) (by decide) rfl ?_
      refine v_iload C 0 (dk dcX7_readTest_0 31 rfl) rfl ?_
      refine v_if_ge C 59 (dk dcX7_readTest_0 32 rfl) (by decide) (fun c_10 => ?_) (fun c_10 => ?_)
      · replace h := if_t c_10 h
        refine v_aload_n C 4 (dk dcX7_readTest_0 35 rfl) rfl rfl ?_
        refine v_iload_n C 2 (dk dcX7_readTest_0 36 rfl) rfl rfl ?_
        refine v_iload_n C 1 (dk dcX7_readTest_0 37 rfl) rfl rfl ?_
        refine v_iload C 0 (dk dcX7_readTest_0 38 rfl) rfl ?_
        obtain ⟨r_12, h_11, h⟩ := bnd1_s h
        refine v_callS1 C (mtX2_codeOf (L - 1) (by omega) h_11) wmX2_codeOf wd_627 (by omega) (by decide) rfl rfl (Nat.le_of_ble_eq_true rfl) (dk dcX7_readTest_0 39 rfl) ?_
        obtain ⟨g_14, h_13, h⟩ := bnd1_s h
        refine v_callV0 C (mtX2_addCode (L - 1) (by omega) hd1 h_13) wmX2_addCode wd_630 (by omega) (by decide) rfl _ (ce_Law hd1) rfl rfl (Nat.le_of_ble_eq_true rfl) (dk dcX7_readTest_0 40 rfl) ?_
        refine v_iconst C 1 (dk dcX7_readTest_0 41 rfl) ki_1 ?_
        cases h
        exact v_zret C (x := 1) rfl rfl (dk dcX7_readTest_0 42 rfl)
      · replace h := if_f c_10 h
        refine v_iconst C 0 (dk dcX7_readTest_0 33 rfl) ki_0 ?_
        cases h
        exact v_zret C (x := 0) rfl rfl (dk dcX7_readTest_0 34 rfl)
    · replace h := if_f c_6 h
      refine v_iconst C 0 (dk dcX7_readTest_0 20 rfl) ki_0 ?_
      cases h
      exact v_zret C (x := 0) rfl rfl (dk dcX7_readTest_0 21 rfl)
  · replace h := if_f c_3 h
    refine v_iconst C 0 (dk dcX7_readTest_0 6 rfl) ki_0 ?_
    cases h
    exact v_zret C (x := 0) rfl rfl (dk dcX7_readTest_0 7 rfl)
set_option maxRecDepth 20000 in
set_option maxHeartbeats 4000000 in
theorem vX7_readBoth_j52 {L : Nat} (hL : 8 ≤ L) {qX7_readBoth : STt → Nat → Int32 → Option (STt × Int32)} {qX7_readEither : STt → Nat → Int32 → Option (STt × Int32)} {qX7_readSingle : STt → Nat → Int32 → Option (STt × Int32)} (hcX7_readBoth : ∀ {g : STt} {d1 : Nat} (hd1 : d1 < 7) {x2 : Int32} {g' : STt} {rr : Int32}, qX7_readBoth g d1 x2 = some (g', rr) → MT l E yX7_readBoth cX7_readBoth 5 (some .boolean) (L) [.ref (aE E 5 0), .ref (aE E 21 d1), .int x2] (cellsC E g ++ wx) (cellsC E g' ++ wx) (some (.int rr))) (hcX7_readEither : ∀ {g : STt} {d1 : Nat} (hd1 : d1 < 7) {x2 : Int32} {g' : STt} {rr : Int32}, qX7_readEither g d1 x2 = some (g', rr) → MT l E yX7_readEither cX7_readEither 5 (some .boolean) (L) [.ref (aE E 5 0), .ref (aE E 21 d1), .int x2] (cellsC E g ++ wx) (cellsC E g' ++ wx) (some (.int rr))) (hcX7_readSingle : ∀ {g : STt} {d1 : Nat} (hd1 : d1 < 7) {x2 : Int32} {g' : STt} {rr : Int32}, qX7_readSingle g d1 x2 = some (g', rr) → MT l E yX7_readSingle cX7_readSingle 7 (some .boolean) (L) [.ref (aE E 5 0), .ref (aE E 21 d1), .int x2] (cellsC E g ++ wx) (cellsC E g' ++ wx) (some (.int rr))) (C : CX p s m args meth c cX7_readBoth 5 RX7 (some .boolean) E) {g : STt} {l1 : Nat} {l2 : Int32} {l4 : Int32} {s0 : Int32} (hl1 : l1 < 7) {K5 : (STt × Int32 × Int32) → Option (STt × Int32)} (hK5 : ∀ {g : STt} {l3 : Int32} {l4 : Int32} (r : STt × Int32), K5 (g, l3, l4) = some r → VJ p l e (rmL (L + 1)) s m args below meth c (QE below E (cellsC E r.1 ++ wx) (some (.int r.2)) args s) E 5 (cellsC E g ++ wx) [(0, .ref (aE E 5 0)), (1, .ref (aE E 21 l1)), (2, .int l2), (3, .int l3), (4, .int l4)] [] 5) (r : STt × Int32) (h : fX7_readBoth_j52 qX7_readBoth qX7_readEither qX7_readSingle K5 g l1 l2 l4 s0 = some r) : VJ p l e (rmL (L + 1)) s m args below meth c (QE below E (cellsC E r.1 ++ wx) (some (.int r.2)) args s) E 5 (cellsC E g ++ wx) [(0, .ref (aE E 5 0)), (1, .ref (aE E 21 l1)), (2, .int l2), (4, .int l4)] [.int s0] 52 := by
  unfold fX7_readBoth_j52 at h
  refine v_istore_n C (lv' := [(3, .int s0), (0, .ref (aE E 5 0)), (1, .ref (aE E 21 l1)), (2, .int l2), (4, .int l4)]) (dk dcX7_readBoth_0 28 rfl) rfl (by decide) rfl ?_
  refine v_iinc C (lv' := [(4, .int (l4 + 1)), (3, .int s0), (0, .ref (aE E 5 0)), (1, .ref (aE E 21 l1)), (2, .int l2)]) (l4 + 1) 4 (dk dcX7_readBoth_0 29 rfl) rfl (congrArg (fun z => l4 + z) ki_1) (by decide) rfl ?_
  refine v_goto C 5 (dk dcX7_readBoth_0 30 rfl) (by decide) ?_
  exact vj_sub [2, 3, 4, 1, 0] rfl (hK5 _ h)
set_option maxRecDepth 20000 in
set_option maxHeartbeats 4000000 in
theorem vX7_readBoth_j38 {L : Nat} (hL : 8 ≤ L) {qX7_readBoth : STt → Nat → Int32 → Option (STt × Int32)} {qX7_readEither : STt → Nat → Int32 → Option (STt × Int32)} {qX7_readSingle : STt → Nat → Int32 → Option (STt × Int32)} (hcX7_readBoth : ∀ {g : STt} {d1 : Nat} (hd1 : d1 < 7) {x2 : Int32} {g' : STt} {rr : Int32}, qX7_readBoth g d1 x2 = some (g', rr) → MT l E yX7_readBoth cX7_readBoth 5 (some .boolean) (L) [.ref (aE E 5 0), .ref (aE E 21 d1), .int x2] (cellsC E g ++ wx) (cellsC E g' ++ wx) (some (.int rr))) (hcX7_readEither : ∀ {g : STt} {d1 : Nat} (hd1 : d1 < 7) {x2 : Int32} {g' : STt} {rr : Int32}, qX7_readEither g d1 x2 = some (g', rr) → MT l E yX7_readEither cX7_readEither 5 (some .boolean) (L) [.ref (aE E 5 0), .ref (aE E 21 d1), .int x2] (cellsC E g ++ wx) (cellsC E g' ++ wx) (some (.int rr))) (hcX7_readSingle : ∀ {g : STt} {d1 : Nat} (hd1 : d1 < 7) {x2 : Int32} {g' : STt} {rr : Int32}, qX7_readSingle g d1 x2 = some (g', rr) → MT l E yX7_readSingle cX7_readSingle 7 (some .boolean) (L) [.ref (aE E 5 0), .ref (aE E 21 d1), .int x2] (cellsC E g ++ wx) (cellsC E g' ++ wx) (some (.int rr))) (C : CX p s m args meth c cX7_readBoth 5 RX7 (some .boolean) E) {g : STt} {l1 : Nat} {l2 : Int32} {l4 : Int32} (hl1 : l1 < 7) {K5 : (STt × Int32 × Int32) → Option (STt × Int32)} (hK5 : ∀ {g : STt} {l3 : Int32} {l4 : Int32} (r : STt × Int32), K5 (g, l3, l4) = some r → VJ p l e (rmL (L + 1)) s m args below meth c (QE below E (cellsC E r.1 ++ wx) (some (.int r.2)) args s) E 5 (cellsC E g ++ wx) [(0, .ref (aE E 5 0)), (1, .ref (aE E 21 l1)), (2, .int l2), (3, .int l3), (4, .int l4)] [] 5) (r : STt × Int32) (h : fX7_readBoth_j38 qX7_readBoth qX7_readEither qX7_readSingle K5 g l1 l2 l4 = some r) : VJ p l e (rmL (L + 1)) s m args below meth c (QE below E (cellsC E r.1 ++ wx) (some (.int r.2)) args s) E 5 (cellsC E g ++ wx) [(0, .ref (aE E 5 0)), (1, .ref (aE E 21 l1)), (2, .int l2), (4, .int l4)] [] 38 := by
  unfold fX7_readBoth_j38 at h
  refine v_aload_n C 0 (dk dcX7_readBoth_0 21 rfl) rfl rfl ?_
  refine v_bipush C 38 (dk dcX7_readBoth_0 22 rfl) kb_38 ?_
  obtain ⟨g_2, r_3, h_1, h⟩ := bnd_s h
  refine v_callV1 C (mtX7_next (L - 1) (by omega) h_1) wmX7_next wd_536 (by omega) (by decide) rfl _ (ce_Text) rfl rfl (Nat.le_of_ble_eq_true rfl) (dk dcX7_readBoth_0 23 rfl) ?_
  refine v_if_ne C 51 (dk dcX7_readBoth_0 24 rfl) (by decide) (fun c_4 => ?_) (fun c_4 => ?_)
  · replace h := if_f c_4 h
    refine v_iconst C 0 (dk dcX7_readBoth_0 27 rfl) ki_0 ?_
    exact vj_sub [0, 1, 2, 3] rfl (vX7_readBoth_j52 hL hcX7_readBoth hcX7_readEither hcX7_readSingle C hl1 hK5 _ h)
  · replace h := if_t c_4 h
    refine v_iconst C 1 (dk dcX7_readBoth_0 25 rfl) ki_1 ?_
    refine v_goto C 52 (dk dcX7_readBoth_0 26 rfl) (by decide) ?_
    exact vj_sub [0, 1, 2, 3] rfl (vX7_readBoth_j52 hL hcX7_readBoth hcX7_readEither hcX7_readSingle C hl1 hK5 _ h)
set_option maxRecDepth 20000 in
set_option maxHeartbeats 4000000 in
theorem vX7_readBoth_l5c {L : Nat} (hL : 8 ≤ L) {qX7_readBoth : STt → Nat → Int32 → Option (STt × Int32)} {qX7_readEither : STt → Nat → Int32 → Option (STt × Int32)} {qX7_readSingle : STt → Nat → Int32 → Option (STt × Int32)} (hcX7_readBoth : ∀ {g : STt} {d1 : Nat} (hd1 : d1 < 7) {x2 : Int32} {g' : STt} {rr : Int32}, qX7_readBoth g d1 x2 = some (g', rr) → MT l E yX7_readBoth cX7_readBoth 5 (some .boolean) (L) [.ref (aE E 5 0), .ref (aE E 21 d1), .int x2] (cellsC E g ++ wx) (cellsC E g' ++ wx) (some (.int rr))) (hcX7_readEither : ∀ {g : STt} {d1 : Nat} (hd1 : d1 < 7) {x2 : Int32} {g' : STt} {rr : Int32}, qX7_readEither g d1 x2 = some (g', rr) → MT l E yX7_readEither cX7_readEither 5 (some .boolean) (L) [.ref (aE E 5 0), .ref (aE E 21 d1), .int x2] (cellsC E g ++ wx) (cellsC E g' ++ wx) (some (.int rr))) (hcX7_readSingle : ∀ {g : STt} {d1 : Nat} (hd1 : d1 < 7) {x2 : Int32} {g' : STt} {rr : Int32}, qX7_readSingle g d1 x2 = some (g', rr) → MT l E yX7_readSingle cX7_readSingle 7 (some .boolean) (L) [.ref (aE E 5 0), .ref (aE E 21 d1), .int x2] (cellsC E g ++ wx) (cellsC E g' ++ wx) (some (.int rr))) (C : CX p s m args meth c cX7_readBoth 5 RX7 (some .boolean) E) {l1 : Nat} {l2 : Int32} (hl1 : l1 < 7) {K5 : (STt × Int32 × Int32) → Option (STt × Int32)} (hK5 : ∀ {g : STt} {l3 : Int32} {l4 : Int32} (r : STt × Int32), K5 (g, l3, l4) = some r → VJ p l e (rmL (L + 1)) s m args below meth c (QE below E (cellsC E r.1 ++ wx) (some (.int r.2)) args s) E 5 (cellsC E g ++ wx) [(0, .ref (aE E 5 0)), (1, .ref (aE E 21 l1)), (2, .int l2), (3, .int l3), (4, .int l4)] [] 5) {g : STt} {l3 : Int32} {l4 : Int32} (r : STt × Int32) (h : fX7_readBoth_l5c qX7_readBoth qX7_readEither qX7_readSingle K5 l1 l2 g l3 l4 = some r) : VJ p l e (rmL (L + 1)) s m args below meth c (QE below E (cellsC E r.1 ++ wx) (some (.int r.2)) args s) E 5 (cellsC E g ++ wx) [(0, .ref (aE E 5 0)), (1, .ref (aE E 21 l1)), (2, .int l2), (3, .int l3), (4, .int l4)] [] 5 := by
  unfold fX7_readBoth_l5c at h
  refine v_iload C 4 (dk dcX7_readBoth_0 4 rfl) rfl ?_
  refine v_bipush C 100 (dk dcX7_readBoth_0 5 rfl) kb_100 ?_
  refine v_icmp_ge C 59 (dk dcX7_readBoth_0 6 rfl) (by decide) (fun c_1 => ?_) (fun c_1 => ?_)
  · replace h := if_t c_1 h
    refine v_iload_n C 3 (dk dcX7_readBoth_0 31 rfl) rfl rfl ?_
    obtain ⟨b_2, h⟩ := gd_t h
    cases h
    exact v_zret C rfl (nw_boolean b_2) (dk dcX7_readBoth_0 32 rfl)
  · replace h := if_f c_1 h
    refine v_iload_n C 3 (dk dcX7_readBoth_0 7 rfl) rfl rfl ?_
    refine v_if_ne C 59 (dk dcX7_readBoth_0 8 rfl) (by decide) (fun c_2 => ?_) (fun c_2 => ?_)
    · replace h := if_f c_2 h
      refine v_iload_n C 3 (dk dcX7_readBoth_0 31 rfl) rfl rfl ?_
      obtain ⟨b_3, h⟩ := gd_t h
      cases h
      exact v_zret C rfl (nw_boolean b_3) (dk dcX7_readBoth_0 32 rfl)
    · replace h := if_t c_2 h
      refine v_aload_n C 0 (dk dcX7_readBoth_0 9 rfl) rfl rfl ?_
      refine v_aload_n C 1 (dk dcX7_readBoth_0 10 rfl) rfl rfl ?_
      refine v_iload_n C 2 (dk dcX7_readBoth_0 11 rfl) rfl rfl ?_
      obtain ⟨g_4, r_5, h_3, h⟩ := bnd_s h
      refine v_callV1 C (hcX7_readSingle hl1 h_3) wmX7_readSingle wd_556 (by omega) (by decide) rfl _ (ce_Text) rfl rfl (Nat.le_of_ble_eq_true rfl) (dk dcX7_readBoth_0 12 rfl) ?_
      refine v_if_ne C 27 (dk dcX7_readBoth_0 13 rfl) (by decide) (fun c_6 => ?_) (fun c_6 => ?_)
      · replace h := if_f c_6 h
        refine v_iload C 4 (dk dcX7_readBoth_0 16 rfl) rfl ?_
        refine v_if_le C 38 (dk dcX7_readBoth_0 17 rfl) (by decide) (fun c_7 => ?_) (fun c_7 => ?_)
        · replace h := if_t c_7 h
          exact vj_sub [0, 1, 2, 4] rfl (vX7_readBoth_j38 hL hcX7_readBoth hcX7_readEither hcX7_readSingle C hl1 hK5 _ h)
        · replace h := if_f c_7 h
          refine v_aload_n C 1 (dk dcX7_readBoth_0 18 rfl) rfl rfl ?_
          refine v_bipush C (-2) (dk dcX7_readBoth_0 19 rfl) kb_m2 ?_
          obtain ⟨g_9, h_8, h⟩ := bnd1_s h
          refine v_callV0 C (mtX2_addCode (L - 1) (by omega) hl1 h_8) wmX2_addCode wd_630 (by omega) (by decide) rfl _ (ce_Law hl1) rfl rfl (Nat.le_of_ble_eq_true rfl) (dk dcX7_readBoth_0 20 rfl) ?_
          exact vj_sub [0, 1, 2, 4] rfl (vX7_readBoth_j38 hL hcX7_readBoth hcX7_readEither hcX7_readSingle C hl1 hK5 _ h)
      · replace h := if_t c_6 h
        refine v_iconst C 0 (dk dcX7_readBoth_0 14 rfl) ki_0 ?_
        cases h
        exact v_zret C (x := 0) rfl rfl (dk dcX7_readBoth_0 15 rfl)
set_option maxRecDepth 20000 in
set_option maxHeartbeats 4000000 in
theorem vX7_readBoth_l5 {L : Nat} (hL : 8 ≤ L) {qX7_readBoth : STt → Nat → Int32 → Option (STt × Int32)} {qX7_readEither : STt → Nat → Int32 → Option (STt × Int32)} {qX7_readSingle : STt → Nat → Int32 → Option (STt × Int32)} (hcX7_readBoth : ∀ {g : STt} {d1 : Nat} (hd1 : d1 < 7) {x2 : Int32} {g' : STt} {rr : Int32}, qX7_readBoth g d1 x2 = some (g', rr) → MT l E yX7_readBoth cX7_readBoth 5 (some .boolean) (L) [.ref (aE E 5 0), .ref (aE E 21 d1), .int x2] (cellsC E g ++ wx) (cellsC E g' ++ wx) (some (.int rr))) (hcX7_readEither : ∀ {g : STt} {d1 : Nat} (hd1 : d1 < 7) {x2 : Int32} {g' : STt} {rr : Int32}, qX7_readEither g d1 x2 = some (g', rr) → MT l E yX7_readEither cX7_readEither 5 (some .boolean) (L) [.ref (aE E 5 0), .ref (aE E 21 d1), .int x2] (cellsC E g ++ wx) (cellsC E g' ++ wx) (some (.int rr))) (hcX7_readSingle : ∀ {g : STt} {d1 : Nat} (hd1 : d1 < 7) {x2 : Int32} {g' : STt} {rr : Int32}, qX7_readSingle g d1 x2 = some (g', rr) → MT l E yX7_readSingle cX7_readSingle 7 (some .boolean) (L) [.ref (aE E 5 0), .ref (aE E 21 d1), .int x2] (cellsC E g ++ wx) (cellsC E g' ++ wx) (some (.int rr))) (C : CX p s m args meth c cX7_readBoth 5 RX7 (some .boolean) E) {l1 : Nat} {l2 : Int32} (hl1 : l1 < 7) {g : STt} {l3 : Int32} {l4 : Int32} (r : STt × Int32) (h : fX7_readBoth_l5 qX7_readBoth qX7_readEither qX7_readSingle l1 l2 g l3 l4 = some r) : VJ p l e (rmL (L + 1)) s m args below meth c (QE below E (cellsC E r.1 ++ wx) (some (.int r.2)) args s) E 5 (cellsC E g ++ wx) [(0, .ref (aE E 5 0)), (1, .ref (aE E 21 l1)), (2, .int l2), (3, .int l3), (4, .int l4)] [] 5 :=
  iterO_ind (F := fun K z => fX7_readBoth_l5c qX7_readBoth qX7_readEither qX7_readSingle K l1 l2 z.1 z.2.1 z.2.2) (fun z r => VJ p l e (rmL (L + 1)) s m args below meth c (QE below E (cellsC E r.1 ++ wx) (some (.int r.2)) args s) E 5 (cellsC E z.1 ++ wx) [(0, .ref (aE E 5 0)), (1, .ref (aE E 21 l1)), (2, .int l2), (3, .int z.2.1), (4, .int z.2.2)] [] 5) (fun K hK z r h => vX7_readBoth_l5c hL hcX7_readBoth hcX7_readEither hcX7_readSingle C hl1 (fun {g} {l3} {l4} r h => hK (g, l3, l4) r h) r h) fuelN (g, l3, l4) r h
set_option maxRecDepth 20000 in
set_option maxHeartbeats 4000000 in
theorem moX7_readBoth {l : Launch} {E : WEt} {wx : va_W} (L : Nat) (hL : 8 ≤ L) {qX7_readBoth : STt → Nat → Int32 → Option (STt × Int32)} {qX7_readEither : STt → Nat → Int32 → Option (STt × Int32)} {qX7_readSingle : STt → Nat → Int32 → Option (STt × Int32)} (hcX7_readBoth : ∀ {g : STt} {d1 : Nat} (hd1 : d1 < 7) {x2 : Int32} {g' : STt} {rr : Int32}, qX7_readBoth g d1 x2 = some (g', rr) → MT l E yX7_readBoth cX7_readBoth 5 (some .boolean) (L) [.ref (aE E 5 0), .ref (aE E 21 d1), .int x2] (cellsC E g ++ wx) (cellsC E g' ++ wx) (some (.int rr))) (hcX7_readEither : ∀ {g : STt} {d1 : Nat} (hd1 : d1 < 7) {x2 : Int32} {g' : STt} {rr : Int32}, qX7_readEither g d1 x2 = some (g', rr) → MT l E yX7_readEither cX7_readEither 5 (some .boolean) (L) [.ref (aE E 5 0), .ref (aE E 21 d1), .int x2] (cellsC E g ++ wx) (cellsC E g' ++ wx) (some (.int rr))) (hcX7_readSingle : ∀ {g : STt} {d1 : Nat} (hd1 : d1 < 7) {x2 : Int32} {g' : STt} {rr : Int32}, qX7_readSingle g d1 x2 = some (g', rr) → MT l E yX7_readSingle cX7_readSingle 7 (some .boolean) (L) [.ref (aE E 5 0), .ref (aE E 21 d1), .int x2] (cellsC E g ++ wx) (cellsC E g' ++ wx) (some (.int rr)))  {g : STt} {d1 : Nat} (hd1 : d1 < 7) {x2 : Int32} {g' : STt} {rr : Int32} (h : FX7_readBoth qX7_readBoth qX7_readEither qX7_readSingle g d1 x2 = some (g', rr)) : MT l E yX7_readBoth cX7_readBoth 5 (some .boolean) (L + 1) [.ref (aE E 5 0), .ref (aE E 21 d1), .int x2] (cellsC E g ++ wx) (cellsC E g' ++ wx) (some (.int rr)) := by
  refine mt_of (by decide +kernel) (Nat.le_of_ble_eq_true rfl) ?_
  intro p e s m args below meth c C
  replace C : CX p s m args meth c cX7_readBoth 5 RX7 (some .boolean) E := C
  unfold FX7_readBoth at h
  refine vj_sub (lv' := [(0, .ref (aE E 5 0)), (1, .ref (aE E 21 d1)), (2, .int x2)]) [0, 1, 2] rfl ?_
  refine v_iconst C 0 (dk dcX7_readBoth_0 0 rfl) ki_0 ?_
  refine v_istore_n C (lv' := [(3, .int 0), (0, .ref (aE E 5 0)), (1, .ref (aE E 21 d1)), (2, .int x2)]) (dk dcX7_readBoth_0 1 rfl) rfl (by decide) rfl ?_
  refine v_iconst C 0 (dk dcX7_readBoth_0 2 rfl) ki_0 ?_
  refine v_istore C (lv' := [(4, .int 0), (3, .int 0), (0, .ref (aE E 5 0)), (1, .ref (aE E 21 d1)), (2, .int x2)]) (dk dcX7_readBoth_0 3 rfl) (by decide) rfl ?_
  exact vj_sub [2, 3, 4, 1, 0] rfl (vX7_readBoth_l5 hL hcX7_readBoth hcX7_readEither hcX7_readSingle C hd1 _ h)
set_option maxRecDepth 20000 in
set_option maxHeartbeats 4000000 in
theorem vX7_readEither_j52 {L : Nat} (hL : 8 ≤ L) {qX7_readBoth : STt → Nat → Int32 → Option (STt × Int32)} {qX7_readEither : STt → Nat → Int32 → Option (STt × Int32)} {qX7_readSingle : STt → Nat → Int32 → Option (STt × Int32)} (hcX7_readBoth : ∀ {g : STt} {d1 : Nat} (hd1 : d1 < 7) {x2 : Int32} {g' : STt} {rr : Int32}, qX7_readBoth g d1 x2 = some (g', rr) → MT l E yX7_readBoth cX7_readBoth 5 (some .boolean) (L) [.ref (aE E 5 0), .ref (aE E 21 d1), .int x2] (cellsC E g ++ wx) (cellsC E g' ++ wx) (some (.int rr))) (hcX7_readEither : ∀ {g : STt} {d1 : Nat} (hd1 : d1 < 7) {x2 : Int32} {g' : STt} {rr : Int32}, qX7_readEither g d1 x2 = some (g', rr) → MT l E yX7_readEither cX7_readEither 5 (some .boolean) (L) [.ref (aE E 5 0), .ref (aE E 21 d1), .int x2] (cellsC E g ++ wx) (cellsC E g' ++ wx) (some (.int rr))) (hcX7_readSingle : ∀ {g : STt} {d1 : Nat} (hd1 : d1 < 7) {x2 : Int32} {g' : STt} {rr : Int32}, qX7_readSingle g d1 x2 = some (g', rr) → MT l E yX7_readSingle cX7_readSingle 7 (some .boolean) (L) [.ref (aE E 5 0), .ref (aE E 21 d1), .int x2] (cellsC E g ++ wx) (cellsC E g' ++ wx) (some (.int rr))) (C : CX p s m args meth c cX7_readEither 5 RX7 (some .boolean) E) {g : STt} {l1 : Nat} {l2 : Int32} {l4 : Int32} {s0 : Int32} (hl1 : l1 < 7) {K5 : (STt × Int32 × Int32) → Option (STt × Int32)} (hK5 : ∀ {g : STt} {l3 : Int32} {l4 : Int32} (r : STt × Int32), K5 (g, l3, l4) = some r → VJ p l e (rmL (L + 1)) s m args below meth c (QE below E (cellsC E r.1 ++ wx) (some (.int r.2)) args s) E 5 (cellsC E g ++ wx) [(0, .ref (aE E 5 0)), (1, .ref (aE E 21 l1)), (2, .int l2), (3, .int l3), (4, .int l4)] [] 5) (r : STt × Int32) (h : fX7_readEither_j52 qX7_readBoth qX7_readEither qX7_readSingle K5 g l1 l2 l4 s0 = some r) : VJ p l e (rmL (L + 1)) s m args below meth c (QE below E (cellsC E r.1 ++ wx) (some (.int r.2)) args s) E 5 (cellsC E g ++ wx) [(0, .ref (aE E 5 0)), (1, .ref (aE E 21 l1)), (2, .int l2), (4, .int l4)] [.int s0] 52 := by
  unfold fX7_readEither_j52 at h
  refine v_istore_n C (lv' := [(3, .int s0), (0, .ref (aE E 5 0)), (1, .ref (aE E 21 l1)), (2, .int l2), (4, .int l4)]) (dk dcX7_readEither_0 28 rfl) rfl (by decide) rfl ?_
  refine v_iinc C (lv' := [(4, .int (l4 + 1)), (3, .int s0), (0, .ref (aE E 5 0)), (1, .ref (aE E 21 l1)), (2, .int l2)]) (l4 + 1) 4 (dk dcX7_readEither_0 29 rfl) rfl (congrArg (fun z => l4 + z) ki_1) (by decide) rfl ?_
  refine v_goto C 5 (dk dcX7_readEither_0 30 rfl) (by decide) ?_
  exact vj_sub [2, 3, 4, 1, 0] rfl (hK5 _ h)
set_option maxRecDepth 20000 in
set_option maxHeartbeats 4000000 in
theorem vX7_readEither_j38 {L : Nat} (hL : 8 ≤ L) {qX7_readBoth : STt → Nat → Int32 → Option (STt × Int32)} {qX7_readEither : STt → Nat → Int32 → Option (STt × Int32)} {qX7_readSingle : STt → Nat → Int32 → Option (STt × Int32)} (hcX7_readBoth : ∀ {g : STt} {d1 : Nat} (hd1 : d1 < 7) {x2 : Int32} {g' : STt} {rr : Int32}, qX7_readBoth g d1 x2 = some (g', rr) → MT l E yX7_readBoth cX7_readBoth 5 (some .boolean) (L) [.ref (aE E 5 0), .ref (aE E 21 d1), .int x2] (cellsC E g ++ wx) (cellsC E g' ++ wx) (some (.int rr))) (hcX7_readEither : ∀ {g : STt} {d1 : Nat} (hd1 : d1 < 7) {x2 : Int32} {g' : STt} {rr : Int32}, qX7_readEither g d1 x2 = some (g', rr) → MT l E yX7_readEither cX7_readEither 5 (some .boolean) (L) [.ref (aE E 5 0), .ref (aE E 21 d1), .int x2] (cellsC E g ++ wx) (cellsC E g' ++ wx) (some (.int rr))) (hcX7_readSingle : ∀ {g : STt} {d1 : Nat} (hd1 : d1 < 7) {x2 : Int32} {g' : STt} {rr : Int32}, qX7_readSingle g d1 x2 = some (g', rr) → MT l E yX7_readSingle cX7_readSingle 7 (some .boolean) (L) [.ref (aE E 5 0), .ref (aE E 21 d1), .int x2] (cellsC E g ++ wx) (cellsC E g' ++ wx) (some (.int rr))) (C : CX p s m args meth c cX7_readEither 5 RX7 (some .boolean) E) {g : STt} {l1 : Nat} {l2 : Int32} {l4 : Int32} (hl1 : l1 < 7) {K5 : (STt × Int32 × Int32) → Option (STt × Int32)} (hK5 : ∀ {g : STt} {l3 : Int32} {l4 : Int32} (r : STt × Int32), K5 (g, l3, l4) = some r → VJ p l e (rmL (L + 1)) s m args below meth c (QE below E (cellsC E r.1 ++ wx) (some (.int r.2)) args s) E 5 (cellsC E g ++ wx) [(0, .ref (aE E 5 0)), (1, .ref (aE E 21 l1)), (2, .int l2), (3, .int l3), (4, .int l4)] [] 5) (r : STt × Int32) (h : fX7_readEither_j38 qX7_readBoth qX7_readEither qX7_readSingle K5 g l1 l2 l4 = some r) : VJ p l e (rmL (L + 1)) s m args below meth c (QE below E (cellsC E r.1 ++ wx) (some (.int r.2)) args s) E 5 (cellsC E g ++ wx) [(0, .ref (aE E 5 0)), (1, .ref (aE E 21 l1)), (2, .int l2), (4, .int l4)] [] 38 := by
  unfold fX7_readEither_j38 at h
  refine v_aload_n C 0 (dk dcX7_readEither_0 21 rfl) rfl rfl ?_
  refine v_bipush C 124 (dk dcX7_readEither_0 22 rfl) kb_124 ?_
  obtain ⟨g_2, r_3, h_1, h⟩ := bnd_s h
  refine v_callV1 C (mtX7_next (L - 1) (by omega) h_1) wmX7_next wd_536 (by omega) (by decide) rfl _ (ce_Text) rfl rfl (Nat.le_of_ble_eq_true rfl) (dk dcX7_readEither_0 23 rfl) ?_
  refine v_if_ne C 51 (dk dcX7_readEither_0 24 rfl) (by decide) (fun c_4 => ?_) (fun c_4 => ?_)
  · replace h := if_f c_4 h
    refine v_iconst C 0 (dk dcX7_readEither_0 27 rfl) ki_0 ?_
    exact vj_sub [0, 1, 2, 3] rfl (vX7_readEither_j52 hL hcX7_readBoth hcX7_readEither hcX7_readSingle C hl1 hK5 _ h)
  · replace h := if_t c_4 h
    refine v_iconst C 1 (dk dcX7_readEither_0 25 rfl) ki_1 ?_
    refine v_goto C 52 (dk dcX7_readEither_0 26 rfl) (by decide) ?_
    exact vj_sub [0, 1, 2, 3] rfl (vX7_readEither_j52 hL hcX7_readBoth hcX7_readEither hcX7_readSingle C hl1 hK5 _ h)
set_option maxRecDepth 20000 in
set_option maxHeartbeats 4000000 in
theorem vX7_readEither_l5c {L : Nat} (hL : 8 ≤ L) {qX7_readBoth : STt → Nat → Int32 → Option (STt × Int32)} {qX7_readEither : STt → Nat → Int32 → Option (STt × Int32)} {qX7_readSingle : STt → Nat → Int32 → Option (STt × Int32)} (hcX7_readBoth : ∀ {g : STt} {d1 : Nat} (hd1 : d1 < 7) {x2 : Int32} {g' : STt} {rr : Int32}, qX7_readBoth g d1 x2 = some (g', rr) → MT l E yX7_readBoth cX7_readBoth 5 (some .boolean) (L) [.ref (aE E 5 0), .ref (aE E 21 d1), .int x2] (cellsC E g ++ wx) (cellsC E g' ++ wx) (some (.int rr))) (hcX7_readEither : ∀ {g : STt} {d1 : Nat} (hd1 : d1 < 7) {x2 : Int32} {g' : STt} {rr : Int32}, qX7_readEither g d1 x2 = some (g', rr) → MT l E yX7_readEither cX7_readEither 5 (some .boolean) (L) [.ref (aE E 5 0), .ref (aE E 21 d1), .int x2] (cellsC E g ++ wx) (cellsC E g' ++ wx) (some (.int rr))) (hcX7_readSingle : ∀ {g : STt} {d1 : Nat} (hd1 : d1 < 7) {x2 : Int32} {g' : STt} {rr : Int32}, qX7_readSingle g d1 x2 = some (g', rr) → MT l E yX7_readSingle cX7_readSingle 7 (some .boolean) (L) [.ref (aE E 5 0), .ref (aE E 21 d1), .int x2] (cellsC E g ++ wx) (cellsC E g' ++ wx) (some (.int rr))) (C : CX p s m args meth c cX7_readEither 5 RX7 (some .boolean) E) {l1 : Nat} {l2 : Int32} (hl1 : l1 < 7) {K5 : (STt × Int32 × Int32) → Option (STt × Int32)} (hK5 : ∀ {g : STt} {l3 : Int32} {l4 : Int32} (r : STt × Int32), K5 (g, l3, l4) = some r → VJ p l e (rmL (L + 1)) s m args below meth c (QE below E (cellsC E r.1 ++ wx) (some (.int r.2)) args s) E 5 (cellsC E g ++ wx) [(0, .ref (aE E 5 0)), (1, .ref (aE E 21 l1)), (2, .int l2), (3, .int l3), (4, .int l4)] [] 5) {g : STt} {l3 : Int32} {l4 : Int32} (r : STt × Int32) (h : fX7_readEither_l5c qX7_readBoth qX7_readEither qX7_readSingle K5 l1 l2 g l3 l4 = some r) : VJ p l e (rmL (L + 1)) s m args below meth c (QE below E (cellsC E r.1 ++ wx) (some (.int r.2)) args s) E 5 (cellsC E g ++ wx) [(0, .ref (aE E 5 0)), (1, .ref (aE E 21 l1)), (2, .int l2), (3, .int l3), (4, .int l4)] [] 5 := by
  unfold fX7_readEither_l5c at h
  refine v_iload C 4 (dk dcX7_readEither_0 4 rfl) rfl ?_
  refine v_bipush C 100 (dk dcX7_readEither_0 5 rfl) kb_100 ?_
  refine v_icmp_ge C 59 (dk dcX7_readEither_0 6 rfl) (by decide) (fun c_1 => ?_) (fun c_1 => ?_)
  · replace h := if_t c_1 h
    refine v_iload_n C 3 (dk dcX7_readEither_0 31 rfl) rfl rfl ?_
    obtain ⟨b_2, h⟩ := gd_t h
    cases h
    exact v_zret C rfl (nw_boolean b_2) (dk dcX7_readEither_0 32 rfl)
  · replace h := if_f c_1 h
    refine v_iload_n C 3 (dk dcX7_readEither_0 7 rfl) rfl rfl ?_
    refine v_if_ne C 59 (dk dcX7_readEither_0 8 rfl) (by decide) (fun c_2 => ?_) (fun c_2 => ?_)
    · replace h := if_f c_2 h
      refine v_iload_n C 3 (dk dcX7_readEither_0 31 rfl) rfl rfl ?_
      obtain ⟨b_3, h⟩ := gd_t h
      cases h
      exact v_zret C rfl (nw_boolean b_3) (dk dcX7_readEither_0 32 rfl)
    · replace h := if_t c_2 h
      refine v_aload_n C 0 (dk dcX7_readEither_0 9 rfl) rfl rfl ?_
      refine v_aload_n C 1 (dk dcX7_readEither_0 10 rfl) rfl rfl ?_
      refine v_iload_n C 2 (dk dcX7_readEither_0 11 rfl) rfl rfl ?_
      obtain ⟨g_4, r_5, h_3, h⟩ := bnd_s h
      refine v_callV1 C (hcX7_readBoth hl1 h_3) wmX7_readBoth wd_552 (by omega) (by decide) rfl _ (ce_Text) rfl rfl (Nat.le_of_ble_eq_true rfl) (dk dcX7_readEither_0 12 rfl) ?_
      refine v_if_ne C 27 (dk dcX7_readEither_0 13 rfl) (by decide) (fun c_6 => ?_) (fun c_6 => ?_)
      · replace h := if_f c_6 h
        refine v_iload C 4 (dk dcX7_readEither_0 16 rfl) rfl ?_
        refine v_if_le C 38 (dk dcX7_readEither_0 17 rfl) (by decide) (fun c_7 => ?_) (fun c_7 => ?_)
        · replace h := if_t c_7 h
          exact vj_sub [0, 1, 2, 4] rfl (vX7_readEither_j38 hL hcX7_readBoth hcX7_readEither hcX7_readSingle C hl1 hK5 _ h)
        · replace h := if_f c_7 h
          refine v_aload_n C 1 (dk dcX7_readEither_0 18 rfl) rfl rfl ?_
          refine v_bipush C (-3) (dk dcX7_readEither_0 19 rfl) kb_m3 ?_
          obtain ⟨g_9, h_8, h⟩ := bnd1_s h
          refine v_callV0 C (mtX2_addCode (L - 1) (by omega) hl1 h_8) wmX2_addCode wd_630 (by omega) (by decide) rfl _ (ce_Law hl1) rfl rfl (Nat.le_of_ble_eq_true rfl) (dk dcX7_readEither_0 20 rfl) ?_
          exact vj_sub [0, 1, 2, 4] rfl (vX7_readEither_j38 hL hcX7_readBoth hcX7_readEither hcX7_readSingle C hl1 hK5 _ h)
      · replace h := if_t c_6 h
        refine v_iconst C 0 (dk dcX7_readEither_0 14 rfl) ki_0 ?_
        cases h
        exact v_zret C (x := 0) rfl rfl (dk dcX7_readEither_0 15 rfl)
set_option maxRecDepth 20000 in
set_option maxHeartbeats 4000000 in
theorem vX7_readEither_l5 {L : Nat} (hL : 8 ≤ L) {qX7_readBoth : STt → Nat → Int32 → Option (STt × Int32)} {qX7_readEither : STt → Nat → Int32 → Option (STt × Int32)} {qX7_readSingle : STt → Nat → Int32 → Option (STt × Int32)} (hcX7_readBoth : ∀ {g : STt} {d1 : Nat} (hd1 : d1 < 7) {x2 : Int32} {g' : STt} {rr : Int32}, qX7_readBoth g d1 x2 = some (g', rr) → MT l E yX7_readBoth cX7_readBoth 5 (some .boolean) (L) [.ref (aE E 5 0), .ref (aE E 21 d1), .int x2] (cellsC E g ++ wx) (cellsC E g' ++ wx) (some (.int rr))) (hcX7_readEither : ∀ {g : STt} {d1 : Nat} (hd1 : d1 < 7) {x2 : Int32} {g' : STt} {rr : Int32}, qX7_readEither g d1 x2 = some (g', rr) → MT l E yX7_readEither cX7_readEither 5 (some .boolean) (L) [.ref (aE E 5 0), .ref (aE E 21 d1), .int x2] (cellsC E g ++ wx) (cellsC E g' ++ wx) (some (.int rr))) (hcX7_readSingle : ∀ {g : STt} {d1 : Nat} (hd1 : d1 < 7) {x2 : Int32} {g' : STt} {rr : Int32}, qX7_readSingle g d1 x2 = some (g', rr) → MT l E yX7_readSingle cX7_readSingle 7 (some .boolean) (L) [.ref (aE E 5 0), .ref (aE E 21 d1), .int x2] (cellsC E g ++ wx) (cellsC E g' ++ wx) (some (.int rr))) (C : CX p s m args meth c cX7_readEither 5 RX7 (some .boolean) E) {l1 : Nat} {l2 : Int32} (hl1 : l1 < 7) {g : STt} {l3 : Int32} {l4 : Int32} (r : STt × Int32) (h : fX7_readEither_l5 qX7_readBoth qX7_readEither qX7_readSingle l1 l2 g l3 l4 = some r) : VJ p l e (rmL (L + 1)) s m args below meth c (QE below E (cellsC E r.1 ++ wx) (some (.int r.2)) args s) E 5 (cellsC E g ++ wx) [(0, .ref (aE E 5 0)), (1, .ref (aE E 21 l1)), (2, .int l2), (3, .int l3), (4, .int l4)] [] 5 :=
  iterO_ind (F := fun K z => fX7_readEither_l5c qX7_readBoth qX7_readEither qX7_readSingle K l1 l2 z.1 z.2.1 z.2.2) (fun z r => VJ p l e (rmL (L + 1)) s m args below meth c (QE below E (cellsC E r.1 ++ wx) (some (.int r.2)) args s) E 5 (cellsC E z.1 ++ wx) [(0, .ref (aE E 5 0)), (1, .ref (aE E 21 l1)), (2, .int l2), (3, .int z.2.1), (4, .int z.2.2)] [] 5) (fun K hK z r h => vX7_readEither_l5c hL hcX7_readBoth hcX7_readEither hcX7_readSingle C hl1 (fun {g} {l3} {l4} r h => hK (g, l3, l4) r h) r h) fuelN (g, l3, l4) r h
set_option maxRecDepth 20000 in
set_option maxHeartbeats 4000000 in
theorem moX7_readEither {l : Launch} {E : WEt} {wx : va_W} (L : Nat) (hL : 8 ≤ L) {qX7_readBoth : STt → Nat → Int32 → Option (STt × Int32)} {qX7_readEither : STt → Nat → Int32 → Option (STt × Int32)} {qX7_readSingle : STt → Nat → Int32 → Option (STt × Int32)} (hcX7_readBoth : ∀ {g : STt} {d1 : Nat} (hd1 : d1 < 7) {x2 : Int32} {g' : STt} {rr : Int32}, qX7_readBoth g d1 x2 = some (g', rr) → MT l E yX7_readBoth cX7_readBoth 5 (some .boolean) (L) [.ref (aE E 5 0), .ref (aE E 21 d1), .int x2] (cellsC E g ++ wx) (cellsC E g' ++ wx) (some (.int rr))) (hcX7_readEither : ∀ {g : STt} {d1 : Nat} (hd1 : d1 < 7) {x2 : Int32} {g' : STt} {rr : Int32}, qX7_readEither g d1 x2 = some (g', rr) → MT l E yX7_readEither cX7_readEither 5 (some .boolean) (L) [.ref (aE E 5 0), .ref (aE E 21 d1), .int x2] (cellsC E g ++ wx) (cellsC E g' ++ wx) (some (.int rr))) (hcX7_readSingle : ∀ {g : STt} {d1 : Nat} (hd1 : d1 < 7) {x2 : Int32} {g' : STt} {rr : Int32}, qX7_readSingle g d1 x2 = some (g', rr) → MT l E yX7_readSingle cX7_readSingle 7 (some .boolean) (L) [.ref (aE E 5 0), .ref (aE E 21 d1), .int x2] (cellsC E g ++ wx) (cellsC E g' ++ wx) (some (.int rr)))  {g : STt} {d1 : Nat} (hd1 : d1 < 7) {x2 : Int32} {g' : STt} {rr : Int32} (h : FX7_readEither qX7_readBoth qX7_readEither qX7_readSingle g d1 x2 = some (g', rr)) : MT l E yX7_readEither cX7_readEither 5 (some .boolean) (L + 1) [.ref (aE E 5 0), .ref (aE E 21 d1), .int x2] (cellsC E g ++ wx) (cellsC E g' ++ wx) (some (.int rr)) := by
  refine mt_of (by decide +kernel) (Nat.le_of_ble_eq_true rfl) ?_
  intro p e s m args below meth c C
  replace C : CX p s m args meth c cX7_readEither 5 RX7 (some .boolean) E := C
  unfold FX7_readEither at h
  refine vj_sub (lv' := [(0, .ref (aE E 5 0)), (1, .ref (aE E 21 d1)), (2, .int x2)]) [0, 1, 2] rfl ?_
  refine v_iconst C 0 (dk dcX7_readEither_0 0 rfl) ki_0 ?_
  refine v_istore_n C (lv' := [(3, .int 0), (0, .ref (aE E 5 0)), (1, .ref (aE E 21 d1)), (2, .int x2)]) (dk dcX7_readEither_0 1 rfl) rfl (by decide) rfl ?_
  refine v_iconst C 0 (dk dcX7_readEither_0 2 rfl) ki_0 ?_
  refine v_istore C (lv' := [(4, .int 0), (3, .int 0), (0, .ref (aE E 5 0)), (1, .ref (aE E 21 d1)), (2, .int x2)]) (dk dcX7_readEither_0 3 rfl) (by decide) rfl ?_
  exact vj_sub [2, 3, 4, 1, 0] rfl (vX7_readEither_l5 hL hcX7_readBoth hcX7_readEither hcX7_readSingle C hd1 _ h)
set_option maxRecDepth 20000 in
set_option maxHeartbeats 4000000 in
theorem vX7_readSingle_l92c {L : Nat} (hL : 8 ≤ L) {qX7_readBoth : STt → Nat → Int32 → Option (STt × Int32)} {qX7_readEither : STt → Nat → Int32 → Option (STt × Int32)} {qX7_readSingle : STt → Nat → Int32 → Option (STt × Int32)} (hcX7_readBoth : ∀ {g : STt} {d1 : Nat} (hd1 : d1 < 7) {x2 : Int32} {g' : STt} {rr : Int32}, qX7_readBoth g d1 x2 = some (g', rr) → MT l E yX7_readBoth cX7_readBoth 5 (some .boolean) (L) [.ref (aE E 5 0), .ref (aE E 21 d1), .int x2] (cellsC E g ++ wx) (cellsC E g' ++ wx) (some (.int rr))) (hcX7_readEither : ∀ {g : STt} {d1 : Nat} (hd1 : d1 < 7) {x2 : Int32} {g' : STt} {rr : Int32}, qX7_readEither g d1 x2 = some (g', rr) → MT l E yX7_readEither cX7_readEither 5 (some .boolean) (L) [.ref (aE E 5 0), .ref (aE E 21 d1), .int x2] (cellsC E g ++ wx) (cellsC E g' ++ wx) (some (.int rr))) (hcX7_readSingle : ∀ {g : STt} {d1 : Nat} (hd1 : d1 < 7) {x2 : Int32} {g' : STt} {rr : Int32}, qX7_readSingle g d1 x2 = some (g', rr) → MT l E yX7_readSingle cX7_readSingle 7 (some .boolean) (L) [.ref (aE E 5 0), .ref (aE E 21 d1), .int x2] (cellsC E g ++ wx) (cellsC E g' ++ wx) (some (.int rr))) (C : CX p s m args meth c cX7_readSingle 7 RX7 (some .boolean) E) {l1 : Nat} {l3 : Int32} {l5 : Int32} (hl1 : l1 < 7) {K92 : (STt × Int32) → Option (STt × Int32)} (hK92 : ∀ {g : STt} {l6 : Int32} (r : STt × Int32), K92 (g, l6) = some r → VJ p l e (rmL (L + 1)) s m args below meth c (QE below E (cellsC E r.1 ++ wx) (some (.int r.2)) args s) E 7 (cellsC E g ++ wx) [(1, .ref (aE E 21 l1)), (3, .int l3), (5, .int l5), (6, .int l6)] [] 92) {g : STt} {l6 : Int32} (r : STt × Int32) (h : fX7_readSingle_l92c qX7_readBoth qX7_readEither qX7_readSingle K92 l1 l3 l5 g l6 = some r) : VJ p l e (rmL (L + 1)) s m args below meth c (QE below E (cellsC E r.1 ++ wx) (some (.int r.2)) args s) E 7 (cellsC E g ++ wx) [(1, .ref (aE E 21 l1)), (3, .int l3), (5, .int l5), (6, .int l6)] [] 92 := by
  unfold fX7_readSingle_l92c at h
  refine v_iload C 3 (dk dcX7_readSingle_1 3 rfl) rfl ?_
  refine v_iload_n C 1 (dk dcX7_readSingle_1 4 rfl) rfl rfl ?_
  refine v_icmp_ge C 114 (dk dcX7_readSingle_1 5 rfl) (by decide) (fun c_1 => ?_) (fun c_1 => ?_)
  · replace h := if_t c_1 h
    refine v_iload C 2 (dk dcX7_readSingle_1 13 rfl) rfl ?_
    obtain ⟨b_2, h⟩ := gd_t h
    cases h
    exact v_zret C rfl (nw_boolean b_2) (dk dcX7_readSingle_1 14 rfl)
  · replace h := if_f c_1 h
    refine v_iload C 2 (dk dcX7_readSingle_1 6 rfl) rfl ?_
    refine v_if_eq C 114 (dk dcX7_readSingle_1 7 rfl) (by decide) (fun c_2 => ?_) (fun c_2 => ?_)
    · replace h := if_t c_2 h
      refine v_iload C 2 (dk dcX7_readSingle_1 13 rfl) rfl ?_
      obtain ⟨b_3, h⟩ := gd_t h
      cases h
      exact v_zret C rfl (nw_boolean b_3) (dk dcX7_readSingle_1 14 rfl)
    · replace h := if_f c_2 h
      refine v_aload_n C 0 (dk dcX7_readSingle_1 8 rfl) rfl rfl ?_
      refine v_iconst C (-1) (dk dcX7_readSingle_1 9 rfl) ki_m1 ?_
      obtain ⟨g_4, h_3, h⟩ := bnd1_s h
      refine v_callV0 C (mtX2_addCode (L - 1) (by omega) hl1 h_3) wmX2_addCode wd_630 (by omega) (by decide) rfl _ (ce_Law hl1) rfl rfl (Nat.le_of_ble_eq_true rfl) (dk dcX7_readSingle_1 10 rfl) ?_
      refine v_iinc C (lv' := [(6, .int (l6 + 1)), (1, .ref (aE E 21 l1)), (3, .int l3), (5, .int l5)]) (l6 + 1) 3 (dk dcX7_readSingle_1 11 rfl) rfl (congrArg (fun z => l6 + z) ki_1) (by decide) rfl ?_
      refine v_goto C 92 (dk dcX7_readSingle_1 12 rfl) (by decide) ?_
      exact vj_sub [1, 2, 3, 0] rfl (hK92 _ h)
set_option maxRecDepth 20000 in
set_option maxHeartbeats 4000000 in
theorem vX7_readSingle_l92 {L : Nat} (hL : 8 ≤ L) {qX7_readBoth : STt → Nat → Int32 → Option (STt × Int32)} {qX7_readEither : STt → Nat → Int32 → Option (STt × Int32)} {qX7_readSingle : STt → Nat → Int32 → Option (STt × Int32)} (hcX7_readBoth : ∀ {g : STt} {d1 : Nat} (hd1 : d1 < 7) {x2 : Int32} {g' : STt} {rr : Int32}, qX7_readBoth g d1 x2 = some (g', rr) → MT l E yX7_readBoth cX7_readBoth 5 (some .boolean) (L) [.ref (aE E 5 0), .ref (aE E 21 d1), .int x2] (cellsC E g ++ wx) (cellsC E g' ++ wx) (some (.int rr))) (hcX7_readEither : ∀ {g : STt} {d1 : Nat} (hd1 : d1 < 7) {x2 : Int32} {g' : STt} {rr : Int32}, qX7_readEither g d1 x2 = some (g', rr) → MT l E yX7_readEither cX7_readEither 5 (some .boolean) (L) [.ref (aE E 5 0), .ref (aE E 21 d1), .int x2] (cellsC E g ++ wx) (cellsC E g' ++ wx) (some (.int rr))) (hcX7_readSingle : ∀ {g : STt} {d1 : Nat} (hd1 : d1 < 7) {x2 : Int32} {g' : STt} {rr : Int32}, qX7_readSingle g d1 x2 = some (g', rr) → MT l E yX7_readSingle cX7_readSingle 7 (some .boolean) (L) [.ref (aE E 5 0), .ref (aE E 21 d1), .int x2] (cellsC E g ++ wx) (cellsC E g' ++ wx) (some (.int rr))) (C : CX p s m args meth c cX7_readSingle 7 RX7 (some .boolean) E) {l1 : Nat} {l3 : Int32} {l5 : Int32} (hl1 : l1 < 7) {g : STt} {l6 : Int32} (r : STt × Int32) (h : fX7_readSingle_l92 qX7_readBoth qX7_readEither qX7_readSingle l1 l3 l5 g l6 = some r) : VJ p l e (rmL (L + 1)) s m args below meth c (QE below E (cellsC E r.1 ++ wx) (some (.int r.2)) args s) E 7 (cellsC E g ++ wx) [(1, .ref (aE E 21 l1)), (3, .int l3), (5, .int l5), (6, .int l6)] [] 92 :=
  iterO_ind (F := fun K z => fX7_readSingle_l92c qX7_readBoth qX7_readEither qX7_readSingle K l1 l3 l5 z.1 z.2) (fun z r => VJ p l e (rmL (L + 1)) s m args below meth c (QE below E (cellsC E r.1 ++ wx) (some (.int r.2)) args s) E 7 (cellsC E z.1 ++ wx) [(1, .ref (aE E 21 l1)), (3, .int l3), (5, .int l5), (6, .int z.2)] [] 92) (fun K hK z r h => vX7_readSingle_l92c hL hcX7_readBoth hcX7_readEither hcX7_readSingle C hl1 (fun {g} {l6} r h => hK (g, l6) r h) r h) fuelN (g, l6) r h
set_option maxRecDepth 20000 in
set_option maxHeartbeats 4000000 in
theorem vX7_readSingle_j87 {L : Nat} (hL : 8 ≤ L) {qX7_readBoth : STt → Nat → Int32 → Option (STt × Int32)} {qX7_readEither : STt → Nat → Int32 → Option (STt × Int32)} {qX7_readSingle : STt → Nat → Int32 → Option (STt × Int32)} (hcX7_readBoth : ∀ {g : STt} {d1 : Nat} (hd1 : d1 < 7) {x2 : Int32} {g' : STt} {rr : Int32}, qX7_readBoth g d1 x2 = some (g', rr) → MT l E yX7_readBoth cX7_readBoth 5 (some .boolean) (L) [.ref (aE E 5 0), .ref (aE E 21 d1), .int x2] (cellsC E g ++ wx) (cellsC E g' ++ wx) (some (.int rr))) (hcX7_readEither : ∀ {g : STt} {d1 : Nat} (hd1 : d1 < 7) {x2 : Int32} {g' : STt} {rr : Int32}, qX7_readEither g d1 x2 = some (g', rr) → MT l E yX7_readEither cX7_readEither 5 (some .boolean) (L) [.ref (aE E 5 0), .ref (aE E 21 d1), .int x2] (cellsC E g ++ wx) (cellsC E g' ++ wx) (some (.int rr))) (hcX7_readSingle : ∀ {g : STt} {d1 : Nat} (hd1 : d1 < 7) {x2 : Int32} {g' : STt} {rr : Int32}, qX7_readSingle g d1 x2 = some (g', rr) → MT l E yX7_readSingle cX7_readSingle 7 (some .boolean) (L) [.ref (aE E 5 0), .ref (aE E 21 d1), .int x2] (cellsC E g ++ wx) (cellsC E g' ++ wx) (some (.int rr))) (C : CX p s m args meth c cX7_readSingle 7 RX7 (some .boolean) E) {g : STt} {l1 : Nat} {l3 : Int32} {s0 : Int32} (hl1 : l1 < 7) (r : STt × Int32) (h : fX7_readSingle_j87 qX7_readBoth qX7_readEither qX7_readSingle g l1 l3 s0 = some r) : VJ p l e (rmL (L + 1)) s m args below meth c (QE below E (cellsC E r.1 ++ wx) (some (.int r.2)) args s) E 7 (cellsC E g ++ wx) [(1, .ref (aE E 21 l1)), (3, .int l3)] [.int s0] 87 := by
  unfold fX7_readSingle_j87 at h
  refine v_istore C (lv' := [(5, .int s0), (1, .ref (aE E 21 l1)), (3, .int l3)]) (dk dcX7_readSingle_1 0 rfl) (by decide) rfl ?_
  refine v_iconst C 0 (dk dcX7_readSingle_1 1 rfl) ki_0 ?_
  refine v_istore C (lv' := [(6, .int 0), (5, .int s0), (1, .ref (aE E 21 l1)), (3, .int l3)]) (dk dcX7_readSingle_1 2 rfl) (by decide) rfl ?_
  exact vj_sub [2, 3, 1, 0] rfl (vX7_readSingle_l92 hL hcX7_readBoth hcX7_readEither hcX7_readSingle C hl1 _ h)
set_option maxRecDepth 20000 in
set_option maxHeartbeats 4000000 in
theorem vX7_readSingle_j78 {L : Nat} (hL : 8 ≤ L) {qX7_readBoth : STt → Nat → Int32 → Option (STt × Int32)} {qX7_readEither : STt → Nat → Int32 → Option (STt × Int32)} {qX7_readSingle : STt → Nat → Int32 → Option (STt × Int32)} (hcX7_readBoth : ∀ {g : STt} {d1 : Nat} (hd1 : d1 < 7) {x2 : Int32} {g' : STt} {rr : Int32}, qX7_readBoth g d1 x2 = some (g', rr) → MT l E yX7_readBoth cX7_readBoth 5 (some .boolean) (L) [.ref (aE E 5 0), .ref (aE E 21 d1), .int x2] (cellsC E g ++ wx) (cellsC E g' ++ wx) (some (.int rr))) (hcX7_readEither : ∀ {g : STt} {d1 : Nat} (hd1 : d1 < 7) {x2 : Int32} {g' : STt} {rr : Int32}, qX7_readEither g d1 x2 = some (g', rr) → MT l E yX7_readEither cX7_readEither 5 (some .boolean) (L) [.ref (aE E 5 0), .ref (aE E 21 d1), .int x2] (cellsC E g ++ wx) (cellsC E g' ++ wx) (some (.int rr))) (hcX7_readSingle : ∀ {g : STt} {d1 : Nat} (hd1 : d1 < 7) {x2 : Int32} {g' : STt} {rr : Int32}, qX7_readSingle g d1 x2 = some (g', rr) → MT l E yX7_readSingle cX7_readSingle 7 (some .boolean) (L) [.ref (aE E 5 0), .ref (aE E 21 d1), .int x2] (cellsC E g ++ wx) (cellsC E g' ++ wx) (some (.int rr))) (C : CX p s m args meth c cX7_readSingle 7 RX7 (some .boolean) E) {g : STt} {l1 : Nat} {l3 : Int32} (hl1 : l1 < 7) (r : STt × Int32) (h : fX7_readSingle_j78 qX7_readBoth qX7_readEither qX7_readSingle g l1 l3 = some r) : VJ p l e (rmL (L + 1)) s m args below meth c (QE below E (cellsC E r.1 ++ wx) (some (.int r.2)) args s) E 7 (cellsC E g ++ wx) [(1, .ref (aE E 21 l1)), (3, .int l3)] [] 78 := by
  unfold fX7_readSingle_j78 at h
  refine v_iconst C 0 (dk dcX7_readSingle_0 43 rfl) ki_0 ?_
  refine v_goto C 87 (dk dcX7_readSingle_0 44 rfl) (by decide) ?_
  exact vj_sub [0, 1] rfl (vX7_readSingle_j87 hL hcX7_readBoth hcX7_readEither hcX7_readSingle C hl1 _ h)
set_option maxRecDepth 20000 in
set_option maxHeartbeats 4000000 in
theorem vX7_readSingle_j45 {L : Nat} (hL : 8 ≤ L) {qX7_readBoth : STt → Nat → Int32 → Option (STt × Int32)} {qX7_readEither : STt → Nat → Int32 → Option (STt × Int32)} {qX7_readSingle : STt → Nat → Int32 → Option (STt × Int32)} (hcX7_readBoth : ∀ {g : STt} {d1 : Nat} (hd1 : d1 < 7) {x2 : Int32} {g' : STt} {rr : Int32}, qX7_readBoth g d1 x2 = some (g', rr) → MT l E yX7_readBoth cX7_readBoth 5 (some .boolean) (L) [.ref (aE E 5 0), .ref (aE E 21 d1), .int x2] (cellsC E g ++ wx) (cellsC E g' ++ wx) (some (.int rr))) (hcX7_readEither : ∀ {g : STt} {d1 : Nat} (hd1 : d1 < 7) {x2 : Int32} {g' : STt} {rr : Int32}, qX7_readEither g d1 x2 = some (g', rr) → MT l E yX7_readEither cX7_readEither 5 (some .boolean) (L) [.ref (aE E 5 0), .ref (aE E 21 d1), .int x2] (cellsC E g ++ wx) (cellsC E g' ++ wx) (some (.int rr))) (hcX7_readSingle : ∀ {g : STt} {d1 : Nat} (hd1 : d1 < 7) {x2 : Int32} {g' : STt} {rr : Int32}, qX7_readSingle g d1 x2 = some (g', rr) → MT l E yX7_readSingle cX7_readSingle 7 (some .boolean) (L) [.ref (aE E 5 0), .ref (aE E 21 d1), .int x2] (cellsC E g ++ wx) (cellsC E g' ++ wx) (some (.int rr))) (C : CX p s m args meth c cX7_readSingle 7 RX7 (some .boolean) E) {g : STt} {l1 : Nat} {l2 : Int32} {l3 : Int32} {s0 : Int32} (hl1 : l1 < 7) (r : STt × Int32) (h : fX7_readSingle_j45 qX7_readBoth qX7_readEither qX7_readSingle g l1 l2 l3 s0 = some r) : VJ p l e (rmL (L + 1)) s m args below meth c (QE below E (cellsC E r.1 ++ wx) (some (.int r.2)) args s) E 7 (cellsC E g ++ wx) [(0, .ref (aE E 5 0)), (1, .ref (aE E 21 l1)), (2, .int l2), (3, .int l3)] [.int s0] 45 := by
  unfold fX7_readSingle_j45 at h
  refine v_istore C (lv' := [(4, .int s0), (0, .ref (aE E 5 0)), (1, .ref (aE E 21 l1)), (2, .int l2), (3, .int l3)]) (dk dcX7_readSingle_0 25 rfl) (by decide) rfl ?_
  refine v_iload C 0 (dk dcX7_readSingle_0 26 rfl) rfl ?_
  refine v_if_eq C 82 (dk dcX7_readSingle_0 27 rfl) (by decide) (fun c_1 => ?_) (fun c_1 => ?_)
  · replace h := if_t c_1 h
    refine v_aload_n C 1 (dk dcX7_readSingle_0 45 rfl) rfl rfl ?_
    refine v_aload_n C 2 (dk dcX7_readSingle_0 46 rfl) rfl rfl ?_
    obtain ⟨g_3, r_4, h_2, h⟩ := bnd_s h
    refine v_callV1 C (mtX7_readTest (L - 1) (by omega) hl1 h_2) wmX7_readTest wd_560 (by omega) (by decide) rfl _ (ce_Text) rfl rfl (Nat.le_of_ble_eq_true rfl) (dk dcX7_readSingle_0 47 rfl) ?_
    exact vj_sub [2, 4] rfl (vX7_readSingle_j87 hL hcX7_readBoth hcX7_readEither hcX7_readSingle C hl1 _ h)
  · replace h := if_f c_1 h
    refine v_aload_n C 1 (dk dcX7_readSingle_0 28 rfl) rfl rfl ?_
    refine v_aload_n C 2 (dk dcX7_readSingle_0 29 rfl) rfl rfl ?_
    refine v_iload_n C 3 (dk dcX7_readSingle_0 30 rfl) rfl rfl ?_
    refine v_iload_n C 4 (dk dcX7_readSingle_0 31 rfl) rfl rfl ?_
    refine v_iadd C (dk dcX7_readSingle_0 32 rfl) ?_
    refine v_iconst C 1 (dk dcX7_readSingle_0 33 rfl) ki_1 ?_
    refine v_iadd C (dk dcX7_readSingle_0 34 rfl) ?_
    obtain ⟨g_3, r_4, h_2, h⟩ := bnd_s h
    refine v_callV1 C (hcX7_readEither hl1 h_2) wmX7_readEither wd_548 (by omega) (by decide) rfl _ (ce_Text) rfl rfl (Nat.le_of_ble_eq_true rfl) (dk dcX7_readSingle_0 35 rfl) ?_
    refine v_if_eq C 78 (dk dcX7_readSingle_0 36 rfl) (by decide) (fun c_5 => ?_) (fun c_5 => ?_)
    · replace h := if_t c_5 h
      exact vj_sub [2, 4] rfl (vX7_readSingle_j78 hL hcX7_readBoth hcX7_readEither hcX7_readSingle C hl1 _ h)
    · replace h := if_f c_5 h
      refine v_aload_n C 1 (dk dcX7_readSingle_0 37 rfl) rfl rfl ?_
      refine v_bipush C 41 (dk dcX7_readSingle_0 38 rfl) kb_41 ?_
      obtain ⟨g_7, r_8, h_6, h⟩ := bnd_s h
      refine v_callV1 C (mtX7_next (L - 1) (by omega) h_6) wmX7_next wd_536 (by omega) (by decide) rfl _ (ce_Text) rfl rfl (Nat.le_of_ble_eq_true rfl) (dk dcX7_readSingle_0 39 rfl) ?_
      refine v_if_eq C 78 (dk dcX7_readSingle_0 40 rfl) (by decide) (fun c_9 => ?_) (fun c_9 => ?_)
      · replace h := if_t c_9 h
        exact vj_sub [2, 4] rfl (vX7_readSingle_j78 hL hcX7_readBoth hcX7_readEither hcX7_readSingle C hl1 _ h)
      · replace h := if_f c_9 h
        refine v_iconst C 1 (dk dcX7_readSingle_0 41 rfl) ki_1 ?_
        refine v_goto C 87 (dk dcX7_readSingle_0 42 rfl) (by decide) ?_
        exact vj_sub [2, 4] rfl (vX7_readSingle_j87 hL hcX7_readBoth hcX7_readEither hcX7_readSingle C hl1 _ h)
set_option maxRecDepth 20000 in
set_option maxHeartbeats 4000000 in
theorem vX7_readSingle_j44 {L : Nat} (hL : 8 ≤ L) {qX7_readBoth : STt → Nat → Int32 → Option (STt × Int32)} {qX7_readEither : STt → Nat → Int32 → Option (STt × Int32)} {qX7_readSingle : STt → Nat → Int32 → Option (STt × Int32)} (hcX7_readBoth : ∀ {g : STt} {d1 : Nat} (hd1 : d1 < 7) {x2 : Int32} {g' : STt} {rr : Int32}, qX7_readBoth g d1 x2 = some (g', rr) → MT l E yX7_readBoth cX7_readBoth 5 (some .boolean) (L) [.ref (aE E 5 0), .ref (aE E 21 d1), .int x2] (cellsC E g ++ wx) (cellsC E g' ++ wx) (some (.int rr))) (hcX7_readEither : ∀ {g : STt} {d1 : Nat} (hd1 : d1 < 7) {x2 : Int32} {g' : STt} {rr : Int32}, qX7_readEither g d1 x2 = some (g', rr) → MT l E yX7_readEither cX7_readEither 5 (some .boolean) (L) [.ref (aE E 5 0), .ref (aE E 21 d1), .int x2] (cellsC E g ++ wx) (cellsC E g' ++ wx) (some (.int rr))) (hcX7_readSingle : ∀ {g : STt} {d1 : Nat} (hd1 : d1 < 7) {x2 : Int32} {g' : STt} {rr : Int32}, qX7_readSingle g d1 x2 = some (g', rr) → MT l E yX7_readSingle cX7_readSingle 7 (some .boolean) (L) [.ref (aE E 5 0), .ref (aE E 21 d1), .int x2] (cellsC E g ++ wx) (cellsC E g' ++ wx) (some (.int rr))) (C : CX p s m args meth c cX7_readSingle 7 RX7 (some .boolean) E) {g : STt} {l1 : Nat} {l2 : Int32} {l3 : Int32} (hl1 : l1 < 7) (r : STt × Int32) (h : fX7_readSingle_j44 qX7_readBoth qX7_readEither qX7_readSingle g l1 l2 l3 = some r) : VJ p l e (rmL (L + 1)) s m args below meth c (QE below E (cellsC E r.1 ++ wx) (some (.int r.2)) args s) E 7 (cellsC E g ++ wx) [(0, .ref (aE E 5 0)), (1, .ref (aE E 21 l1)), (2, .int l2), (3, .int l3)] [] 44 := by
  unfold fX7_readSingle_j44 at h
  refine v_iconst C 0 (dk dcX7_readSingle_0 24 rfl) ki_0 ?_
  exact vj_sub [0, 1, 2, 3] rfl (vX7_readSingle_j45 hL hcX7_readBoth hcX7_readEither hcX7_readSingle C hl1 _ h)
set_option maxRecDepth 20000 in
set_option maxHeartbeats 4000000 in
theorem vX7_readSingle_j24 {L : Nat} (hL : 8 ≤ L) {qX7_readBoth : STt → Nat → Int32 → Option (STt × Int32)} {qX7_readEither : STt → Nat → Int32 → Option (STt × Int32)} {qX7_readSingle : STt → Nat → Int32 → Option (STt × Int32)} (hcX7_readBoth : ∀ {g : STt} {d1 : Nat} (hd1 : d1 < 7) {x2 : Int32} {g' : STt} {rr : Int32}, qX7_readBoth g d1 x2 = some (g', rr) → MT l E yX7_readBoth cX7_readBoth 5 (some .boolean) (L) [.ref (aE E 5 0), .ref (aE E 21 d1), .int x2] (cellsC E g ++ wx) (cellsC E g' ++ wx) (some (.int rr))) (hcX7_readEither : ∀ {g : STt} {d1 : Nat} (hd1 : d1 < 7) {x2 : Int32} {g' : STt} {rr : Int32}, qX7_readEither g d1 x2 = some (g', rr) → MT l E yX7_readEither cX7_readEither 5 (some .boolean) (L) [.ref (aE E 5 0), .ref (aE E 21 d1), .int x2] (cellsC E g ++ wx) (cellsC E g' ++ wx) (some (.int rr))) (hcX7_readSingle : ∀ {g : STt} {d1 : Nat} (hd1 : d1 < 7) {x2 : Int32} {g' : STt} {rr : Int32}, qX7_readSingle g d1 x2 = some (g', rr) → MT l E yX7_readSingle cX7_readSingle 7 (some .boolean) (L) [.ref (aE E 5 0), .ref (aE E 21 d1), .int x2] (cellsC E g ++ wx) (cellsC E g' ++ wx) (some (.int rr))) (C : CX p s m args meth c cX7_readSingle 7 RX7 (some .boolean) E) {g : STt} {l1 : Nat} {l2 : Int32} {l3 : Int32} (hl1 : l1 < 7) (r : STt × Int32) (h : fX7_readSingle_j24 qX7_readBoth qX7_readEither qX7_readSingle g l1 l2 l3 = some r) : VJ p l e (rmL (L + 1)) s m args below meth c (QE below E (cellsC E r.1 ++ wx) (some (.int r.2)) args s) E 7 (cellsC E g ++ wx) [(0, .ref (aE E 5 0)), (1, .ref (aE E 21 l1)), (2, .int l2), (3, .int l3)] [] 24 := by
  unfold fX7_readSingle_j24 at h
  refine v_iload_n C 2 (dk dcX7_readSingle_0 13 rfl) rfl rfl ?_
  refine v_iload_n C 3 (dk dcX7_readSingle_0 14 rfl) rfl rfl ?_
  refine v_iadd C (dk dcX7_readSingle_0 15 rfl) ?_
  refine v_iconst C 4 (dk dcX7_readSingle_0 16 rfl) ki_4 ?_
  refine v_icmp_ge C 44 (dk dcX7_readSingle_0 17 rfl) (by decide) (fun c_1 => ?_) (fun c_1 => ?_)
  · replace h := if_t c_1 h
    exact vj_sub [0, 1, 2, 3] rfl (vX7_readSingle_j44 hL hcX7_readBoth hcX7_readEither hcX7_readSingle C hl1 _ h)
  · replace h := if_f c_1 h
    refine v_aload_n C 0 (dk dcX7_readSingle_0 18 rfl) rfl rfl ?_
    refine v_bipush C 40 (dk dcX7_readSingle_0 19 rfl) kb_40 ?_
    obtain ⟨g_3, r_4, h_2, h⟩ := bnd_s h
    refine v_callV1 C (mtX7_next (L - 1) (by omega) h_2) wmX7_next wd_536 (by omega) (by decide) rfl _ (ce_Text) rfl rfl (Nat.le_of_ble_eq_true rfl) (dk dcX7_readSingle_0 20 rfl) ?_
    refine v_if_eq C 44 (dk dcX7_readSingle_0 21 rfl) (by decide) (fun c_5 => ?_) (fun c_5 => ?_)
    · replace h := if_t c_5 h
      exact vj_sub [0, 1, 2, 3] rfl (vX7_readSingle_j44 hL hcX7_readBoth hcX7_readEither hcX7_readSingle C hl1 _ h)
    · replace h := if_f c_5 h
      refine v_iconst C 1 (dk dcX7_readSingle_0 22 rfl) ki_1 ?_
      refine v_goto C 45 (dk dcX7_readSingle_0 23 rfl) (by decide) ?_
      exact vj_sub [0, 1, 2, 3] rfl (vX7_readSingle_j45 hL hcX7_readBoth hcX7_readEither hcX7_readSingle C hl1 _ h)
set_option maxRecDepth 20000 in
set_option maxHeartbeats 4000000 in
theorem vX7_readSingle_l2c {L : Nat} (hL : 8 ≤ L) {qX7_readBoth : STt → Nat → Int32 → Option (STt × Int32)} {qX7_readEither : STt → Nat → Int32 → Option (STt × Int32)} {qX7_readSingle : STt → Nat → Int32 → Option (STt × Int32)} (hcX7_readBoth : ∀ {g : STt} {d1 : Nat} (hd1 : d1 < 7) {x2 : Int32} {g' : STt} {rr : Int32}, qX7_readBoth g d1 x2 = some (g', rr) → MT l E yX7_readBoth cX7_readBoth 5 (some .boolean) (L) [.ref (aE E 5 0), .ref (aE E 21 d1), .int x2] (cellsC E g ++ wx) (cellsC E g' ++ wx) (some (.int rr))) (hcX7_readEither : ∀ {g : STt} {d1 : Nat} (hd1 : d1 < 7) {x2 : Int32} {g' : STt} {rr : Int32}, qX7_readEither g d1 x2 = some (g', rr) → MT l E yX7_readEither cX7_readEither 5 (some .boolean) (L) [.ref (aE E 5 0), .ref (aE E 21 d1), .int x2] (cellsC E g ++ wx) (cellsC E g' ++ wx) (some (.int rr))) (hcX7_readSingle : ∀ {g : STt} {d1 : Nat} (hd1 : d1 < 7) {x2 : Int32} {g' : STt} {rr : Int32}, qX7_readSingle g d1 x2 = some (g', rr) → MT l E yX7_readSingle cX7_readSingle 7 (some .boolean) (L) [.ref (aE E 5 0), .ref (aE E 21 d1), .int x2] (cellsC E g ++ wx) (cellsC E g' ++ wx) (some (.int rr))) (C : CX p s m args meth c cX7_readSingle 7 RX7 (some .boolean) E) {l1 : Nat} {l2 : Int32} (hl1 : l1 < 7) {K2 : (STt × Int32) → Option (STt × Int32)} (hK2 : ∀ {g : STt} {l3 : Int32} (r : STt × Int32), K2 (g, l3) = some r → VJ p l e (rmL (L + 1)) s m args below meth c (QE below E (cellsC E r.1 ++ wx) (some (.int r.2)) args s) E 7 (cellsC E g ++ wx) [(0, .ref (aE E 5 0)), (1, .ref (aE E 21 l1)), (2, .int l2), (3, .int l3)] [] 2) {g : STt} {l3 : Int32} (r : STt × Int32) (h : fX7_readSingle_l2c qX7_readBoth qX7_readEither qX7_readSingle K2 l1 l2 g l3 = some r) : VJ p l e (rmL (L + 1)) s m args below meth c (QE below E (cellsC E r.1 ++ wx) (some (.int r.2)) args s) E 7 (cellsC E g ++ wx) [(0, .ref (aE E 5 0)), (1, .ref (aE E 21 l1)), (2, .int l2), (3, .int l3)] [] 2 := by
  unfold fX7_readSingle_l2c at h
  refine v_iload_n C 2 (dk dcX7_readSingle_0 2 rfl) rfl rfl ?_
  refine v_iload_n C 3 (dk dcX7_readSingle_0 3 rfl) rfl rfl ?_
  refine v_iadd C (dk dcX7_readSingle_0 4 rfl) ?_
  refine v_iconst C 4 (dk dcX7_readSingle_0 5 rfl) ki_4 ?_
  refine v_icmp_ge C 24 (dk dcX7_readSingle_0 6 rfl) (by decide) (fun c_1 => ?_) (fun c_1 => ?_)
  · replace h := if_t c_1 h
    exact vj_sub [0, 1, 2, 3] rfl (vX7_readSingle_j24 hL hcX7_readBoth hcX7_readEither hcX7_readSingle C hl1 _ h)
  · replace h := if_f c_1 h
    refine v_aload_n C 0 (dk dcX7_readSingle_0 7 rfl) rfl rfl ?_
    refine v_bipush C 33 (dk dcX7_readSingle_0 8 rfl) kb_33 ?_
    obtain ⟨g_3, r_4, h_2, h⟩ := bnd_s h
    refine v_callV1 C (mtX7_next (L - 1) (by omega) h_2) wmX7_next wd_536 (by omega) (by decide) rfl _ (ce_Text) rfl rfl (Nat.le_of_ble_eq_true rfl) (dk dcX7_readSingle_0 9 rfl) ?_
    refine v_if_eq C 24 (dk dcX7_readSingle_0 10 rfl) (by decide) (fun c_5 => ?_) (fun c_5 => ?_)
    · replace h := if_t c_5 h
      exact vj_sub [0, 1, 2, 3] rfl (vX7_readSingle_j24 hL hcX7_readBoth hcX7_readEither hcX7_readSingle C hl1 _ h)
    · replace h := if_f c_5 h
      refine v_iinc C (lv' := [(3, .int (l3 + 1)), (0, .ref (aE E 5 0)), (1, .ref (aE E 21 l1)), (2, .int l2)]) (l3 + 1) 3 (dk dcX7_readSingle_0 11 rfl) rfl (congrArg (fun z => l3 + z) ki_1) (by decide) rfl ?_
      refine v_goto C 2 (dk dcX7_readSingle_0 12 rfl) (by decide) ?_
      exact vj_sub [1, 2, 3, 0] rfl (hK2 _ h)
set_option maxRecDepth 20000 in
set_option maxHeartbeats 4000000 in
theorem vX7_readSingle_l2 {L : Nat} (hL : 8 ≤ L) {qX7_readBoth : STt → Nat → Int32 → Option (STt × Int32)} {qX7_readEither : STt → Nat → Int32 → Option (STt × Int32)} {qX7_readSingle : STt → Nat → Int32 → Option (STt × Int32)} (hcX7_readBoth : ∀ {g : STt} {d1 : Nat} (hd1 : d1 < 7) {x2 : Int32} {g' : STt} {rr : Int32}, qX7_readBoth g d1 x2 = some (g', rr) → MT l E yX7_readBoth cX7_readBoth 5 (some .boolean) (L) [.ref (aE E 5 0), .ref (aE E 21 d1), .int x2] (cellsC E g ++ wx) (cellsC E g' ++ wx) (some (.int rr))) (hcX7_readEither : ∀ {g : STt} {d1 : Nat} (hd1 : d1 < 7) {x2 : Int32} {g' : STt} {rr : Int32}, qX7_readEither g d1 x2 = some (g', rr) → MT l E yX7_readEither cX7_readEither 5 (some .boolean) (L) [.ref (aE E 5 0), .ref (aE E 21 d1), .int x2] (cellsC E g ++ wx) (cellsC E g' ++ wx) (some (.int rr))) (hcX7_readSingle : ∀ {g : STt} {d1 : Nat} (hd1 : d1 < 7) {x2 : Int32} {g' : STt} {rr : Int32}, qX7_readSingle g d1 x2 = some (g', rr) → MT l E yX7_readSingle cX7_readSingle 7 (some .boolean) (L) [.ref (aE E 5 0), .ref (aE E 21 d1), .int x2] (cellsC E g ++ wx) (cellsC E g' ++ wx) (some (.int rr))) (C : CX p s m args meth c cX7_readSingle 7 RX7 (some .boolean) E) {l1 : Nat} {l2 : Int32} (hl1 : l1 < 7) {g : STt} {l3 : Int32} (r : STt × Int32) (h : fX7_readSingle_l2 qX7_readBoth qX7_readEither qX7_readSingle l1 l2 g l3 = some r) : VJ p l e (rmL (L + 1)) s m args below meth c (QE below E (cellsC E r.1 ++ wx) (some (.int r.2)) args s) E 7 (cellsC E g ++ wx) [(0, .ref (aE E 5 0)), (1, .ref (aE E 21 l1)), (2, .int l2), (3, .int l3)] [] 2 :=
  iterO_ind (F := fun K z => fX7_readSingle_l2c qX7_readBoth qX7_readEither qX7_readSingle K l1 l2 z.1 z.2) (fun z r => VJ p l e (rmL (L + 1)) s m args below meth c (QE below E (cellsC E r.1 ++ wx) (some (.int r.2)) args s) E 7 (cellsC E z.1 ++ wx) [(0, .ref (aE E 5 0)), (1, .ref (aE E 21 l1)), (2, .int l2), (3, .int z.2)] [] 2) (fun K hK z r h => vX7_readSingle_l2c hL hcX7_readBoth hcX7_readEither hcX7_readSingle C hl1 (fun {g} {l3} r h => hK (g, l3) r h) r h) fuelN (g, l3) r h
set_option maxRecDepth 20000 in
set_option maxHeartbeats 4000000 in
theorem moX7_readSingle {l : Launch} {E : WEt} {wx : va_W} (L : Nat) (hL : 8 ≤ L) {qX7_readBoth : STt → Nat → Int32 → Option (STt × Int32)} {qX7_readEither : STt → Nat → Int32 → Option (STt × Int32)} {qX7_readSingle : STt → Nat → Int32 → Option (STt × Int32)} (hcX7_readBoth : ∀ {g : STt} {d1 : Nat} (hd1 : d1 < 7) {x2 : Int32} {g' : STt} {rr : Int32}, qX7_readBoth g d1 x2 = some (g', rr) → MT l E yX7_readBoth cX7_readBoth 5 (some .boolean) (L) [.ref (aE E 5 0), .ref (aE E 21 d1), .int x2] (cellsC E g ++ wx) (cellsC E g' ++ wx) (some (.int rr))) (hcX7_readEither : ∀ {g : STt} {d1 : Nat} (hd1 : d1 < 7) {x2 : Int32} {g' : STt} {rr : Int32}, qX7_readEither g d1 x2 = some (g', rr) → MT l E yX7_readEither cX7_readEither 5 (some .boolean) (L) [.ref (aE E 5 0), .ref (aE E 21 d1), .int x2] (cellsC E g ++ wx) (cellsC E g' ++ wx) (some (.int rr))) (hcX7_readSingle : ∀ {g : STt} {d1 : Nat} (hd1 : d1 < 7) {x2 : Int32} {g' : STt} {rr : Int32}, qX7_readSingle g d1 x2 = some (g', rr) → MT l E yX7_readSingle cX7_readSingle 7 (some .boolean) (L) [.ref (aE E 5 0), .ref (aE E 21 d1), .int x2] (cellsC E g ++ wx) (cellsC E g' ++ wx) (some (.int rr)))  {g : STt} {d1 : Nat} (hd1 : d1 < 7) {x2 : Int32} {g' : STt} {rr : Int32} (h : FX7_readSingle qX7_readBoth qX7_readEither qX7_readSingle g d1 x2 = some (g', rr)) : MT l E yX7_readSingle cX7_readSingle 7 (some .boolean) (L + 1) [.ref (aE E 5 0), .ref (aE E 21 d1), .int x2] (cellsC E g ++ wx) (cellsC E g' ++ wx) (some (.int rr)) := by
  refine mt_of (by decide +kernel) (Nat.le_of_ble_eq_true rfl) ?_
  intro p e s m args below meth c C
  replace C : CX p s m args meth c cX7_readSingle 7 RX7 (some .boolean) E := C
  unfold FX7_readSingle at h
  refine vj_sub (lv' := [(0, .ref (aE E 5 0)), (1, .ref (aE E 21 d1)), (2, .int x2)]) [0, 1, 2] rfl ?_
  refine v_iconst C 0 (dk dcX7_readSingle_0 0 rfl) ki_0 ?_
  refine v_istore_n C (lv' := [(3, .int 0), (0, .ref (aE E 5 0)), (1, .ref (aE E 21 d1)), (2, .int x2)]) (dk dcX7_readSingle_0 1 rfl) rfl (by decide) rfl ?_
  exact vj_sub [1, 2, 3, 0] rfl (vX7_readSingle_l2 hL hcX7_readBoth hcX7_readEither hcX7_readSingle C hd1 _ h)
set_option maxRecDepth 20000 in
set_option maxHeartbeats 4000000 in
theorem mgX7_readBoth {l : Launch} {E : WEt} {wx : va_W} : ∀ (n L : Nat), 8 ≤ L → (∀ {g : STt} {d1 : Nat} (hd1 : d1 < 7) {x2 : Int32} {g' : STt} {rr : Int32}, (RGX7_readBoth n).1 g d1 x2 = some (g', rr) → MT l E yX7_readBoth cX7_readBoth 5 (some .boolean) (L + n) [.ref (aE E 5 0), .ref (aE E 21 d1), .int x2] (cellsC E g ++ wx) (cellsC E g' ++ wx) (some (.int rr))) ∧ (∀ {g : STt} {d1 : Nat} (hd1 : d1 < 7) {x2 : Int32} {g' : STt} {rr : Int32}, (RGX7_readBoth n).2.1 g d1 x2 = some (g', rr) → MT l E yX7_readEither cX7_readEither 5 (some .boolean) (L + n) [.ref (aE E 5 0), .ref (aE E 21 d1), .int x2] (cellsC E g ++ wx) (cellsC E g' ++ wx) (some (.int rr))) ∧ (∀ {g : STt} {d1 : Nat} (hd1 : d1 < 7) {x2 : Int32} {g' : STt} {rr : Int32}, (RGX7_readBoth n).2.2 g d1 x2 = some (g', rr) → MT l E yX7_readSingle cX7_readSingle 7 (some .boolean) (L + n) [.ref (aE E 5 0), .ref (aE E 21 d1), .int x2] (cellsC E g ++ wx) (cellsC E g' ++ wx) (some (.int rr))) := by
  intro n
  induction n with
  | zero => intro L hL; exact ⟨(by intros; rename_i h; cases h), (by intros; rename_i h; cases h), (by intros; rename_i h; cases h)⟩
  | succ n ih =>
    intro L hL
    obtain ⟨i0, i1, i2⟩ := ih L hL
    exact ⟨fun {_} {_} h2 {_} {_} {_} h => moX7_readBoth (L + n) (by omega) i0 i1 i2 h2 h, fun {_} {_} h2 {_} {_} {_} h => moX7_readEither (L + n) (by omega) i0 i1 i2 h2 h, fun {_} {_} h2 {_} {_} {_} h => moX7_readSingle (L + n) (by omega) i0 i1 i2 h2 h⟩
set_option maxRecDepth 20000 in
set_option maxHeartbeats 4000000 in
theorem mtX7_readBoth {l : Launch} {E : WEt} {wx : va_W} (L : Nat) (hL : 48 ≤ L) {g : STt} {d1 : Nat} (hd1 : d1 < 7) {x2 : Int32} {g' : STt} {rr : Int32} (h : fX7_readBoth fuelX7_readBoth g d1 x2 = some (g', rr)) : MT l E yX7_readBoth cX7_readBoth 5 (some .boolean) (L + 1) [.ref (aE E 5 0), .ref (aE E 21 d1), .int x2] (cellsC E g ++ wx) (cellsC E g' ++ wx) (some (.int rr)) := by
  have e : L + 1 = (L + 1 - fuelX7_readBoth) + fuelX7_readBoth := by show L + 1 = (L + 1 - 40) + 40; omega
  rw [e]
  exact (mgX7_readBoth fuelX7_readBoth (L + 1 - fuelX7_readBoth) (by show 8 ≤ L + 1 - 40; omega)).1 hd1 h
set_option maxRecDepth 20000 in
set_option maxHeartbeats 4000000 in
theorem mtX7_readEither {l : Launch} {E : WEt} {wx : va_W} (L : Nat) (hL : 48 ≤ L) {g : STt} {d1 : Nat} (hd1 : d1 < 7) {x2 : Int32} {g' : STt} {rr : Int32} (h : fX7_readEither fuelX7_readBoth g d1 x2 = some (g', rr)) : MT l E yX7_readEither cX7_readEither 5 (some .boolean) (L + 1) [.ref (aE E 5 0), .ref (aE E 21 d1), .int x2] (cellsC E g ++ wx) (cellsC E g' ++ wx) (some (.int rr)) := by
  have e : L + 1 = (L + 1 - fuelX7_readBoth) + fuelX7_readBoth := by show L + 1 = (L + 1 - 40) + 40; omega
  rw [e]
  exact (mgX7_readBoth fuelX7_readBoth (L + 1 - fuelX7_readBoth) (by show 8 ≤ L + 1 - 40; omega)).2.1 hd1 h
set_option maxRecDepth 20000 in
set_option maxHeartbeats 4000000 in
theorem mtX7_readSingle {l : Launch} {E : WEt} {wx : va_W} (L : Nat) (hL : 48 ≤ L) {g : STt} {d1 : Nat} (hd1 : d1 < 7) {x2 : Int32} {g' : STt} {rr : Int32} (h : fX7_readSingle fuelX7_readBoth g d1 x2 = some (g', rr)) : MT l E yX7_readSingle cX7_readSingle 7 (some .boolean) (L + 1) [.ref (aE E 5 0), .ref (aE E 21 d1), .int x2] (cellsC E g ++ wx) (cellsC E g' ++ wx) (some (.int rr)) := by
  have e : L + 1 = (L + 1 - fuelX7_readBoth) + fuelX7_readBoth := by show L + 1 = (L + 1 - 40) + 40; omega
  rw [e]
  exact (mgX7_readBoth fuelX7_readBoth (L + 1 - fuelX7_readBoth) (by show 8 ≤ L + 1 - 40; omega)).2.2 hd1 h
end MS
