section MS
variable {p : Program} {l : Launch} {e : Env} {s : State} {m : MethodId} {args : Array Value} {below : List Frame} {meth : Method} {c : Code} {E : WEt} {wx : va_W}
set_option maxRecDepth 20000 in
set_option maxHeartbeats 4000000 in
theorem mtX10_isAct {l : Launch} {E : WEt} {wx : va_W} (L : Nat) (hL : 2 ≤ L)  {g : STt} {x0 : Int32} {rr : Int32} (h : fX10_isAct g x0 = some rr) : MT l E yX10_isAct cX10_isAct 1 (some .boolean) (L + 1) [.int x0] (cellsC E g ++ wx) (cellsC E g ++ wx) (some (.int rr)) := by
  refine mt_of (by decide +kernel) (Nat.le_of_ble_eq_true rfl) ?_
  intro p e s m args below meth c C
  replace C : CX p s m args meth c cX10_isAct 1 RX10 (some .boolean) E := C
  unfold fX10_isAct at h
  refine vj_sub (lv' := [(0, .int x0)]) [0] rfl ?_
  refine v_iload_n C 0 (dk dcX10_isAct_0 0 rfl) rfl rfl ?_
  refine v_if_lt C 14 (dk dcX10_isAct_0 1 rfl) (by decide) (fun c_1 => ?_) (fun c_1 => ?_)
  · replace h := if_t c_1 h
    refine v_iconst C 0 (dk dcX10_isAct_0 7 rfl) ki_0 ?_
    cases h
    exact v_zret C (x := 0) rfl rfl (dk dcX10_isAct_0 8 rfl)
  · replace h := if_f c_1 h
    refine v_iload_n C 0 (dk dcX10_isAct_0 2 rfl) rfl rfl ?_
    refine v_bipush C 7 (dk dcX10_isAct_0 3 rfl) kb_7 ?_
    refine v_icmp_gt C 14 (dk dcX10_isAct_0 4 rfl) (by decide) (fun c_2 => ?_) (fun c_2 => ?_)
    · replace h := if_t c_2 h
      refine v_iconst C 0 (dk dcX10_isAct_0 7 rfl) ki_0 ?_
      cases h
      exact v_zret C (x := 0) rfl rfl (dk dcX10_isAct_0 8 rfl)
    · replace h := if_f c_2 h
      refine v_iconst C 1 (dk dcX10_isAct_0 5 rfl) ki_1 ?_
      refine v_goto C 15 (dk dcX10_isAct_0 6 rfl) (by decide) ?_
      cases h
      exact v_zret C (x := 1) rfl rfl (dk dcX10_isAct_0 8 rfl)
set_option maxRecDepth 20000 in
set_option maxHeartbeats 4000000 in
theorem mtX9_doneBy {l : Launch} {E : WEt} {wx : va_W} (L : Nat) (hL : 2 ≤ L)  {g : STt} {x0 : Int32} {rr : Int32} (h : fX9_doneBy g x0 = some rr) : MT l E yX9_doneBy cX9_doneBy 1 (some .int) (L + 1) [.int x0] (cellsC E g ++ wx) (cellsC E g ++ wx) (some (.int rr)) := by
  refine mt_of (by decide +kernel) (Nat.le_of_ble_eq_true rfl) ?_
  intro p e s m args below meth c C
  replace C : CX p s m args meth c cX9_doneBy 1 RX9 (some .int) E := C
  unfold fX9_doneBy at h
  refine vj_sub (lv' := [(0, .int x0)]) [0] rfl ?_
  refine v_iload_n C 0 (dk dcX9_doneBy_0 0 rfl) rfl rfl ?_
  refine v_if_le C 6 (dk dcX9_doneBy_0 1 rfl) (by decide) (fun c_1 => ?_) (fun c_1 => ?_)
  · replace h := if_t c_1 h
    refine v_iload_n C 0 (dk dcX9_doneBy_0 4 rfl) rfl rfl ?_
    refine v_bipush C (-14) (dk dcX9_doneBy_0 5 rfl) kb_m14 ?_
    refine v_icmp_lt C 14 (dk dcX9_doneBy_0 6 rfl) (by decide) (fun c_2 => ?_) (fun c_2 => ?_)
    · replace h := if_t c_2 h
      refine v_iload_n C 0 (dk dcX9_doneBy_0 9 rfl) rfl rfl ?_
      refine v_bipush C (-39) (dk dcX9_doneBy_0 10 rfl) kb_m39 ?_
      refine v_icmp_lt C 24 (dk dcX9_doneBy_0 11 rfl) (by decide) (fun c_3 => ?_) (fun c_3 => ?_)
      · replace h := if_t c_3 h
        refine v_iconst C 3 (dk dcX9_doneBy_0 14 rfl) ki_3 ?_
        cases h
        exact v_iret C rfl (dk dcX9_doneBy_0 15 rfl)
      · replace h := if_f c_3 h
        refine v_iconst C 2 (dk dcX9_doneBy_0 12 rfl) ki_2 ?_
        refine v_goto C 25 (dk dcX9_doneBy_0 13 rfl) (by decide) ?_
        cases h
        exact v_iret C rfl (dk dcX9_doneBy_0 15 rfl)
    · replace h := if_f c_2 h
      refine v_iconst C 0 (dk dcX9_doneBy_0 7 rfl) ki_0 ?_
      cases h
      exact v_iret C rfl (dk dcX9_doneBy_0 8 rfl)
  · replace h := if_f c_1 h
    refine v_iconst C 1 (dk dcX9_doneBy_0 2 rfl) ki_1 ?_
    cases h
    exact v_iret C rfl (dk dcX9_doneBy_0 3 rfl)
set_option maxRecDepth 20000 in
set_option maxHeartbeats 4000000 in
theorem mtX1_get {l : Launch} {E : WEt} {wx : va_W} (L : Nat) (hL : 2 ≤ L)  {g : STt} {d0 : Nat} (hd0 : d0 < 10) {x1 : Int32} {rr : Int32} (h : fX1_get g d0 x1 = some rr) : MT l E yX1_get cX1_get 2 (some .int) (L + 1) [.ref (aE E 19 d0), .int x1] (cellsC E g ++ wx) (cellsC E g ++ wx) (some (.int rr)) := by
  refine mt_of (by decide +kernel) (Nat.le_of_ble_eq_true rfl) ?_
  intro p e s m args below meth c C
  replace C : CX p s m args meth c cX1_get 2 RX1 (some .int) E := C
  unfold fX1_get at h
  refine vj_sub (lv' := [(0, .ref (aE E 19 d0)), (1, .int x1)]) [0, 1] rfl ?_
  refine v_iload_n C 1 (dk dcX1_get_0 0 rfl) rfl rfl ?_
  refine v_if_lt C 22 (dk dcX1_get_0 1 rfl) (by decide) (fun c_1 => ?_) (fun c_1 => ?_)
  · replace h := if_t c_1 h
    refine v_iconst C 0 (dk dcX1_get_0 12 rfl) ki_0 ?_
    cases h
    exact v_iret C rfl (dk dcX1_get_0 13 rfl)
  · replace h := if_f c_1 h
    refine v_iload_n C 1 (dk dcX1_get_0 2 rfl) rfl rfl ?_
    refine v_aload_n C 0 (dk dcX1_get_0 3 rfl) rfl rfl ?_
    refine gt_Donkey_numbers C hd0 wd_219 (dk dcX1_get_0 4 rfl) ?_
    refine al_donkNums C hd0 (dk dcX1_get_0 5 rfl) ?_
    refine v_icmp_ge C 22 (dk dcX1_get_0 6 rfl) (by decide) (fun c_2 => ?_) (fun c_2 => ?_)
    · replace h := if_t c_2 h
      refine v_iconst C 0 (dk dcX1_get_0 12 rfl) ki_0 ?_
      cases h
      exact v_iret C rfl (dk dcX1_get_0 13 rfl)
    · replace h := if_f c_2 h
      refine v_aload_n C 0 (dk dcX1_get_0 7 rfl) rfl rfl ?_
      refine gt_Donkey_numbers C hd0 wd_219 (dk dcX1_get_0 8 rfl) ?_
      refine v_iload_n C 1 (dk dcX1_get_0 9 rfl) rfl rfl ?_
      obtain ⟨b_3, h⟩ := gd_t h
      refine ld_donkNums C hd0 b_3 (dk dcX1_get_0 10 rfl) ?_
      refine v_goto C 23 (dk dcX1_get_0 11 rfl) (by decide) ?_
      cases h
      exact v_iret C rfl (dk dcX1_get_0 13 rfl)
set_option maxRecDepth 20000 in
set_option maxHeartbeats 4000000 in
theorem mtX4_has {l : Launch} {E : WEt} {wx : va_W} (L : Nat) (hL : 2 ≤ L)  {g : STt} {x1 : Int32} {rr : Int32} (h : fX4_has g x1 = some rr) : MT l E yX4_has cX4_has 2 (some .boolean) (L + 1) [.ref (aE E 1 0), .int x1] (cellsC E g ++ wx) (cellsC E g ++ wx) (some (.int rr)) := by
  refine mt_of (by decide +kernel) (Nat.le_of_ble_eq_true rfl) ?_
  intro p e s m args below meth c C
  replace C : CX p s m args meth c cX4_has 2 RX4 (some .boolean) E := C
  unfold fX4_has at h
  refine vj_sub (lv' := [(0, .ref (aE E 1 0)), (1, .int x1)]) [0, 1] rfl ?_
  refine v_iload_n C 1 (dk dcX4_has_0 0 rfl) rfl rfl ?_
  refine v_if_lt C 16 (dk dcX4_has_0 1 rfl) (by decide) (fun c_1 => ?_) (fun c_1 => ?_)
  · replace h := if_t c_1 h
    refine v_iconst C 0 (dk dcX4_has_0 8 rfl) ki_0 ?_
    cases h
    exact v_zret C (x := 0) rfl rfl (dk dcX4_has_0 9 rfl)
  · replace h := if_f c_1 h
    refine v_iload_n C 1 (dk dcX4_has_0 2 rfl) rfl rfl ?_
    refine v_aload_n C 0 (dk dcX4_has_0 3 rfl) rfl rfl ?_
    refine gt_Road_size C wd_114 (dk dcX4_has_0 4 rfl) ?_
    refine v_icmp_ge C 16 (dk dcX4_has_0 5 rfl) (by decide) (fun c_2 => ?_) (fun c_2 => ?_)
    · replace h := if_t c_2 h
      refine v_iconst C 0 (dk dcX4_has_0 8 rfl) ki_0 ?_
      cases h
      exact v_zret C (x := 0) rfl rfl (dk dcX4_has_0 9 rfl)
    · replace h := if_f c_2 h
      refine v_iconst C 1 (dk dcX4_has_0 6 rfl) ki_1 ?_
      refine v_goto C 17 (dk dcX4_has_0 7 rfl) (by decide) ?_
      cases h
      exact v_zret C (x := 1) rfl rfl (dk dcX4_has_0 9 rfl)
set_option maxRecDepth 20000 in
set_option maxHeartbeats 4000000 in
theorem mtX9_isOver {l : Launch} {E : WEt} {wx : va_W} (L : Nat) (hL : 3 ≤ L)  {g : STt} {d1 : Nat} (hd1 : d1 < 10) {rr : Int32} (h : fX9_isOver g d1 = some rr) : MT l E yX9_isOver cX9_isOver 2 (some .boolean) (L + 1) [.ref (aE E 7 0), .ref (aE E 19 d1)] (cellsC E g ++ wx) (cellsC E g ++ wx) (some (.int rr)) := by
  refine mt_of (by decide +kernel) (Nat.le_of_ble_eq_true rfl) ?_
  intro p e s m args below meth c C
  replace C : CX p s m args meth c cX9_isOver 2 RX9 (some .boolean) E := C
  unfold fX9_isOver at h
  refine vj_sub (lv' := [(0, .ref (aE E 7 0)), (1, .ref (aE E 19 d1))]) [0, 1] rfl ?_
  refine v_aload_n C 0 (dk dcX9_isOver_0 0 rfl) rfl rfl ?_
  refine gt_Walk_road C wd_186 (dk dcX9_isOver_0 1 rfl) ?_
  refine v_aload_n C 1 (dk dcX9_isOver_0 2 rfl) rfl rfl ?_
  refine v_bipush C 12 (dk dcX9_isOver_0 3 rfl) kb_12 ?_
  obtain ⟨r_2, h_1, h⟩ := bnd1_s h
  refine v_callV1 C (mtX1_get (L - 1) (by omega) hd1 h_1) wmX1_get wd_667 (by omega) (by decide) rfl _ (ce_Donkey hd1) rfl rfl (Nat.le_of_ble_eq_true rfl) (dk dcX9_isOver_0 4 rfl) ?_
  obtain ⟨r_4, h_3, h⟩ := bnd1_s h
  refine v_callV1 C (mtX4_has (L - 1) (by omega) h_3) wmX4_has wd_668 (by omega) (by decide) rfl _ (ce_Road) rfl rfl (Nat.le_of_ble_eq_true rfl) (dk dcX9_isOver_0 5 rfl) ?_
  refine v_if_ne C 20 (dk dcX9_isOver_0 6 rfl) (by decide) (fun c_5 => ?_) (fun c_5 => ?_)
  · replace h := if_f c_5 h
    refine v_iconst C 0 (dk dcX9_isOver_0 9 rfl) ki_0 ?_
    cases h
    exact v_zret C (x := 0) rfl rfl (dk dcX9_isOver_0 10 rfl)
  · replace h := if_t c_5 h
    refine v_iconst C 1 (dk dcX9_isOver_0 7 rfl) ki_1 ?_
    refine v_goto C 21 (dk dcX9_isOver_0 8 rfl) (by decide) ?_
    cases h
    exact v_zret C (x := 1) rfl rfl (dk dcX9_isOver_0 10 rfl)
set_option maxRecDepth 20000 in
set_option maxHeartbeats 4000000 in
theorem mtX1_sits {l : Launch} {E : WEt} {wx : va_W} (L : Nat) (hL : 2 ≤ L)  {g : STt} {d0 : Nat} (hd0 : d0 < 10) {rr : Int32} (h : fX1_sits g d0 = some rr) : MT l E yX1_sits cX1_sits 1 (some .boolean) (L + 1) [.ref (aE E 19 d0)] (cellsC E g ++ wx) (cellsC E g ++ wx) (some (.int rr)) := by
  refine mt_of (by decide +kernel) (Nat.le_of_ble_eq_true rfl) ?_
  intro p e s m args below meth c C
  replace C : CX p s m args meth c cX1_sits 1 RX1 (some .boolean) E := C
  unfold fX1_sits at h
  refine vj_sub (lv' := [(0, .ref (aE E 19 d0))]) [0] rfl ?_
  refine v_aload_n C 0 (dk dcX1_sits_0 0 rfl) rfl rfl ?_
  refine gt_Donkey_numbers C hd0 wd_219 (dk dcX1_sits_0 1 rfl) ?_
  refine v_bipush C 13 (dk dcX1_sits_0 2 rfl) kb_13 ?_
  obtain ⟨b_1, h⟩ := gd_t h
  refine ld_donkNums C hd0 b_1 (dk dcX1_sits_0 3 rfl) ?_
  refine v_if_eq C 14 (dk dcX1_sits_0 4 rfl) (by decide) (fun c_2 => ?_) (fun c_2 => ?_)
  · replace h := if_t c_2 h
    refine v_iconst C 0 (dk dcX1_sits_0 7 rfl) ki_0 ?_
    cases h
    exact v_zret C (x := 0) rfl rfl (dk dcX1_sits_0 8 rfl)
  · replace h := if_f c_2 h
    refine v_iconst C 1 (dk dcX1_sits_0 5 rfl) ki_1 ?_
    refine v_goto C 15 (dk dcX1_sits_0 6 rfl) (by decide) ?_
    cases h
    exact v_zret C (x := 1) rfl rfl (dk dcX1_sits_0 8 rfl)
set_option maxRecDepth 20000 in
set_option maxHeartbeats 4000000 in
theorem vX2_isTrue_j271 {L : Nat} (hL : 2 ≤ L) (C : CX p s m args meth c cX2_isTrue 13 RX2 (some .boolean) E) {g : STt} {l4 : Int32} (r : Int32) (h : fX2_isTrue_j271 g l4 = some r) : VJ p l e (rmL (L + 1)) s m args below meth c (QE below E (cellsC E g ++ wx) (some (.int r)) args s) E 13 (cellsC E g ++ wx) [(4, .int l4)] [] 271 := by
  unfold fX2_isTrue_j271 at h
  refine v_iload C 0 (dk dcX2_isTrue_3 2 rfl) rfl ?_
  refine v_iconst C 1 (dk dcX2_isTrue_3 3 rfl) ki_1 ?_
  refine v_iand C (dk dcX2_isTrue_3 4 rfl) ?_
  refine v_iconst C 1 (dk dcX2_isTrue_3 5 rfl) ki_1 ?_
  refine v_icmp_ne C 283 (dk dcX2_isTrue_3 6 rfl) (by decide) (fun c_1 => ?_) (fun c_1 => ?_)
  · replace h := if_f c_1 h
    refine v_iconst C 0 (dk dcX2_isTrue_3 9 rfl) ki_0 ?_
    cases h
    exact v_zret C (x := 0) rfl rfl (dk dcX2_isTrue_3 10 rfl)
  · replace h := if_t c_1 h
    refine v_iconst C 1 (dk dcX2_isTrue_3 7 rfl) ki_1 ?_
    refine v_goto C 284 (dk dcX2_isTrue_3 8 rfl) (by decide) ?_
    cases h
    exact v_zret C (x := 1) rfl rfl (dk dcX2_isTrue_3 10 rfl)
set_option maxRecDepth 20000 in
set_option maxHeartbeats 4000000 in
theorem vX2_isTrue_j265 {L : Nat} (hL : 2 ≤ L) (C : CX p s m args meth c cX2_isTrue 13 RX2 (some .boolean) E) {g : STt} {l0 : Nat} {l3 : Int32} {l4 : Int32} {l5 : Int32} (hl0 : l0 < 7) {K57 : (Int32 × Int32) → Option Int32} (hK57 : ∀ {l4 : Int32} {l5 : Int32} (r : Int32), K57 (l4, l5) = some r → VJ p l e (rmL (L + 1)) s m args below meth c (QE below E (cellsC E g ++ wx) (some (.int r)) args s) E 13 (cellsC E g ++ wx) [(0, .ref (aE E 21 l0)), (2, .ref (aE E 8 0)), (3, .int l3), (4, .int l4), (5, .int l5)] [] 57) (r : Int32) (h : fX2_isTrue_j265 K57 g l0 l3 l4 l5 = some r) : VJ p l e (rmL (L + 1)) s m args below meth c (QE below E (cellsC E g ++ wx) (some (.int r)) args s) E 13 (cellsC E g ++ wx) [(0, .ref (aE E 21 l0)), (2, .ref (aE E 8 0)), (3, .int l3), (4, .int l4), (5, .int l5)] [] 265 := by
  unfold fX2_isTrue_j265 at h
  refine v_iinc C (lv' := [(5, .int (l5 + 1)), (0, .ref (aE E 21 l0)), (2, .ref (aE E 8 0)), (3, .int l3), (4, .int l4)]) (l5 + 1) 4 (dk dcX2_isTrue_3 0 rfl) rfl (congrArg (fun z => l5 + z) ki_1) (by decide) rfl ?_
  refine v_goto C 57 (dk dcX2_isTrue_3 1 rfl) (by decide) ?_
  exact vj_sub [1, 2, 3, 4, 0] rfl (hK57 _ h)
set_option maxRecDepth 20000 in
set_option maxHeartbeats 4000000 in
theorem vX2_isTrue_j262 {L : Nat} (hL : 2 ≤ L) (C : CX p s m args meth c cX2_isTrue 13 RX2 (some .boolean) E) {g : STt} {l0 : Nat} {l3 : Int32} {l5 : Int32} {s0 : Int32} {s1 : Int32} (hl0 : l0 < 7) {K57 : (Int32 × Int32) → Option Int32} (hK57 : ∀ {l4 : Int32} {l5 : Int32} (r : Int32), K57 (l4, l5) = some r → VJ p l e (rmL (L + 1)) s m args below meth c (QE below E (cellsC E g ++ wx) (some (.int r)) args s) E 13 (cellsC E g ++ wx) [(0, .ref (aE E 21 l0)), (2, .ref (aE E 8 0)), (3, .int l3), (4, .int l4), (5, .int l5)] [] 57) (r : Int32) (h : fX2_isTrue_j262 K57 g l0 l3 l5 s0 s1 = some r) : VJ p l e (rmL (L + 1)) s m args below meth c (QE below E (cellsC E g ++ wx) (some (.int r)) args s) E 13 (cellsC E g ++ wx) [(0, .ref (aE E 21 l0)), (2, .ref (aE E 8 0)), (3, .int l3), (5, .int l5)] [.int s0, .int s1] 262 := by
  unfold fX2_isTrue_j262 at h
  refine v_ior C (dk dcX2_isTrue_2 46 rfl) ?_
  refine v_istore C (lv' := [(4, .int (s1 ||| s0)), (0, .ref (aE E 21 l0)), (2, .ref (aE E 8 0)), (3, .int l3), (5, .int l5)]) (dk dcX2_isTrue_2 47 rfl) (by decide) rfl ?_
  exact vj_sub [1, 2, 3, 0, 4] rfl (vX2_isTrue_j265 hL C hl0 hK57 _ h)
set_option maxRecDepth 20000 in
set_option maxHeartbeats 4000000 in
theorem vX2_isTrue_j246 {L : Nat} (hL : 2 ≤ L) (C : CX p s m args meth c cX2_isTrue 13 RX2 (some .boolean) E) {g : STt} {l0 : Nat} {l3 : Int32} {l4 : Int32} {l5 : Int32} {s0 : Int32} (hl0 : l0 < 7) {K57 : (Int32 × Int32) → Option Int32} (hK57 : ∀ {l4 : Int32} {l5 : Int32} (r : Int32), K57 (l4, l5) = some r → VJ p l e (rmL (L + 1)) s m args below meth c (QE below E (cellsC E g ++ wx) (some (.int r)) args s) E 13 (cellsC E g ++ wx) [(0, .ref (aE E 21 l0)), (2, .ref (aE E 8 0)), (3, .int l3), (4, .int l4), (5, .int l5)] [] 57) (r : Int32) (h : fX2_isTrue_j246 K57 g l0 l3 l4 l5 s0 = some r) : VJ p l e (rmL (L + 1)) s m args below meth c (QE below E (cellsC E g ++ wx) (some (.int r)) args s) E 13 (cellsC E g ++ wx) [(0, .ref (aE E 21 l0)), (2, .ref (aE E 8 0)), (3, .int l3), (4, .int l4), (5, .int l5)] [.int s0] 246 := by
  unfold fX2_isTrue_j246 at h
  refine v_istore C (lv' := [(12, .int s0), (0, .ref (aE E 21 l0)), (2, .ref (aE E 8 0)), (3, .int l3), (4, .int l4), (5, .int l5)]) (dk dcX2_isTrue_2 37 rfl) (by decide) rfl ?_
  refine v_iload C 4 (dk dcX2_isTrue_2 38 rfl) rfl ?_
  refine v_iconst C 1 (dk dcX2_isTrue_2 39 rfl) ki_1 ?_
  refine v_ishl C (dk dcX2_isTrue_2 40 rfl) ?_
  refine v_iload C 0 (dk dcX2_isTrue_2 41 rfl) rfl ?_
  refine v_if_eq C 261 (dk dcX2_isTrue_2 42 rfl) (by decide) (fun c_1 => ?_) (fun c_1 => ?_)
  · replace h := if_t c_1 h
    refine v_iconst C 0 (dk dcX2_isTrue_2 45 rfl) ki_0 ?_
    exact vj_sub [1, 2, 3, 5] rfl (vX2_isTrue_j262 hL C hl0 hK57 _ h)
  · replace h := if_f c_1 h
    refine v_iconst C 1 (dk dcX2_isTrue_2 43 rfl) ki_1 ?_
    refine v_goto C 262 (dk dcX2_isTrue_2 44 rfl) (by decide) ?_
    exact vj_sub [1, 2, 3, 5] rfl (vX2_isTrue_j262 hL C hl0 hK57 _ h)
set_option maxRecDepth 20000 in
set_option maxHeartbeats 4000000 in
theorem vX2_isTrue_j191 {L : Nat} (hL : 2 ≤ L) (C : CX p s m args meth c cX2_isTrue 13 RX2 (some .boolean) E) {g : STt} {l0 : Nat} {l3 : Int32} {l4 : Int32} {l5 : Int32} {l9 : Int32} {l10 : Int32} {s0 : Int32} (hl0 : l0 < 7) {K57 : (Int32 × Int32) → Option Int32} (hK57 : ∀ {l4 : Int32} {l5 : Int32} (r : Int32), K57 (l4, l5) = some r → VJ p l e (rmL (L + 1)) s m args below meth c (QE below E (cellsC E g ++ wx) (some (.int r)) args s) E 13 (cellsC E g ++ wx) [(0, .ref (aE E 21 l0)), (2, .ref (aE E 8 0)), (3, .int l3), (4, .int l4), (5, .int l5)] [] 57) (r : Int32) (h : fX2_isTrue_j191 K57 g l0 l3 l4 l5 l9 l10 s0 = some r) : VJ p l e (rmL (L + 1)) s m args below meth c (QE below E (cellsC E g ++ wx) (some (.int r)) args s) E 13 (cellsC E g ++ wx) [(0, .ref (aE E 21 l0)), (2, .ref (aE E 8 0)), (3, .int l3), (4, .int l4), (5, .int l5), (9, .int l9), (10, .int l10)] [.int s0] 191 := by
  unfold fX2_isTrue_j191 at h
  refine v_istore C (lv' := [(11, .int s0), (0, .ref (aE E 21 l0)), (2, .ref (aE E 8 0)), (3, .int l3), (4, .int l4), (5, .int l5), (9, .int l9), (10, .int l10)]) (dk dcX2_isTrue_2 11 rfl) (by decide) rfl ?_
  refine v_iload C 6 (dk dcX2_isTrue_2 12 rfl) rfl ?_
  refine v_if_ne C 213 (dk dcX2_isTrue_2 13 rfl) (by decide) (fun c_1 => ?_) (fun c_1 => ?_)
  · replace h := if_f c_1 h
    refine v_iload C 6 (dk dcX2_isTrue_2 21 rfl) rfl ?_
    refine v_iconst C 1 (dk dcX2_isTrue_2 22 rfl) ki_1 ?_
    refine v_icmp_ne C 234 (dk dcX2_isTrue_2 23 rfl) (by decide) (fun c_2 => ?_) (fun c_2 => ?_)
    · replace h := if_f c_2 h
      refine v_iload C 0 (dk dcX2_isTrue_2 31 rfl) rfl ?_
      refine v_iload C 7 (dk dcX2_isTrue_2 32 rfl) rfl ?_
      refine v_icmp_le C 245 (dk dcX2_isTrue_2 33 rfl) (by decide) (fun c_3 => ?_) (fun c_3 => ?_)
      · replace h := if_t c_3 h
        refine v_iconst C 0 (dk dcX2_isTrue_2 36 rfl) ki_0 ?_
        exact vj_sub [1, 2, 3, 4, 5] rfl (vX2_isTrue_j246 hL C hl0 hK57 _ h)
      · replace h := if_f c_3 h
        refine v_iconst C 1 (dk dcX2_isTrue_2 34 rfl) ki_1 ?_
        refine v_goto C 246 (dk dcX2_isTrue_2 35 rfl) (by decide) ?_
        exact vj_sub [1, 2, 3, 4, 5] rfl (vX2_isTrue_j246 hL C hl0 hK57 _ h)
    · replace h := if_t c_2 h
      refine v_iload C 0 (dk dcX2_isTrue_2 24 rfl) rfl ?_
      refine v_iload C 7 (dk dcX2_isTrue_2 25 rfl) rfl ?_
      refine v_icmp_ne C 230 (dk dcX2_isTrue_2 26 rfl) (by decide) (fun c_3 => ?_) (fun c_3 => ?_)
      · replace h := if_f c_3 h
        refine v_iconst C 0 (dk dcX2_isTrue_2 29 rfl) ki_0 ?_
        refine v_goto C 246 (dk dcX2_isTrue_2 30 rfl) (by decide) ?_
        exact vj_sub [1, 2, 3, 4, 5] rfl (vX2_isTrue_j246 hL C hl0 hK57 _ h)
      · replace h := if_t c_3 h
        refine v_iconst C 1 (dk dcX2_isTrue_2 27 rfl) ki_1 ?_
        refine v_goto C 246 (dk dcX2_isTrue_2 28 rfl) (by decide) ?_
        exact vj_sub [1, 2, 3, 4, 5] rfl (vX2_isTrue_j246 hL C hl0 hK57 _ h)
  · replace h := if_t c_1 h
    refine v_iload C 0 (dk dcX2_isTrue_2 14 rfl) rfl ?_
    refine v_iload C 7 (dk dcX2_isTrue_2 15 rfl) rfl ?_
    refine v_icmp_ge C 209 (dk dcX2_isTrue_2 16 rfl) (by decide) (fun c_2 => ?_) (fun c_2 => ?_)
    · replace h := if_t c_2 h
      refine v_iconst C 0 (dk dcX2_isTrue_2 19 rfl) ki_0 ?_
      refine v_goto C 246 (dk dcX2_isTrue_2 20 rfl) (by decide) ?_
      exact vj_sub [1, 2, 3, 4, 5] rfl (vX2_isTrue_j246 hL C hl0 hK57 _ h)
    · replace h := if_f c_2 h
      refine v_iconst C 1 (dk dcX2_isTrue_2 17 rfl) ki_1 ?_
      refine v_goto C 246 (dk dcX2_isTrue_2 18 rfl) (by decide) ?_
      exact vj_sub [1, 2, 3, 4, 5] rfl (vX2_isTrue_j246 hL C hl0 hK57 _ h)
set_option maxRecDepth 20000 in
set_option maxHeartbeats 4000000 in
theorem vX2_isTrue_j190 {L : Nat} (hL : 2 ≤ L) (C : CX p s m args meth c cX2_isTrue 13 RX2 (some .boolean) E) {g : STt} {l0 : Nat} {l3 : Int32} {l4 : Int32} {l5 : Int32} {l9 : Int32} {l10 : Int32} (hl0 : l0 < 7) {K57 : (Int32 × Int32) → Option Int32} (hK57 : ∀ {l4 : Int32} {l5 : Int32} (r : Int32), K57 (l4, l5) = some r → VJ p l e (rmL (L + 1)) s m args below meth c (QE below E (cellsC E g ++ wx) (some (.int r)) args s) E 13 (cellsC E g ++ wx) [(0, .ref (aE E 21 l0)), (2, .ref (aE E 8 0)), (3, .int l3), (4, .int l4), (5, .int l5)] [] 57) (r : Int32) (h : fX2_isTrue_j190 K57 g l0 l3 l4 l5 l9 l10 = some r) : VJ p l e (rmL (L + 1)) s m args below meth c (QE below E (cellsC E g ++ wx) (some (.int r)) args s) E 13 (cellsC E g ++ wx) [(0, .ref (aE E 21 l0)), (2, .ref (aE E 8 0)), (3, .int l3), (4, .int l4), (5, .int l5), (9, .int l9), (10, .int l10)] [] 190 := by
  unfold fX2_isTrue_j190 at h
  refine v_iconst C 0 (dk dcX2_isTrue_2 10 rfl) ki_0 ?_
  exact vj_sub [0, 1, 2, 3, 4, 5, 6] rfl (vX2_isTrue_j191 hL C hl0 hK57 _ h)
set_option maxRecDepth 20000 in
set_option maxHeartbeats 4000000 in
theorem vX2_isTrue_l57c {L : Nat} (hL : 2 ≤ L) (C : CX p s m args meth c cX2_isTrue 13 RX2 (some .boolean) E) {g : STt} {l0 : Nat} {l3 : Int32} (hl0 : l0 < 7) {K57 : (Int32 × Int32) → Option Int32} (hK57 : ∀ {l4 : Int32} {l5 : Int32} (r : Int32), K57 (l4, l5) = some r → VJ p l e (rmL (L + 1)) s m args below meth c (QE below E (cellsC E g ++ wx) (some (.int r)) args s) E 13 (cellsC E g ++ wx) [(0, .ref (aE E 21 l0)), (2, .ref (aE E 8 0)), (3, .int l3), (4, .int l4), (5, .int l5)] [] 57) {l4 : Int32} {l5 : Int32} (r : Int32) (h : fX2_isTrue_l57c K57 g l0 l3 l4 l5 = some r) : VJ p l e (rmL (L + 1)) s m args below meth c (QE below E (cellsC E g ++ wx) (some (.int r)) args s) E 13 (cellsC E g ++ wx) [(0, .ref (aE E 21 l0)), (2, .ref (aE E 8 0)), (3, .int l3), (4, .int l4), (5, .int l5)] [] 57 := by
  unfold fX2_isTrue_l57c at h
  refine v_iload C 4 (dk dcX2_isTrue_0 35 rfl) rfl ?_
  refine v_if_lt C 271 (dk dcX2_isTrue_0 36 rfl) (by decide) (fun c_1 => ?_) (fun c_1 => ?_)
  · replace h := if_t c_1 h
    exact vj_sub [3] rfl (vX2_isTrue_j271 hL C _ h)
  · replace h := if_f c_1 h
    refine v_iload C 4 (dk dcX2_isTrue_0 37 rfl) rfl ?_
    refine v_iload_n C 2 (dk dcX2_isTrue_0 38 rfl) rfl rfl ?_
    refine v_icmp_ge C 271 (dk dcX2_isTrue_0 39 rfl) (by decide) (fun c_2 => ?_) (fun c_2 => ?_)
    · replace h := if_t c_2 h
      exact vj_sub [3] rfl (vX2_isTrue_j271 hL C _ h)
    · replace h := if_f c_2 h
      refine v_iload C 4 (dk dcX2_isTrue_0 40 rfl) rfl ?_
      refine v_bipush C 100 (dk dcX2_isTrue_0 41 rfl) kb_100 ?_
      refine v_icmp_ge C 271 (dk dcX2_isTrue_0 42 rfl) (by decide) (fun c_3 => ?_) (fun c_3 => ?_)
      · replace h := if_t c_3 h
        exact vj_sub [3] rfl (vX2_isTrue_j271 hL C _ h)
      · replace h := if_f c_3 h
        refine v_aload_n C 0 (dk dcX2_isTrue_0 43 rfl) rfl rfl ?_
        refine gt_Law_codes C hl0 wd_165 (dk dcX2_isTrue_0 44 rfl) ?_
        refine v_iload C 4 (dk dcX2_isTrue_0 45 rfl) rfl ?_
        obtain ⟨b_4, h⟩ := gd_t h
        refine ld_lawCodes C hl0 b_4 (dk dcX2_isTrue_0 46 rfl) ?_
        refine v_istore C (lv' := [(6, .int (g.2.1 28 l0 l5.toNatClampNeg)), (0, .ref (aE E 21 l0)), (2, .ref (aE E 8 0)), (3, .int l3), (4, .int l4), (5, .int l5)]) (dk dcX2_isTrue_0 47 rfl) (by decide) rfl ?_
        refine v_iload C 4 (dk dcX2_isTrue_1 0 rfl) rfl ?_
        refine v_iconst C 1 (dk dcX2_isTrue_1 1 rfl) ki_1 ?_
        refine v_iand C (dk dcX2_isTrue_1 2 rfl) ?_
        refine v_istore C (lv' := [(7, .int (l4 &&& 1)), (6, .int (g.2.1 28 l0 l5.toNatClampNeg)), (0, .ref (aE E 21 l0)), (2, .ref (aE E 8 0)), (3, .int l3), (4, .int l4), (5, .int l5)]) (dk dcX2_isTrue_1 3 rfl) (by decide) rfl ?_
        refine v_iload C 1 (dk dcX2_isTrue_1 4 rfl) rfl ?_
        refine v_iconst C (-1) (dk dcX2_isTrue_1 5 rfl) ki_m1 ?_
        refine v_icmp_ne C 105 (dk dcX2_isTrue_1 6 rfl) (by decide) (fun c_5 => ?_) (fun c_5 => ?_)
        · replace h := if_f c_5 h
          refine v_iload C 1 (dk dcX2_isTrue_1 12 rfl) rfl ?_
          refine v_bipush C (-2) (dk dcX2_isTrue_1 13 rfl) kb_m2 ?_
          refine v_icmp_ne C 127 (dk dcX2_isTrue_1 14 rfl) (by decide) (fun c_6 => ?_) (fun c_6 => ?_)
          · replace h := if_f c_6 h
            refine v_iload C 1 (dk dcX2_isTrue_1 24 rfl) rfl ?_
            refine v_bipush C (-3) (dk dcX2_isTrue_1 25 rfl) kb_m3 ?_
            refine v_icmp_ne C 146 (dk dcX2_isTrue_1 26 rfl) (by decide) (fun c_7 => ?_) (fun c_7 => ?_)
            · replace h := if_f c_7 h
              refine v_iload C 1 (dk dcX2_isTrue_1 34 rfl) rfl ?_
              refine v_sipush C 1000 (dk dcX2_isTrue_1 35 rfl) ks_1000 ?_
              refine v_idiv C (dk dcX2_isTrue_1 36 rfl) (by decide) ?_
              refine v_istore C (lv' := [(8, .int ((g.2.1 28 l0 l5.toNatClampNeg) / 1000)), (7, .int (l4 &&& 1)), (6, .int (g.2.1 28 l0 l5.toNatClampNeg)), (0, .ref (aE E 21 l0)), (2, .ref (aE E 8 0)), (3, .int l3), (4, .int l4), (5, .int l5)]) (dk dcX2_isTrue_1 37 rfl) (by decide) rfl ?_
              refine v_iload C 2 (dk dcX2_isTrue_1 38 rfl) rfl ?_
              refine v_bipush C 100 (dk dcX2_isTrue_1 39 rfl) kb_100 ?_
              refine v_idiv C (dk dcX2_isTrue_1 40 rfl) (by decide) ?_
              refine v_bipush C 10 (dk dcX2_isTrue_1 41 rfl) kb_10 ?_
              refine v_irem C (dk dcX2_isTrue_1 42 rfl) (by decide) ?_
              refine v_istore C (lv' := [(9, .int (((g.2.1 28 l0 l5.toNatClampNeg) / 100) - ((g.2.1 28 l0 l5.toNatClampNeg) / 100) / 10 * 10)), (8, .int ((g.2.1 28 l0 l5.toNatClampNeg) / 1000)), (7, .int (l4 &&& 1)), (6, .int (g.2.1 28 l0 l5.toNatClampNeg)), (0, .ref (aE E 21 l0)), (2, .ref (aE E 8 0)), (3, .int l3), (4, .int l4), (5, .int l5)]) (dk dcX2_isTrue_1 43 rfl) (by decide) rfl ?_
              refine v_iload C 3 (dk dcX2_isTrue_1 44 rfl) rfl ?_
              refine v_bipush C 100 (dk dcX2_isTrue_1 45 rfl) kb_100 ?_
              refine v_irem C (dk dcX2_isTrue_1 46 rfl) (by decide) ?_
              refine v_istore C (lv' := [(10, .int ((g.2.1 28 l0 l5.toNatClampNeg) - (g.2.1 28 l0 l5.toNatClampNeg) / 100 * 100)), (9, .int (((g.2.1 28 l0 l5.toNatClampNeg) / 100) - ((g.2.1 28 l0 l5.toNatClampNeg) / 100) / 10 * 10)), (8, .int ((g.2.1 28 l0 l5.toNatClampNeg) / 1000)), (7, .int (l4 &&& 1)), (6, .int (g.2.1 28 l0 l5.toNatClampNeg)), (0, .ref (aE E 21 l0)), (2, .ref (aE E 8 0)), (3, .int l3), (4, .int l4), (5, .int l5)]) (dk dcX2_isTrue_1 47 rfl) (by decide) rfl ?_
              refine v_iload C 2 (dk dcX2_isTrue_2 0 rfl) rfl ?_
              refine v_if_lt C 190 (dk dcX2_isTrue_2 1 rfl) (by decide) (fun c_8 => ?_) (fun c_8 => ?_)
              · replace h := if_t c_8 h
                exact vj_sub [5, 6, 7, 8, 9, 1, 0] rfl (vX2_isTrue_j190 hL C hl0 hK57 _ h)
              · replace h := if_f c_8 h
                refine v_iload C 2 (dk dcX2_isTrue_2 2 rfl) rfl ?_
                refine v_aload_n C 6 (dk dcX2_isTrue_2 3 rfl) rfl rfl ?_
                refine al_facts C (dk dcX2_isTrue_2 4 rfl) ?_
                refine v_icmp_ge C 190 (dk dcX2_isTrue_2 5 rfl) (by decide) (fun c_9 => ?_) (fun c_9 => ?_)
                · replace h := if_t c_9 h
                  exact vj_sub [5, 6, 7, 8, 9, 1, 0] rfl (vX2_isTrue_j190 hL C hl0 hK57 _ h)
                · replace h := if_f c_9 h
                  refine v_aload_n C 6 (dk dcX2_isTrue_2 6 rfl) rfl rfl ?_
                  refine v_iload C 2 (dk dcX2_isTrue_2 7 rfl) rfl ?_
                  obtain ⟨b_10, h⟩ := gd_t h
                  refine ld_facts C b_10 (dk dcX2_isTrue_2 8 rfl) ?_
                  refine v_goto C 191 (dk dcX2_isTrue_2 9 rfl) (by decide) ?_
                  exact vj_sub [5, 6, 7, 8, 9, 1, 0] rfl (vX2_isTrue_j191 hL C hl0 hK57 _ h)
            · replace h := if_t c_7 h
              refine v_iload C 5 (dk dcX2_isTrue_1 27 rfl) rfl ?_
              refine v_iconst C 1 (dk dcX2_isTrue_1 28 rfl) ki_1 ?_
              refine v_ishr C (dk dcX2_isTrue_1 29 rfl) ?_
              refine v_iload C 0 (dk dcX2_isTrue_1 30 rfl) rfl ?_
              refine v_ior C (dk dcX2_isTrue_1 31 rfl) ?_
              refine v_istore C (lv' := [(4, .int ((l4 >>> (1 &&& 31)) ||| (l4 &&& 1))), (7, .int (l4 &&& 1)), (6, .int (g.2.1 28 l0 l5.toNatClampNeg)), (0, .ref (aE E 21 l0)), (2, .ref (aE E 8 0)), (3, .int l3), (5, .int l5)]) (dk dcX2_isTrue_1 32 rfl) (by decide) rfl ?_
              refine v_goto C 265 (dk dcX2_isTrue_1 33 rfl) (by decide) ?_
              exact vj_sub [3, 4, 5, 0, 6] rfl (vX2_isTrue_j265 hL C hl0 hK57 _ h)
          · replace h := if_t c_6 h
            refine v_iload C 5 (dk dcX2_isTrue_1 15 rfl) rfl ?_
            refine v_iconst C 1 (dk dcX2_isTrue_1 16 rfl) ki_1 ?_
            refine v_ishr C (dk dcX2_isTrue_1 17 rfl) ?_
            refine v_iload C 0 (dk dcX2_isTrue_1 18 rfl) rfl ?_
            refine v_bipush C (-2) (dk dcX2_isTrue_1 19 rfl) kb_m2 ?_
            refine v_ior C (dk dcX2_isTrue_1 20 rfl) ?_
            refine v_iand C (dk dcX2_isTrue_1 21 rfl) ?_
            refine v_istore C (lv' := [(4, .int ((l4 >>> (1 &&& 31)) &&& ((l4 &&& 1) ||| (-2)))), (7, .int (l4 &&& 1)), (6, .int (g.2.1 28 l0 l5.toNatClampNeg)), (0, .ref (aE E 21 l0)), (2, .ref (aE E 8 0)), (3, .int l3), (5, .int l5)]) (dk dcX2_isTrue_1 22 rfl) (by decide) rfl ?_
            refine v_goto C 265 (dk dcX2_isTrue_1 23 rfl) (by decide) ?_
            exact vj_sub [3, 4, 5, 0, 6] rfl (vX2_isTrue_j265 hL C hl0 hK57 _ h)
        · replace h := if_t c_5 h
          refine v_iload C 5 (dk dcX2_isTrue_1 7 rfl) rfl ?_
          refine v_iconst C 1 (dk dcX2_isTrue_1 8 rfl) ki_1 ?_
          refine v_ixor C (dk dcX2_isTrue_1 9 rfl) ?_
          refine v_istore C (lv' := [(4, .int (l4 ^^^ 1)), (7, .int (l4 &&& 1)), (6, .int (g.2.1 28 l0 l5.toNatClampNeg)), (0, .ref (aE E 21 l0)), (2, .ref (aE E 8 0)), (3, .int l3), (5, .int l5)]) (dk dcX2_isTrue_1 10 rfl) (by decide) rfl ?_
          refine v_goto C 265 (dk dcX2_isTrue_1 11 rfl) (by decide) ?_
          exact vj_sub [3, 4, 5, 0, 6] rfl (vX2_isTrue_j265 hL C hl0 hK57 _ h)
set_option maxRecDepth 20000 in
set_option maxHeartbeats 4000000 in
theorem vX2_isTrue_l57 {L : Nat} (hL : 2 ≤ L) (C : CX p s m args meth c cX2_isTrue 13 RX2 (some .boolean) E) {g : STt} {l0 : Nat} {l3 : Int32} (hl0 : l0 < 7) {l4 : Int32} {l5 : Int32} (r : Int32) (h : fX2_isTrue_l57 g l0 l3 l4 l5 = some r) : VJ p l e (rmL (L + 1)) s m args below meth c (QE below E (cellsC E g ++ wx) (some (.int r)) args s) E 13 (cellsC E g ++ wx) [(0, .ref (aE E 21 l0)), (2, .ref (aE E 8 0)), (3, .int l3), (4, .int l4), (5, .int l5)] [] 57 :=
  iterO_ind (F := fun K z => fX2_isTrue_l57c K g l0 l3 z.1 z.2) (fun z r => VJ p l e (rmL (L + 1)) s m args below meth c (QE below E (cellsC E g ++ wx) (some (.int r)) args s) E 13 (cellsC E g ++ wx) [(0, .ref (aE E 21 l0)), (2, .ref (aE E 8 0)), (3, .int l3), (4, .int z.1), (5, .int z.2)] [] 57) (fun K hK z r h => vX2_isTrue_l57c hL C hl0 (fun {l4} {l5} r h => hK (l4, l5) r h) r h) fuelN (l4, l5) r h
set_option maxRecDepth 20000 in
set_option maxHeartbeats 4000000 in
theorem vX2_isTrue_j45 {L : Nat} (hL : 2 ≤ L) (C : CX p s m args meth c cX2_isTrue 13 RX2 (some .boolean) E) {g : STt} {l0 : Nat} {l1 : Int32} {s0 : Int32} (hl0 : l0 < 7) (r : Int32) (h : fX2_isTrue_j45 g l0 l1 s0 = some r) : VJ p l e (rmL (L + 1)) s m args below meth c (QE below E (cellsC E g ++ wx) (some (.int r)) args s) E 13 (cellsC E g ++ wx) [(0, .ref (aE E 21 l0)), (1, .int l1), (2, .ref (aE E 8 0))] [.int s0] 45 := by
  unfold fX2_isTrue_j45 at h
  refine v_istore_n C (lv' := [(3, .int s0), (0, .ref (aE E 21 l0)), (1, .int l1), (2, .ref (aE E 8 0))]) (dk dcX2_isTrue_0 27 rfl) rfl (by decide) rfl ?_
  refine v_iconst C 0 (dk dcX2_isTrue_0 28 rfl) ki_0 ?_
  refine v_istore C (lv' := [(4, .int 0), (3, .int s0), (0, .ref (aE E 21 l0)), (1, .int l1), (2, .ref (aE E 8 0))]) (dk dcX2_isTrue_0 29 rfl) (by decide) rfl ?_
  refine v_aload_n C 2 (dk dcX2_isTrue_0 30 rfl) rfl rfl ?_
  refine gt_Law_starts C hl0 wd_163 (dk dcX2_isTrue_0 31 rfl) ?_
  refine v_iload_n C 3 (dk dcX2_isTrue_0 32 rfl) rfl rfl ?_
  obtain ⟨b_1, h⟩ := gd_t h
  refine ld_lawStarts C hl0 b_1 (dk dcX2_isTrue_0 33 rfl) ?_
  refine v_istore C (lv' := [(5, .int (g.2.1 27 l0 l1.toNatClampNeg)), (4, .int 0), (3, .int s0), (0, .ref (aE E 21 l0)), (1, .int l1), (2, .ref (aE E 8 0))]) (dk dcX2_isTrue_0 34 rfl) (by decide) rfl ?_
  exact vj_sub [3, 5, 2, 1, 0] rfl (vX2_isTrue_l57 hL C hl0 _ h)
set_option maxRecDepth 20000 in
set_option maxHeartbeats 4000000 in
theorem vX2_isTrue_j41 {L : Nat} (hL : 2 ≤ L) (C : CX p s m args meth c cX2_isTrue 13 RX2 (some .boolean) E) {g : STt} {l0 : Nat} {l1 : Int32} (hl0 : l0 < 7) (r : Int32) (h : fX2_isTrue_j41 g l0 l1 = some r) : VJ p l e (rmL (L + 1)) s m args below meth c (QE below E (cellsC E g ++ wx) (some (.int r)) args s) E 13 (cellsC E g ++ wx) [(0, .ref (aE E 21 l0)), (1, .int l1), (2, .ref (aE E 8 0))] [] 41 := by
  unfold fX2_isTrue_j41 at h
  refine v_aload_n C 0 (dk dcX2_isTrue_0 25 rfl) rfl rfl ?_
  refine gt_Law_codeCount C hl0 wd_166 (dk dcX2_isTrue_0 26 rfl) ?_
  exact vj_sub [0, 1, 2] rfl (vX2_isTrue_j45 hL C hl0 _ h)
set_option maxRecDepth 20000 in
set_option maxHeartbeats 4000000 in
theorem mtX2_isTrue {l : Launch} {E : WEt} {wx : va_W} (L : Nat) (hL : 2 ≤ L)  {g : STt} {d0 : Nat} (hd0 : d0 < 7) {x1 : Int32} {rr : Int32} (h : fX2_isTrue g d0 x1 = some rr) : MT l E yX2_isTrue cX2_isTrue 13 (some .boolean) (L + 1) [.ref (aE E 21 d0), .int x1, .ref (aE E 8 0)] (cellsC E g ++ wx) (cellsC E g ++ wx) (some (.int rr)) := by
  refine mt_of (by decide +kernel) (Nat.le_of_ble_eq_true rfl) ?_
  intro p e s m args below meth c C
  replace C : CX p s m args meth c cX2_isTrue 13 RX2 (some .boolean) E := C
  unfold fX2_isTrue at h
  refine vj_sub (lv' := [(0, .ref (aE E 21 d0)), (1, .int x1), (2, .ref (aE E 8 0))]) [0, 1, 2] rfl ?_
  refine v_iload_n C 1 (dk dcX2_isTrue_0 0 rfl) rfl rfl ?_
  refine v_if_lt C 10 (dk dcX2_isTrue_0 1 rfl) (by decide) (fun c_1 => ?_) (fun c_1 => ?_)
  · replace h := if_t c_1 h
    refine v_iconst C 0 (dk dcX2_isTrue_0 5 rfl) ki_0 ?_
    cases h
    exact v_zret C (x := 0) rfl rfl (dk dcX2_isTrue_0 6 rfl)
  · replace h := if_f c_1 h
    refine v_iload_n C 1 (dk dcX2_isTrue_0 2 rfl) rfl rfl ?_
    refine v_bipush C 10 (dk dcX2_isTrue_0 3 rfl) kb_10 ?_
    refine v_icmp_lt C 12 (dk dcX2_isTrue_0 4 rfl) (by decide) (fun c_2 => ?_) (fun c_2 => ?_)
    · replace h := if_t c_2 h
      refine v_iload_n C 1 (dk dcX2_isTrue_0 7 rfl) rfl rfl ?_
      refine v_iconst C 1 (dk dcX2_isTrue_0 8 rfl) ki_1 ?_
      refine v_iadd C (dk dcX2_isTrue_0 9 rfl) ?_
      refine v_aload_n C 0 (dk dcX2_isTrue_0 10 rfl) rfl rfl ?_
      refine gt_Law_clauses C hd0 wd_164 (dk dcX2_isTrue_0 11 rfl) ?_
      refine v_icmp_ge C 41 (dk dcX2_isTrue_0 12 rfl) (by decide) (fun c_3 => ?_) (fun c_3 => ?_)
      · replace h := if_t c_3 h
        exact vj_sub [0, 1, 2] rfl (vX2_isTrue_j41 hL C hd0 _ h)
      · replace h := if_f c_3 h
        refine v_iload_n C 1 (dk dcX2_isTrue_0 13 rfl) rfl rfl ?_
        refine v_iconst C 1 (dk dcX2_isTrue_0 14 rfl) ki_1 ?_
        refine v_iadd C (dk dcX2_isTrue_0 15 rfl) ?_
        refine v_bipush C 10 (dk dcX2_isTrue_0 16 rfl) kb_10 ?_
        refine v_icmp_ge C 41 (dk dcX2_isTrue_0 17 rfl) (by decide) (fun c_4 => ?_) (fun c_4 => ?_)
        · replace h := if_t c_4 h
          exact vj_sub [0, 1, 2] rfl (vX2_isTrue_j41 hL C hd0 _ h)
        · replace h := if_f c_4 h
          refine v_aload_n C 0 (dk dcX2_isTrue_0 18 rfl) rfl rfl ?_
          refine gt_Law_starts C hd0 wd_163 (dk dcX2_isTrue_0 19 rfl) ?_
          refine v_iload_n C 1 (dk dcX2_isTrue_0 20 rfl) rfl rfl ?_
          refine v_iconst C 1 (dk dcX2_isTrue_0 21 rfl) ki_1 ?_
          refine v_iadd C (dk dcX2_isTrue_0 22 rfl) ?_
          obtain ⟨b_5, h⟩ := gd_t h
          refine ld_lawStarts C hd0 b_5 (dk dcX2_isTrue_0 23 rfl) ?_
          refine v_goto C 45 (dk dcX2_isTrue_0 24 rfl) (by decide) ?_
          exact vj_sub [0, 1, 2] rfl (vX2_isTrue_j45 hL C hd0 _ h)
    · replace h := if_f c_2 h
      refine v_iconst C 0 (dk dcX2_isTrue_0 5 rfl) ki_0 ?_
      cases h
      exact v_zret C (x := 0) rfl rfl (dk dcX2_isTrue_0 6 rfl)
set_option maxRecDepth 20000 in
set_option maxHeartbeats 4000000 in
theorem vX2_together_j52 {L : Nat} (hL : 3 ≤ L) (C : CX p s m args meth c cX2_together 5 RX2 (some .int) E) {g : STt} {l0 : Nat} {l1 : Int32} {l3 : Int32} {l4 : Int32} (hl0 : l0 < 7) {K5 : (Int32 × Int32) → Option Int32} (hK5 : ∀ {l3 : Int32} {l4 : Int32} (r : Int32), K5 (l3, l4) = some r → VJ p l e (rmL (L + 1)) s m args below meth c (QE below E (cellsC E g ++ wx) (some (.int r)) args s) E 5 (cellsC E g ++ wx) [(0, .ref (aE E 21 l0)), (1, .int l1), (2, .ref (aE E 8 0)), (3, .int l3), (4, .int l4)] [] 5) (r : Int32) (h : fX2_together_j52 K5 g l0 l1 l3 l4 = some r) : VJ p l e (rmL (L + 1)) s m args below meth c (QE below E (cellsC E g ++ wx) (some (.int r)) args s) E 5 (cellsC E g ++ wx) [(0, .ref (aE E 21 l0)), (1, .int l1), (2, .ref (aE E 8 0)), (3, .int l3), (4, .int l4)] [] 52 := by
  unfold fX2_together_j52 at h
  refine v_iinc C (lv' := [(4, .int (l4 + 1)), (0, .ref (aE E 21 l0)), (1, .int l1), (2, .ref (aE E 8 0)), (3, .int l3)]) (l4 + 1) 4 (dk dcX2_together_0 29 rfl) rfl (congrArg (fun z => l4 + z) ki_1) (by decide) rfl ?_
  refine v_goto C 5 (dk dcX2_together_0 30 rfl) (by decide) ?_
  exact vj_sub [1, 2, 3, 4, 0] rfl (hK5 _ h)
set_option maxRecDepth 20000 in
set_option maxHeartbeats 4000000 in
theorem vX2_together_l5c {L : Nat} (hL : 3 ≤ L) (C : CX p s m args meth c cX2_together 5 RX2 (some .int) E) {g : STt} {l0 : Nat} {l1 : Int32} (hl0 : l0 < 7) {K5 : (Int32 × Int32) → Option Int32} (hK5 : ∀ {l3 : Int32} {l4 : Int32} (r : Int32), K5 (l3, l4) = some r → VJ p l e (rmL (L + 1)) s m args below meth c (QE below E (cellsC E g ++ wx) (some (.int r)) args s) E 5 (cellsC E g ++ wx) [(0, .ref (aE E 21 l0)), (1, .int l1), (2, .ref (aE E 8 0)), (3, .int l3), (4, .int l4)] [] 5) {l3 : Int32} {l4 : Int32} (r : Int32) (h : fX2_together_l5c K5 g l0 l1 l3 l4 = some r) : VJ p l e (rmL (L + 1)) s m args below meth c (QE below E (cellsC E g ++ wx) (some (.int r)) args s) E 5 (cellsC E g ++ wx) [(0, .ref (aE E 21 l0)), (1, .int l1), (2, .ref (aE E 8 0)), (3, .int l3), (4, .int l4)] [] 5 := by
  unfold fX2_together_l5c at h
  refine v_iload C 4 (dk dcX2_together_0 4 rfl) rfl ?_
  refine v_aload_n C 0 (dk dcX2_together_0 5 rfl) rfl rfl ?_
  refine gt_Law_clauses C hl0 wd_164 (dk dcX2_together_0 6 rfl) ?_
  refine v_icmp_ge C 58 (dk dcX2_together_0 7 rfl) (by decide) (fun c_1 => ?_) (fun c_1 => ?_)
  · replace h := if_t c_1 h
    refine v_iload_n C 3 (dk dcX2_together_0 31 rfl) rfl rfl ?_
    cases h
    exact v_iret C rfl (dk dcX2_together_0 32 rfl)
  · replace h := if_f c_1 h
    refine v_iload C 4 (dk dcX2_together_0 8 rfl) rfl ?_
    refine v_bipush C 10 (dk dcX2_together_0 9 rfl) kb_10 ?_
    refine v_icmp_ge C 58 (dk dcX2_together_0 10 rfl) (by decide) (fun c_2 => ?_) (fun c_2 => ?_)
    · replace h := if_t c_2 h
      refine v_iload_n C 3 (dk dcX2_together_0 31 rfl) rfl rfl ?_
      cases h
      exact v_iret C rfl (dk dcX2_together_0 32 rfl)
    · replace h := if_f c_2 h
      refine v_aload_n C 0 (dk dcX2_together_0 11 rfl) rfl rfl ?_
      refine gt_Law_words C hl0 wd_161 (dk dcX2_together_0 12 rfl) ?_
      refine v_iload C 4 (dk dcX2_together_0 13 rfl) rfl ?_
      obtain ⟨b_3, h⟩ := gd_t h
      refine ld_lawWords C hl0 b_3 (dk dcX2_together_0 14 rfl) ?_
      refine v_iload_n C 1 (dk dcX2_together_0 15 rfl) rfl rfl ?_
      refine v_icmp_ne C 52 (dk dcX2_together_0 16 rfl) (by decide) (fun c_4 => ?_) (fun c_4 => ?_)
      · replace h := if_f c_4 h
        exact vj_sub [0, 1, 2, 3, 4] rfl (vX2_together_j52 hL C hl0 hK5 _ h)
      · replace h := if_t c_4 h
        refine v_aload_n C 0 (dk dcX2_together_0 17 rfl) rfl rfl ?_
        refine v_iload C 4 (dk dcX2_together_0 18 rfl) rfl ?_
        refine v_aload_n C 2 (dk dcX2_together_0 19 rfl) rfl rfl ?_
        obtain ⟨r_6, h_5, h⟩ := bnd1_s h
        refine v_callV1 C (mtX2_isTrue (L - 1) (by omega) hl0 h_5) wmX2_isTrue wd_687 (by omega) (by decide) rfl _ (ce_Law hl0) rfl rfl (Nat.le_of_ble_eq_true rfl) (dk dcX2_together_0 20 rfl) ?_
        refine v_if_eq C 52 (dk dcX2_together_0 21 rfl) (by decide) (fun c_7 => ?_) (fun c_7 => ?_)
        · replace h := if_t c_7 h
          exact vj_sub [0, 1, 2, 3, 4] rfl (vX2_together_j52 hL C hl0 hK5 _ h)
        · replace h := if_f c_7 h
          refine v_iload_n C 3 (dk dcX2_together_0 22 rfl) rfl rfl ?_
          refine v_aload_n C 0 (dk dcX2_together_0 23 rfl) rfl rfl ?_
          refine gt_Law_amounts C hl0 wd_162 (dk dcX2_together_0 24 rfl) ?_
          refine v_iload C 4 (dk dcX2_together_0 25 rfl) rfl ?_
          obtain ⟨b_8, h⟩ := gd_t h
          refine ld_lawAmounts C hl0 b_8 (dk dcX2_together_0 26 rfl) ?_
          refine v_iadd C (dk dcX2_together_0 27 rfl) ?_
          refine v_istore_n C (lv' := [(3, .int (l3 + (g.2.1 26 l0 l4.toNatClampNeg))), (0, .ref (aE E 21 l0)), (1, .int l1), (2, .ref (aE E 8 0)), (4, .int l4)]) (dk dcX2_together_0 28 rfl) rfl (by decide) rfl ?_
          exact vj_sub [1, 2, 3, 0, 4] rfl (vX2_together_j52 hL C hl0 hK5 _ h)
set_option maxRecDepth 20000 in
set_option maxHeartbeats 4000000 in
theorem vX2_together_l5 {L : Nat} (hL : 3 ≤ L) (C : CX p s m args meth c cX2_together 5 RX2 (some .int) E) {g : STt} {l0 : Nat} {l1 : Int32} (hl0 : l0 < 7) {l3 : Int32} {l4 : Int32} (r : Int32) (h : fX2_together_l5 g l0 l1 l3 l4 = some r) : VJ p l e (rmL (L + 1)) s m args below meth c (QE below E (cellsC E g ++ wx) (some (.int r)) args s) E 5 (cellsC E g ++ wx) [(0, .ref (aE E 21 l0)), (1, .int l1), (2, .ref (aE E 8 0)), (3, .int l3), (4, .int l4)] [] 5 :=
  iterO_ind (F := fun K z => fX2_together_l5c K g l0 l1 z.1 z.2) (fun z r => VJ p l e (rmL (L + 1)) s m args below meth c (QE below E (cellsC E g ++ wx) (some (.int r)) args s) E 5 (cellsC E g ++ wx) [(0, .ref (aE E 21 l0)), (1, .int l1), (2, .ref (aE E 8 0)), (3, .int z.1), (4, .int z.2)] [] 5) (fun K hK z r h => vX2_together_l5c hL C hl0 (fun {l3} {l4} r h => hK (l3, l4) r h) r h) fuelN (l3, l4) r h
set_option maxRecDepth 20000 in
set_option maxHeartbeats 4000000 in
theorem mtX2_together {l : Launch} {E : WEt} {wx : va_W} (L : Nat) (hL : 3 ≤ L)  {g : STt} {d0 : Nat} (hd0 : d0 < 7) {x1 : Int32} {rr : Int32} (h : fX2_together g d0 x1 = some rr) : MT l E yX2_together cX2_together 5 (some .int) (L + 1) [.ref (aE E 21 d0), .int x1, .ref (aE E 8 0)] (cellsC E g ++ wx) (cellsC E g ++ wx) (some (.int rr)) := by
  refine mt_of (by decide +kernel) (Nat.le_of_ble_eq_true rfl) ?_
  intro p e s m args below meth c C
  replace C : CX p s m args meth c cX2_together 5 RX2 (some .int) E := C
  unfold fX2_together at h
  refine vj_sub (lv' := [(0, .ref (aE E 21 d0)), (1, .int x1), (2, .ref (aE E 8 0))]) [0, 1, 2] rfl ?_
  refine v_iconst C 0 (dk dcX2_together_0 0 rfl) ki_0 ?_
  refine v_istore_n C (lv' := [(3, .int 0), (0, .ref (aE E 21 d0)), (1, .int x1), (2, .ref (aE E 8 0))]) (dk dcX2_together_0 1 rfl) rfl (by decide) rfl ?_
  refine v_iconst C 0 (dk dcX2_together_0 2 rfl) ki_0 ?_
  refine v_istore C (lv' := [(4, .int 0), (3, .int 0), (0, .ref (aE E 21 d0)), (1, .int x1), (2, .ref (aE E 8 0))]) (dk dcX2_together_0 3 rfl) (by decide) rfl ?_
  exact vj_sub [2, 3, 4, 1, 0] rfl (vX2_together_l5 hL C hd0 _ h)
set_option maxRecDepth 20000 in
set_option maxHeartbeats 4000000 in
theorem mtX4_kindOf {l : Launch} {E : WEt} {wx : va_W} (L : Nat) (hL : 2 ≤ L)  {g : STt} {x1 : Int32} {rr : Int32} (h : fX4_kindOf g x1 = some rr) : MT l E yX4_kindOf cX4_kindOf 2 (some .int) (L + 1) [.ref (aE E 1 0), .int x1] (cellsC E g ++ wx) (cellsC E g ++ wx) (some (.int rr)) := by
  refine mt_of (by decide +kernel) (Nat.le_of_ble_eq_true rfl) ?_
  intro p e s m args below meth c C
  replace C : CX p s m args meth c cX4_kindOf 2 RX4 (some .int) E := C
  unfold fX4_kindOf at h
  refine vj_sub (lv' := [(0, .ref (aE E 1 0)), (1, .int x1)]) [0, 1] rfl ?_
  refine v_iload_n C 1 (dk dcX4_kindOf_0 0 rfl) rfl rfl ?_
  refine v_if_lt C 30 (dk dcX4_kindOf_0 1 rfl) (by decide) (fun c_1 => ?_) (fun c_1 => ?_)
  · replace h := if_t c_1 h
    refine v_iconst C (-1) (dk dcX4_kindOf_0 16 rfl) ki_m1 ?_
    cases h
    exact v_iret C rfl (dk dcX4_kindOf_0 17 rfl)
  · replace h := if_f c_1 h
    refine v_iload_n C 1 (dk dcX4_kindOf_0 2 rfl) rfl rfl ?_
    refine v_aload_n C 0 (dk dcX4_kindOf_0 3 rfl) rfl rfl ?_
    refine gt_Road_size C wd_114 (dk dcX4_kindOf_0 4 rfl) ?_
    refine v_icmp_ge C 30 (dk dcX4_kindOf_0 5 rfl) (by decide) (fun c_2 => ?_) (fun c_2 => ?_)
    · replace h := if_t c_2 h
      refine v_iconst C (-1) (dk dcX4_kindOf_0 16 rfl) ki_m1 ?_
      cases h
      exact v_iret C rfl (dk dcX4_kindOf_0 17 rfl)
    · replace h := if_f c_2 h
      refine v_iload_n C 1 (dk dcX4_kindOf_0 6 rfl) rfl rfl ?_
      refine v_aload_n C 0 (dk dcX4_kindOf_0 7 rfl) rfl rfl ?_
      refine gt_Road_kinds C wd_111 (dk dcX4_kindOf_0 8 rfl) ?_
      refine al_roadKinds C (dk dcX4_kindOf_0 9 rfl) ?_
      refine v_icmp_ge C 30 (dk dcX4_kindOf_0 10 rfl) (by decide) (fun c_3 => ?_) (fun c_3 => ?_)
      · replace h := if_t c_3 h
        refine v_iconst C (-1) (dk dcX4_kindOf_0 16 rfl) ki_m1 ?_
        cases h
        exact v_iret C rfl (dk dcX4_kindOf_0 17 rfl)
      · replace h := if_f c_3 h
        refine v_aload_n C 0 (dk dcX4_kindOf_0 11 rfl) rfl rfl ?_
        refine gt_Road_kinds C wd_111 (dk dcX4_kindOf_0 12 rfl) ?_
        refine v_iload_n C 1 (dk dcX4_kindOf_0 13 rfl) rfl rfl ?_
        obtain ⟨b_4, h⟩ := gd_t h
        refine ld_roadKinds C b_4 (dk dcX4_kindOf_0 14 rfl) ?_
        refine v_goto C 31 (dk dcX4_kindOf_0 15 rfl) (by decide) ?_
        cases h
        exact v_iret C rfl (dk dcX4_kindOf_0 17 rfl)
set_option maxRecDepth 20000 in
set_option maxHeartbeats 4000000 in
theorem mtX4_numberOf {l : Launch} {E : WEt} {wx : va_W} (L : Nat) (hL : 2 ≤ L)  {g : STt} {x1 : Int32} {rr : Int32} (h : fX4_numberOf g x1 = some rr) : MT l E yX4_numberOf cX4_numberOf 2 (some .int) (L + 1) [.ref (aE E 1 0), .int x1] (cellsC E g ++ wx) (cellsC E g ++ wx) (some (.int rr)) := by
  refine mt_of (by decide +kernel) (Nat.le_of_ble_eq_true rfl) ?_
  intro p e s m args below meth c C
  replace C : CX p s m args meth c cX4_numberOf 2 RX4 (some .int) E := C
  unfold fX4_numberOf at h
  refine vj_sub (lv' := [(0, .ref (aE E 1 0)), (1, .int x1)]) [0, 1] rfl ?_
  refine v_iload_n C 1 (dk dcX4_numberOf_0 0 rfl) rfl rfl ?_
  refine v_if_lt C 30 (dk dcX4_numberOf_0 1 rfl) (by decide) (fun c_1 => ?_) (fun c_1 => ?_)
  · replace h := if_t c_1 h
    refine v_iconst C 0 (dk dcX4_numberOf_0 16 rfl) ki_0 ?_
    cases h
    exact v_iret C rfl (dk dcX4_numberOf_0 17 rfl)
  · replace h := if_f c_1 h
    refine v_iload_n C 1 (dk dcX4_numberOf_0 2 rfl) rfl rfl ?_
    refine v_aload_n C 0 (dk dcX4_numberOf_0 3 rfl) rfl rfl ?_
    refine gt_Road_size C wd_114 (dk dcX4_numberOf_0 4 rfl) ?_
    refine v_icmp_ge C 30 (dk dcX4_numberOf_0 5 rfl) (by decide) (fun c_2 => ?_) (fun c_2 => ?_)
    · replace h := if_t c_2 h
      refine v_iconst C 0 (dk dcX4_numberOf_0 16 rfl) ki_0 ?_
      cases h
      exact v_iret C rfl (dk dcX4_numberOf_0 17 rfl)
    · replace h := if_f c_2 h
      refine v_iload_n C 1 (dk dcX4_numberOf_0 6 rfl) rfl rfl ?_
      refine v_aload_n C 0 (dk dcX4_numberOf_0 7 rfl) rfl rfl ?_
      refine gt_Road_numbers C wd_112 (dk dcX4_numberOf_0 8 rfl) ?_
      refine al_roadNumbers C (dk dcX4_numberOf_0 9 rfl) ?_
      refine v_icmp_ge C 30 (dk dcX4_numberOf_0 10 rfl) (by decide) (fun c_3 => ?_) (fun c_3 => ?_)
      · replace h := if_t c_3 h
        refine v_iconst C 0 (dk dcX4_numberOf_0 16 rfl) ki_0 ?_
        cases h
        exact v_iret C rfl (dk dcX4_numberOf_0 17 rfl)
      · replace h := if_f c_3 h
        refine v_aload_n C 0 (dk dcX4_numberOf_0 11 rfl) rfl rfl ?_
        refine gt_Road_numbers C wd_112 (dk dcX4_numberOf_0 12 rfl) ?_
        refine v_iload_n C 1 (dk dcX4_numberOf_0 13 rfl) rfl rfl ?_
        obtain ⟨b_4, h⟩ := gd_t h
        refine ld_roadNumbers C b_4 (dk dcX4_numberOf_0 14 rfl) ?_
        refine v_goto C 31 (dk dcX4_numberOf_0 15 rfl) (by decide) ?_
        cases h
        exact v_iret C rfl (dk dcX4_numberOf_0 17 rfl)
set_option maxRecDepth 20000 in
set_option maxHeartbeats 4000000 in
theorem mtX4_thingOf {l : Launch} {E : WEt} {wx : va_W} (L : Nat) (hL : 2 ≤ L)  {g : STt} {x1 : Int32} {rr : Int32} (h : fX4_thingOf g x1 = some rr) : MT l E yX4_thingOf cX4_thingOf 2 (some .int) (L + 1) [.ref (aE E 1 0), .int x1] (cellsC E g ++ wx) (cellsC E g ++ wx) (some (.int rr)) := by
  refine mt_of (by decide +kernel) (Nat.le_of_ble_eq_true rfl) ?_
  intro p e s m args below meth c C
  replace C : CX p s m args meth c cX4_thingOf 2 RX4 (some .int) E := C
  unfold fX4_thingOf at h
  refine vj_sub (lv' := [(0, .ref (aE E 1 0)), (1, .int x1)]) [0, 1] rfl ?_
  refine v_iload_n C 1 (dk dcX4_thingOf_0 0 rfl) rfl rfl ?_
  refine v_if_lt C 30 (dk dcX4_thingOf_0 1 rfl) (by decide) (fun c_1 => ?_) (fun c_1 => ?_)
  · replace h := if_t c_1 h
    refine v_iconst C (-1) (dk dcX4_thingOf_0 16 rfl) ki_m1 ?_
    cases h
    exact v_iret C rfl (dk dcX4_thingOf_0 17 rfl)
  · replace h := if_f c_1 h
    refine v_iload_n C 1 (dk dcX4_thingOf_0 2 rfl) rfl rfl ?_
    refine v_aload_n C 0 (dk dcX4_thingOf_0 3 rfl) rfl rfl ?_
    refine gt_Road_size C wd_114 (dk dcX4_thingOf_0 4 rfl) ?_
    refine v_icmp_ge C 30 (dk dcX4_thingOf_0 5 rfl) (by decide) (fun c_2 => ?_) (fun c_2 => ?_)
    · replace h := if_t c_2 h
      refine v_iconst C (-1) (dk dcX4_thingOf_0 16 rfl) ki_m1 ?_
      cases h
      exact v_iret C rfl (dk dcX4_thingOf_0 17 rfl)
    · replace h := if_f c_2 h
      refine v_iload_n C 1 (dk dcX4_thingOf_0 6 rfl) rfl rfl ?_
      refine v_aload_n C 0 (dk dcX4_thingOf_0 7 rfl) rfl rfl ?_
      refine gt_Road_things C wd_113 (dk dcX4_thingOf_0 8 rfl) ?_
      refine al_roadThings C (dk dcX4_thingOf_0 9 rfl) ?_
      refine v_icmp_ge C 30 (dk dcX4_thingOf_0 10 rfl) (by decide) (fun c_3 => ?_) (fun c_3 => ?_)
      · replace h := if_t c_3 h
        refine v_iconst C (-1) (dk dcX4_thingOf_0 16 rfl) ki_m1 ?_
        cases h
        exact v_iret C rfl (dk dcX4_thingOf_0 17 rfl)
      · replace h := if_f c_3 h
        refine v_aload_n C 0 (dk dcX4_thingOf_0 11 rfl) rfl rfl ?_
        refine gt_Road_things C wd_113 (dk dcX4_thingOf_0 12 rfl) ?_
        refine v_iload_n C 1 (dk dcX4_thingOf_0 13 rfl) rfl rfl ?_
        obtain ⟨b_4, h⟩ := gd_t h
        refine ld_roadThings C b_4 (dk dcX4_thingOf_0 14 rfl) ?_
        refine v_goto C 31 (dk dcX4_thingOf_0 15 rfl) (by decide) ?_
        cases h
        exact v_iret C rfl (dk dcX4_thingOf_0 17 rfl)
set_option maxRecDepth 20000 in
set_option maxHeartbeats 4000000 in
theorem vX9_fearThatCounts_j42 {L : Nat} (hL : 3 ≤ L) (C : CX p s m args meth c cX9_fearThatCounts 6 RX9 (some .int) E) {g : STt} {l1 : Nat} {l3 : Int32} {s0 : Int32} (hl1 : l1 < 10) (r : Int32) (h : fX9_fearThatCounts_j42 g l1 l3 s0 = some r) : VJ p l e (rmL (L + 1)) s m args below meth c (QE below E (cellsC E g ++ wx) (some (.int r)) args s) E 6 (cellsC E g ++ wx) [(0, .ref (aE E 7 0)), (1, .ref (aE E 19 l1)), (3, .int l3)] [.int s0] 42 := by
  unfold fX9_fearThatCounts_j42 at h
  refine v_istore C (lv' := [(5, .int s0), (0, .ref (aE E 7 0)), (1, .ref (aE E 19 l1)), (3, .int l3)]) (dk dcX9_fearThatCounts_0 24 rfl) (by decide) rfl ?_
  refine v_aload_n C 1 (dk dcX9_fearThatCounts_0 25 rfl) rfl rfl ?_
  refine gt_Walk_road C wd_186 (dk dcX9_fearThatCounts_0 26 rfl) ?_
  refine v_iload_n C 3 (dk dcX9_fearThatCounts_0 27 rfl) rfl rfl ?_
  obtain ⟨r_2, h_1, h⟩ := bnd1_s h
  refine v_callV1 C (mtX4_kindOf (L - 1) (by omega) h_1) wmX4_kindOf wd_682 (by omega) (by decide) rfl _ (ce_Road) rfl rfl (Nat.le_of_ble_eq_true rfl) (dk dcX9_fearThatCounts_0 28 rfl) ?_
  by_cases c_3 : r_2 = 1
  · replace h := if_t c_3 h
    refine v_lookup C 80 (dk dcX9_fearThatCounts_0 29 rfl) (by decide) (by first | (rw [c_3]; done) | (rw [c_3]; rfl)) (by decide) ?_
    refine v_iload C 0 (dk dcX9_fearThatCounts_0 30 rfl) rfl ?_
    refine v_iconst C 2 (dk dcX9_fearThatCounts_0 31 rfl) ki_2 ?_
    refine v_imul C (dk dcX9_fearThatCounts_0 32 rfl) ?_
    cases h
    exact v_iret C rfl (dk dcX9_fearThatCounts_0 33 rfl)
  · replace h := if_f c_3 h
    by_cases c_4 : r_2 = 4
    · replace h := if_t c_4 h
      refine v_lookup C 85 (dk dcX9_fearThatCounts_0 29 rfl) (by decide) (by first | (rw [c_4]; done) | (rw [c_4]; rfl)) (by decide) ?_
      refine v_iconst C 0 (dk dcX9_fearThatCounts_0 34 rfl) ki_0 ?_
      refine v_iload C 0 (dk dcX9_fearThatCounts_0 35 rfl) rfl ?_
      refine v_iconst C 2 (dk dcX9_fearThatCounts_0 36 rfl) ki_2 ?_
      refine v_imul C (dk dcX9_fearThatCounts_0 37 rfl) ?_
      refine v_aload_n C 1 (dk dcX9_fearThatCounts_0 38 rfl) rfl rfl ?_
      refine gt_Walk_road C wd_186 (dk dcX9_fearThatCounts_0 39 rfl) ?_
      refine v_iload_n C 3 (dk dcX9_fearThatCounts_0 40 rfl) rfl rfl ?_
      obtain ⟨r_6, h_5, h⟩ := bnd1_s h
      refine v_callV1 C (mtX4_numberOf (L - 1) (by omega) h_5) wmX4_numberOf wd_708 (by omega) (by decide) rfl _ (ce_Road) rfl rfl (Nat.le_of_ble_eq_true rfl) (dk dcX9_fearThatCounts_0 41 rfl) ?_
      refine v_aload_n C 2 (dk dcX9_fearThatCounts_0 42 rfl) rfl rfl ?_
      refine v_bipush C 9 (dk dcX9_fearThatCounts_0 43 rfl) kb_9 ?_
      obtain ⟨r_8, h_7, h⟩ := bnd1_s h
      refine v_callV1 C (mtX1_get (L - 1) (by omega) hl1 h_7) wmX1_get wd_667 (by omega) (by decide) rfl _ (ce_Donkey hl1) rfl rfl (Nat.le_of_ble_eq_true rfl) (dk dcX9_fearThatCounts_0 44 rfl) ?_
      refine v_imul C (dk dcX9_fearThatCounts_0 45 rfl) ?_
      refine v_isub C (dk dcX9_fearThatCounts_0 46 rfl) ?_
      refine v_mmax C (by omega) wd_709 wn_maxS wn_math wn_maxC (Nat.le_of_ble_eq_true rfl) (dk dcX9_fearThatCounts_0 47 rfl) ?_
      cases h
      exact v_iret C rfl (dk dcX9_fearThatCounts_1 0 rfl)
    · replace h := if_f c_4 h
      refine v_lookup C (off := 58) 110 (dk dcX9_fearThatCounts_0 29 rfl) (by decide) ((lv_osw c_3 (by decide)).trans ((lv_osw c_4 (by decide)).trans rfl)) (by decide) ?_
      refine v_iload C 0 (dk dcX9_fearThatCounts_1 1 rfl) rfl ?_
      cases h
      exact v_iret C rfl (dk dcX9_fearThatCounts_1 2 rfl)
set_option maxRecDepth 20000 in
set_option maxHeartbeats 4000000 in
theorem mtX9_fearThatCounts {l : Launch} {E : WEt} {wx : va_W} (L : Nat) (hL : 3 ≤ L)  {g : STt} {d1 : Nat} (hd1 : d1 < 10) {x2 : Int32} {rr : Int32} (h : fX9_fearThatCounts g d1 x2 = some rr) : MT l E yX9_fearThatCounts cX9_fearThatCounts 6 (some .int) (L + 1) [.ref (aE E 7 0), .ref (aE E 19 d1), .int x2] (cellsC E g ++ wx) (cellsC E g ++ wx) (some (.int rr)) := by
  refine mt_of (by decide +kernel) (Nat.le_of_ble_eq_true rfl) ?_
  intro p e s m args below meth c C
  replace C : CX p s m args meth c cX9_fearThatCounts 6 RX9 (some .int) E := C
  unfold fX9_fearThatCounts at h
  refine vj_sub (lv' := [(0, .ref (aE E 7 0)), (1, .ref (aE E 19 d1)), (2, .int x2)]) [0, 1, 2] rfl ?_
  refine v_iload_n C 2 (dk dcX9_fearThatCounts_0 0 rfl) rfl rfl ?_
  refine v_iconst C 3 (dk dcX9_fearThatCounts_0 1 rfl) ki_3 ?_
  refine v_icmp_ne C 7 (dk dcX9_fearThatCounts_0 2 rfl) (by decide) (fun c_1 => ?_) (fun c_1 => ?_)
  · replace h := if_f c_1 h
    refine v_aload_n C 1 (dk dcX9_fearThatCounts_0 5 rfl) rfl rfl ?_
    refine v_bipush C 12 (dk dcX9_fearThatCounts_0 6 rfl) kb_12 ?_
    obtain ⟨r_3, h_2, h⟩ := bnd1_s h
    refine v_callV1 C (mtX1_get (L - 1) (by omega) hd1 h_2) wmX1_get wd_667 (by omega) (by decide) rfl _ (ce_Donkey hd1) rfl rfl (Nat.le_of_ble_eq_true rfl) (dk dcX9_fearThatCounts_0 7 rfl) ?_
    refine v_istore_n C (lv' := [(3, .int r_3), (0, .ref (aE E 7 0)), (1, .ref (aE E 19 d1)), (2, .int x2)]) (dk dcX9_fearThatCounts_0 8 rfl) rfl (by decide) rfl ?_
    refine v_aload_n C 2 (dk dcX9_fearThatCounts_0 9 rfl) rfl rfl ?_
    refine v_aload_n C 1 (dk dcX9_fearThatCounts_0 10 rfl) rfl rfl ?_
    refine gt_Walk_road C wd_186 (dk dcX9_fearThatCounts_0 11 rfl) ?_
    refine v_iload_n C 0 (dk dcX9_fearThatCounts_0 12 rfl) rfl rfl ?_
    obtain ⟨r_5, h_4, h⟩ := bnd1_s h
    refine v_callV1 C (mtX4_thingOf (L - 1) (by omega) h_4) wmX4_thingOf wd_677 (by omega) (by decide) rfl _ (ce_Road) rfl rfl (Nat.le_of_ble_eq_true rfl) (dk dcX9_fearThatCounts_0 13 rfl) ?_
    obtain ⟨r_7, h_6, h⟩ := bnd1_s h
    refine v_callV1 C (mtX1_get (L - 1) (by omega) hd1 h_6) wmX1_get wd_667 (by omega) (by decide) rfl _ (ce_Donkey hd1) rfl rfl (Nat.le_of_ble_eq_true rfl) (dk dcX9_fearThatCounts_0 14 rfl) ?_
    refine v_istore C (lv' := [(4, .int r_7), (3, .int r_3), (0, .ref (aE E 7 0)), (1, .ref (aE E 19 d1)), (2, .int x2)]) (dk dcX9_fearThatCounts_0 15 rfl) (by decide) rfl ?_
    refine v_iload_n C 4 (dk dcX9_fearThatCounts_0 16 rfl) rfl rfl ?_
    refine v_iconst C 2 (dk dcX9_fearThatCounts_0 17 rfl) ki_2 ?_
    refine v_icmp_ne C 40 (dk dcX9_fearThatCounts_0 18 rfl) (by decide) (fun c_8 => ?_) (fun c_8 => ?_)
    · replace h := if_f c_8 h
      refine v_iload C 0 (dk dcX9_fearThatCounts_0 23 rfl) rfl ?_
      exact vj_sub [2, 3, 1] rfl (vX9_fearThatCounts_j42 hL C hd1 _ h)
    · replace h := if_t c_8 h
      refine v_iload C 0 (dk dcX9_fearThatCounts_0 19 rfl) rfl ?_
      refine v_iconst C 2 (dk dcX9_fearThatCounts_0 20 rfl) ki_2 ?_
      refine v_idiv C (dk dcX9_fearThatCounts_0 21 rfl) (by decide) ?_
      refine v_goto C 42 (dk dcX9_fearThatCounts_0 22 rfl) (by decide) ?_
      exact vj_sub [2, 3, 1] rfl (vX9_fearThatCounts_j42 hL C hd1 _ h)
  · replace h := if_t c_1 h
    refine v_iconst C 0 (dk dcX9_fearThatCounts_0 3 rfl) ki_0 ?_
    cases h
    exact v_iret C rfl (dk dcX9_fearThatCounts_0 4 rfl)
set_option maxRecDepth 20000 in
set_option maxHeartbeats 4000000 in
theorem mtX9_lookAround {l : Launch} {E : WEt} {wx : va_W} (L : Nat) (hL : 3 ≤ L)  {g : STt} {d1 : Nat} (hd1 : d1 < 10) {g' : STt} (h : fX9_lookAround g d1 = some g') : MT l E yX9_lookAround cX9_lookAround 5 none (L + 1) [.ref (aE E 7 0), .ref (aE E 19 d1)] (cellsC E g ++ wx) (cellsC E g' ++ wx) none := by
  refine mt_of (by decide +kernel) (Nat.le_of_ble_eq_true rfl) ?_
  intro p e s m args below meth c C
  replace C : CX p s m args meth c cX9_lookAround 5 RX9 none E := C
  unfold fX9_lookAround at h
  refine vj_sub (lv' := [(0, .ref (aE E 7 0)), (1, .ref (aE E 19 d1))]) [0, 1] rfl ?_
  refine v_aload_n C 1 (dk dcX9_lookAround_0 0 rfl) rfl rfl ?_
  refine v_bipush C 10 (dk dcX9_lookAround_0 1 rfl) kb_10 ?_
  obtain ⟨r_2, h_1, h⟩ := bnd1_s h
  refine v_callV1 C (mtX1_get (L - 1) (by omega) hd1 h_1) wmX1_get wd_667 (by omega) (by decide) rfl _ (ce_Donkey hd1) rfl rfl (Nat.le_of_ble_eq_true rfl) (dk dcX9_lookAround_0 2 rfl) ?_
  refine v_istore_n C (lv' := [(2, .int r_2), (0, .ref (aE E 7 0)), (1, .ref (aE E 19 d1))]) (dk dcX9_lookAround_0 3 rfl) rfl (by decide) rfl ?_
  refine v_aload_n C 2 (dk dcX9_lookAround_0 4 rfl) rfl rfl ?_
  refine v_bipush C 11 (dk dcX9_lookAround_0 5 rfl) kb_11 ?_
  obtain ⟨r_4, h_3, h⟩ := bnd1_s h
  refine v_callV1 C (mtX1_get (L - 1) (by omega) hd1 h_3) wmX1_get wd_667 (by omega) (by decide) rfl _ (ce_Donkey hd1) rfl rfl (Nat.le_of_ble_eq_true rfl) (dk dcX9_lookAround_0 6 rfl) ?_
  refine v_istore_n C (lv' := [(3, .int r_4), (2, .int r_2), (0, .ref (aE E 7 0)), (1, .ref (aE E 19 d1))]) (dk dcX9_lookAround_0 7 rfl) rfl (by decide) rfl ?_
  refine v_aload_n C 3 (dk dcX9_lookAround_0 8 rfl) rfl rfl ?_
  refine v_bipush C 12 (dk dcX9_lookAround_0 9 rfl) kb_12 ?_
  obtain ⟨r_6, h_5, h⟩ := bnd1_s h
  refine v_callV1 C (mtX1_get (L - 1) (by omega) hd1 h_5) wmX1_get wd_667 (by omega) (by decide) rfl _ (ce_Donkey hd1) rfl rfl (Nat.le_of_ble_eq_true rfl) (dk dcX9_lookAround_0 10 rfl) ?_
  refine v_istore C (lv' := [(4, .int r_6), (3, .int r_4), (2, .int r_2), (0, .ref (aE E 7 0)), (1, .ref (aE E 19 d1))]) (dk dcX9_lookAround_0 11 rfl) (by decide) rfl ?_
  refine v_aload_n C 3 (dk dcX9_lookAround_0 12 rfl) rfl rfl ?_
  refine gt_Walk_facts C wd_188 (dk dcX9_lookAround_0 13 rfl) ?_
  refine v_iconst C 0 (dk dcX9_lookAround_0 14 rfl) ki_0 ?_
  refine v_aload_n C 4 (dk dcX9_lookAround_0 15 rfl) rfl rfl ?_
  refine v_aload_n C 3 (dk dcX9_lookAround_0 16 rfl) rfl rfl ?_
  refine gt_Walk_road C wd_186 (dk dcX9_lookAround_0 17 rfl) ?_
  refine v_iload C 0 (dk dcX9_lookAround_0 18 rfl) rfl ?_
  obtain ⟨r_8, h_7, h⟩ := bnd1_s h
  refine v_callV1 C (mtX4_thingOf (L - 1) (by omega) h_7) wmX4_thingOf wd_677 (by omega) (by decide) rfl _ (ce_Road) rfl rfl (Nat.le_of_ble_eq_true rfl) (dk dcX9_lookAround_0 19 rfl) ?_
  obtain ⟨r_10, h_9, h⟩ := bnd1_s h
  refine v_callV1 C (mtX1_get (L - 1) (by omega) hd1 h_9) wmX1_get wd_667 (by omega) (by decide) rfl _ (ce_Donkey hd1) rfl rfl (Nat.le_of_ble_eq_true rfl) (dk dcX9_lookAround_0 20 rfl) ?_
  obtain ⟨b_11, h⟩ := gd_t h
  refine st_facts C b_11 (dk dcX9_lookAround_0 21 rfl) ?_
  refine v_aload_n C 3 (dk dcX9_lookAround_0 22 rfl) rfl rfl ?_
  refine gt_Walk_facts C wd_188 (dk dcX9_lookAround_0 23 rfl) ?_
  refine v_iconst C 1 (dk dcX9_lookAround_0 24 rfl) ki_1 ?_
  refine v_aload_n C 4 (dk dcX9_lookAround_0 25 rfl) rfl rfl ?_
  refine v_bipush C 7 (dk dcX9_lookAround_0 26 rfl) kb_7 ?_
  obtain ⟨r_13, h_12, h⟩ := bnd1_s h
  refine v_callV1 C (mtX1_get (L - 1) (by omega) hd1 h_12) wmX1_get wd_667 (by omega) (by decide) rfl _ (ce_Donkey hd1) rfl rfl (Nat.le_of_ble_eq_true rfl) (dk dcX9_lookAround_0 27 rfl) ?_
  obtain ⟨b_14, h⟩ := gd_t h
  refine st_facts C b_14 (dk dcX9_lookAround_0 28 rfl) ?_
  refine v_aload_n C 3 (dk dcX9_lookAround_0 29 rfl) rfl rfl ?_
  refine gt_Walk_facts C wd_188 (dk dcX9_lookAround_0 30 rfl) ?_
  refine v_iconst C 2 (dk dcX9_lookAround_0 31 rfl) ki_2 ?_
  refine v_aload_n C 4 (dk dcX9_lookAround_0 32 rfl) rfl rfl ?_
  refine v_bipush C 6 (dk dcX9_lookAround_0 33 rfl) kb_6 ?_
  obtain ⟨r_16, h_15, h⟩ := bnd1_s h
  refine v_callV1 C (mtX1_get (L - 1) (by omega) hd1 h_15) wmX1_get wd_667 (by omega) (by decide) rfl _ (ce_Donkey hd1) rfl rfl (Nat.le_of_ble_eq_true rfl) (dk dcX9_lookAround_0 34 rfl) ?_
  obtain ⟨b_17, h⟩ := gd_t h
  refine st_facts C b_17 (dk dcX9_lookAround_0 35 rfl) ?_
  refine v_aload_n C 3 (dk dcX9_lookAround_0 36 rfl) rfl rfl ?_
  refine gt_Walk_facts C wd_188 (dk dcX9_lookAround_0 37 rfl) ?_
  refine v_iconst C 3 (dk dcX9_lookAround_0 38 rfl) ki_3 ?_
  refine v_aload_n C 4 (dk dcX9_lookAround_0 39 rfl) rfl rfl ?_
  refine v_bipush C 8 (dk dcX9_lookAround_0 40 rfl) kb_8 ?_
  obtain ⟨r_19, h_18, h⟩ := bnd1_s h
  refine v_callV1 C (mtX1_get (L - 1) (by omega) hd1 h_18) wmX1_get wd_667 (by omega) (by decide) rfl _ (ce_Donkey hd1) rfl rfl (Nat.le_of_ble_eq_true rfl) (dk dcX9_lookAround_0 41 rfl) ?_
  obtain ⟨b_20, h⟩ := gd_t h
  refine st_facts C b_20 (dk dcX9_lookAround_0 42 rfl) ?_
  refine v_aload_n C 3 (dk dcX9_lookAround_0 43 rfl) rfl rfl ?_
  refine gt_Walk_facts C wd_188 (dk dcX9_lookAround_0 44 rfl) ?_
  refine v_iconst C 4 (dk dcX9_lookAround_0 45 rfl) ki_4 ?_
  refine v_iload_n C 2 (dk dcX9_lookAround_0 46 rfl) rfl rfl ?_
  refine v_iload_n C 1 (dk dcX9_lookAround_0 47 rfl) rfl rfl ?_
  refine v_isub C (dk dcX9_lookAround_1 0 rfl) ?_
  refine v_mabs C (by omega) wd_678 wn_absS wn_math wn_absC (Nat.le_of_ble_eq_true rfl) (dk dcX9_lookAround_1 1 rfl) ?_
  obtain ⟨b_21, h⟩ := gd_t h
  refine st_facts C b_21 (dk dcX9_lookAround_1 2 rfl) ?_
  refine v_aload_n C 3 (dk dcX9_lookAround_1 3 rfl) rfl rfl ?_
  refine gt_Walk_facts C wd_188 (dk dcX9_lookAround_1 4 rfl) ?_
  refine v_iconst C 5 (dk dcX9_lookAround_1 5 rfl) ki_5 ?_
  refine v_bipush C 99 (dk dcX9_lookAround_1 6 rfl) kb_99 ?_
  refine v_iload_n C 2 (dk dcX9_lookAround_1 7 rfl) rfl rfl ?_
  refine v_iload_n C 1 (dk dcX9_lookAround_1 8 rfl) rfl rfl ?_
  refine v_iadd C (dk dcX9_lookAround_1 9 rfl) ?_
  refine v_mmin C (by omega) wd_681 wn_minS wn_math wn_minC (Nat.le_of_ble_eq_true rfl) (dk dcX9_lookAround_1 10 rfl) ?_
  obtain ⟨b_22, h⟩ := gd_t h
  refine st_facts C b_22 (dk dcX9_lookAround_1 11 rfl) ?_
  refine v_aload_n C 3 (dk dcX9_lookAround_1 12 rfl) rfl rfl ?_
  refine gt_Walk_facts C wd_188 (dk dcX9_lookAround_1 13 rfl) ?_
  refine v_bipush C 6 (dk dcX9_lookAround_1 14 rfl) kb_6 ?_
  refine v_iload C 0 (dk dcX9_lookAround_1 15 rfl) rfl ?_
  obtain ⟨b_23, h⟩ := gd_t h
  refine st_facts C b_23 (dk dcX9_lookAround_1 16 rfl) ?_
  refine v_aload_n C 3 (dk dcX9_lookAround_1 17 rfl) rfl rfl ?_
  refine gt_Walk_facts C wd_188 (dk dcX9_lookAround_1 18 rfl) ?_
  refine v_bipush C 7 (dk dcX9_lookAround_1 19 rfl) kb_7 ?_
  refine v_aload_n C 3 (dk dcX9_lookAround_1 20 rfl) rfl rfl ?_
  refine gt_Walk_road C wd_186 (dk dcX9_lookAround_1 21 rfl) ?_
  refine v_iload C 0 (dk dcX9_lookAround_1 22 rfl) rfl ?_
  obtain ⟨r_25, h_24, h⟩ := bnd1_s h
  refine v_callV1 C (mtX4_kindOf (L - 1) (by omega) h_24) wmX4_kindOf wd_682 (by omega) (by decide) rfl _ (ce_Road) rfl rfl (Nat.le_of_ble_eq_true rfl) (dk dcX9_lookAround_1 23 rfl) ?_
  obtain ⟨b_26, h⟩ := gd_t h
  refine st_facts C b_26 (dk dcX9_lookAround_1 24 rfl) ?_
  refine v_aload_n C 3 (dk dcX9_lookAround_1 25 rfl) rfl rfl ?_
  refine gt_Walk_facts C wd_188 (dk dcX9_lookAround_1 26 rfl) ?_
  refine v_bipush C 8 (dk dcX9_lookAround_1 27 rfl) kb_8 ?_
  refine v_aload_n C 4 (dk dcX9_lookAround_1 28 rfl) rfl rfl ?_
  refine v_bipush C 14 (dk dcX9_lookAround_1 29 rfl) kb_14 ?_
  obtain ⟨r_28, h_27, h⟩ := bnd1_s h
  refine v_callV1 C (mtX1_get (L - 1) (by omega) hd1 h_27) wmX1_get wd_667 (by omega) (by decide) rfl _ (ce_Donkey hd1) rfl rfl (Nat.le_of_ble_eq_true rfl) (dk dcX9_lookAround_1 30 rfl) ?_
  refine v_bipush C 60 (dk dcX9_lookAround_1 31 rfl) kb_60 ?_
  refine v_irem C (dk dcX9_lookAround_1 32 rfl) (by decide) ?_
  obtain ⟨b_29, h⟩ := gd_t h
  refine st_facts C b_29 (dk dcX9_lookAround_1 33 rfl) ?_
  cases h
  exact v_vret C rfl (dk dcX9_lookAround_1 34 rfl)
set_option maxRecDepth 20000 in
set_option maxHeartbeats 4000000 in
theorem vX2_last_j63 {L : Nat} (hL : 2 ≤ L) (C : CX p s m args meth c cX2_last 4 RX2 (some .int) E) {g : STt} {l0 : Nat} {l1 : Int32} {l2 : Int32} {l3 : Int32} (hl0 : l0 < 7) {K32 : (Int32 × Int32) → Option Int32} (hK32 : ∀ {l2 : Int32} {l3 : Int32} (r : Int32), K32 (l2, l3) = some r → VJ p l e (rmL (L + 1)) s m args below meth c (QE below E (cellsC E g ++ wx) (some (.int r)) args s) E 4 (cellsC E g ++ wx) [(0, .ref (aE E 21 l0)), (1, .int l1), (2, .int l2), (3, .int l3)] [] 32) (r : Int32) (h : fX2_last_j63 K32 g l0 l1 l2 l3 = some r) : VJ p l e (rmL (L + 1)) s m args below meth c (QE below E (cellsC E g ++ wx) (some (.int r)) args s) E 4 (cellsC E g ++ wx) [(0, .ref (aE E 21 l0)), (1, .int l1), (2, .int l2), (3, .int l3)] [] 63 := by
  unfold fX2_last_j63 at h
  refine v_iinc C (lv' := [(3, .int (l3 + 1)), (0, .ref (aE E 21 l0)), (1, .int l1), (2, .int l2)]) (l3 + 1) 3 (dk dcX2_last_0 37 rfl) rfl (congrArg (fun z => l3 + z) ki_1) (by decide) rfl ?_
  refine v_goto C 32 (dk dcX2_last_0 38 rfl) (by decide) ?_
  exact vj_sub [1, 2, 3, 0] rfl (hK32 _ h)
set_option maxRecDepth 20000 in
set_option maxHeartbeats 4000000 in
theorem vX2_last_l32c {L : Nat} (hL : 2 ≤ L) (C : CX p s m args meth c cX2_last 4 RX2 (some .int) E) {g : STt} {l0 : Nat} {l1 : Int32} (hl0 : l0 < 7) {K32 : (Int32 × Int32) → Option Int32} (hK32 : ∀ {l2 : Int32} {l3 : Int32} (r : Int32), K32 (l2, l3) = some r → VJ p l e (rmL (L + 1)) s m args below meth c (QE below E (cellsC E g ++ wx) (some (.int r)) args s) E 4 (cellsC E g ++ wx) [(0, .ref (aE E 21 l0)), (1, .int l1), (2, .int l2), (3, .int l3)] [] 32) {l2 : Int32} {l3 : Int32} (r : Int32) (h : fX2_last_l32c K32 g l0 l1 l2 l3 = some r) : VJ p l e (rmL (L + 1)) s m args below meth c (QE below E (cellsC E g ++ wx) (some (.int r)) args s) E 4 (cellsC E g ++ wx) [(0, .ref (aE E 21 l0)), (1, .int l1), (2, .int l2), (3, .int l3)] [] 32 := by
  unfold fX2_last_l32c at h
  refine v_iload_n C 3 (dk dcX2_last_0 19 rfl) rfl rfl ?_
  refine v_aload_n C 0 (dk dcX2_last_0 20 rfl) rfl rfl ?_
  refine gt_Law_clauses C hl0 wd_164 (dk dcX2_last_0 21 rfl) ?_
  refine v_icmp_ge C 69 (dk dcX2_last_0 22 rfl) (by decide) (fun c_1 => ?_) (fun c_1 => ?_)
  · replace h := if_t c_1 h
    refine v_iload_n C 2 (dk dcX2_last_0 39 rfl) rfl rfl ?_
    cases h
    exact v_iret C rfl (dk dcX2_last_0 40 rfl)
  · replace h := if_f c_1 h
    refine v_iload_n C 3 (dk dcX2_last_0 23 rfl) rfl rfl ?_
    refine v_bipush C 10 (dk dcX2_last_0 24 rfl) kb_10 ?_
    refine v_icmp_ge C 69 (dk dcX2_last_0 25 rfl) (by decide) (fun c_2 => ?_) (fun c_2 => ?_)
    · replace h := if_t c_2 h
      refine v_iload_n C 2 (dk dcX2_last_0 39 rfl) rfl rfl ?_
      cases h
      exact v_iret C rfl (dk dcX2_last_0 40 rfl)
    · replace h := if_f c_2 h
      refine v_aload_n C 0 (dk dcX2_last_0 26 rfl) rfl rfl ?_
      refine gt_Law_words C hl0 wd_161 (dk dcX2_last_0 27 rfl) ?_
      refine v_iload_n C 3 (dk dcX2_last_0 28 rfl) rfl rfl ?_
      obtain ⟨b_3, h⟩ := gd_t h
      refine ld_lawWords C hl0 b_3 (dk dcX2_last_0 29 rfl) ?_
      refine v_iload_n C 1 (dk dcX2_last_0 30 rfl) rfl rfl ?_
      refine v_icmp_ne C 63 (dk dcX2_last_0 31 rfl) (by decide) (fun c_4 => ?_) (fun c_4 => ?_)
      · replace h := if_f c_4 h
        exact vj_sub [0, 1, 2, 3] rfl (vX2_last_j63 hL C hl0 hK32 _ h)
      · replace h := if_t c_4 h
        refine v_aload_n C 0 (dk dcX2_last_0 32 rfl) rfl rfl ?_
        refine gt_Law_amounts C hl0 wd_162 (dk dcX2_last_0 33 rfl) ?_
        refine v_iload_n C 3 (dk dcX2_last_0 34 rfl) rfl rfl ?_
        obtain ⟨b_5, h⟩ := gd_t h
        refine ld_lawAmounts C hl0 b_5 (dk dcX2_last_0 35 rfl) ?_
        refine v_istore_n C (lv' := [(2, .int (g.2.1 26 l0 l3.toNatClampNeg)), (0, .ref (aE E 21 l0)), (1, .int l1), (3, .int l3)]) (dk dcX2_last_0 36 rfl) rfl (by decide) rfl ?_
        exact vj_sub [1, 2, 0, 3] rfl (vX2_last_j63 hL C hl0 hK32 _ h)
set_option maxRecDepth 20000 in
set_option maxHeartbeats 4000000 in
theorem vX2_last_l32 {L : Nat} (hL : 2 ≤ L) (C : CX p s m args meth c cX2_last 4 RX2 (some .int) E) {g : STt} {l0 : Nat} {l1 : Int32} (hl0 : l0 < 7) {l2 : Int32} {l3 : Int32} (r : Int32) (h : fX2_last_l32 g l0 l1 l2 l3 = some r) : VJ p l e (rmL (L + 1)) s m args below meth c (QE below E (cellsC E g ++ wx) (some (.int r)) args s) E 4 (cellsC E g ++ wx) [(0, .ref (aE E 21 l0)), (1, .int l1), (2, .int l2), (3, .int l3)] [] 32 :=
  iterO_ind (F := fun K z => fX2_last_l32c K g l0 l1 z.1 z.2) (fun z r => VJ p l e (rmL (L + 1)) s m args below meth c (QE below E (cellsC E g ++ wx) (some (.int r)) args s) E 4 (cellsC E g ++ wx) [(0, .ref (aE E 21 l0)), (1, .int l1), (2, .int z.1), (3, .int z.2)] [] 32) (fun K hK z r h => vX2_last_l32c hL C hl0 (fun {l2} {l3} r h => hK (l2, l3) r h) r h) fuelN (l2, l3) r h
set_option maxRecDepth 20000 in
set_option maxHeartbeats 4000000 in
theorem vX2_last_j29 {L : Nat} (hL : 2 ≤ L) (C : CX p s m args meth c cX2_last 4 RX2 (some .int) E) {g : STt} {l0 : Nat} {l1 : Int32} {s0 : Int32} (hl0 : l0 < 7) (r : Int32) (h : fX2_last_j29 g l0 l1 s0 = some r) : VJ p l e (rmL (L + 1)) s m args below meth c (QE below E (cellsC E g ++ wx) (some (.int r)) args s) E 4 (cellsC E g ++ wx) [(0, .ref (aE E 21 l0)), (1, .int l1)] [.int s0] 29 := by
  unfold fX2_last_j29 at h
  refine v_istore_n C (lv' := [(2, .int s0), (0, .ref (aE E 21 l0)), (1, .int l1)]) (dk dcX2_last_0 16 rfl) rfl (by decide) rfl ?_
  refine v_iconst C 0 (dk dcX2_last_0 17 rfl) ki_0 ?_
  refine v_istore_n C (lv' := [(3, .int 0), (2, .int s0), (0, .ref (aE E 21 l0)), (1, .int l1)]) (dk dcX2_last_0 18 rfl) rfl (by decide) rfl ?_
  exact vj_sub [2, 3, 1, 0] rfl (vX2_last_l32 hL C hl0 _ h)
set_option maxRecDepth 20000 in
set_option maxHeartbeats 4000000 in
theorem mtX2_last {l : Launch} {E : WEt} {wx : va_W} (L : Nat) (hL : 2 ≤ L)  {g : STt} {d0 : Nat} (hd0 : d0 < 7) {x1 : Int32} {rr : Int32} (h : fX2_last g d0 x1 = some rr) : MT l E yX2_last cX2_last 4 (some .int) (L + 1) [.ref (aE E 21 d0), .int x1] (cellsC E g ++ wx) (cellsC E g ++ wx) (some (.int rr)) := by
  refine mt_of (by decide +kernel) (Nat.le_of_ble_eq_true rfl) ?_
  intro p e s m args below meth c C
  replace C : CX p s m args meth c cX2_last 4 RX2 (some .int) E := C
  unfold fX2_last at h
  refine vj_sub (lv' := [(0, .ref (aE E 21 d0)), (1, .int x1)]) [0, 1] rfl ?_
  refine v_iload_n C 1 (dk dcX2_last_0 0 rfl) rfl rfl ?_
  refine v_iconst C 3 (dk dcX2_last_0 1 rfl) ki_3 ?_
  refine v_icmp_ne C 9 (dk dcX2_last_0 2 rfl) (by decide) (fun c_1 => ?_) (fun c_1 => ?_)
  · replace h := if_f c_1 h
    refine v_iload_n C 1 (dk dcX2_last_0 5 rfl) rfl rfl ?_
    refine v_iconst C 4 (dk dcX2_last_0 6 rfl) ki_4 ?_
    refine v_icmp_ne C 18 (dk dcX2_last_0 7 rfl) (by decide) (fun c_2 => ?_) (fun c_2 => ?_)
    · replace h := if_f c_2 h
      refine v_iload_n C 1 (dk dcX2_last_0 10 rfl) rfl rfl ?_
      refine v_iconst C 5 (dk dcX2_last_0 11 rfl) ki_5 ?_
      refine v_icmp_ne C 27 (dk dcX2_last_0 12 rfl) (by decide) (fun c_3 => ?_) (fun c_3 => ?_)
      · replace h := if_f c_3 h
        refine v_bipush C 9 (dk dcX2_last_0 15 rfl) kb_9 ?_
        exact vj_sub [0, 1] rfl (vX2_last_j29 hL C hd0 _ h)
      · replace h := if_t c_3 h
        refine v_iconst C 2 (dk dcX2_last_0 13 rfl) ki_2 ?_
        refine v_goto C 29 (dk dcX2_last_0 14 rfl) (by decide) ?_
        exact vj_sub [0, 1] rfl (vX2_last_j29 hL C hd0 _ h)
    · replace h := if_t c_2 h
      refine v_iconst C 5 (dk dcX2_last_0 8 rfl) ki_5 ?_
      refine v_goto C 29 (dk dcX2_last_0 9 rfl) (by decide) ?_
      exact vj_sub [0, 1] rfl (vX2_last_j29 hL C hd0 _ h)
  · replace h := if_t c_1 h
    refine v_iconst C 3 (dk dcX2_last_0 3 rfl) ki_3 ?_
    refine v_goto C 29 (dk dcX2_last_0 4 rfl) (by decide) ?_
    exact vj_sub [0, 1] rfl (vX2_last_j29 hL C hd0 _ h)
set_option maxRecDepth 20000 in
set_option maxHeartbeats 4000000 in
theorem mtX9_moreBy {l : Launch} {E : WEt} {wx : va_W} (L : Nat) (hL : 3 ≤ L)  {g : STt} {d1 : Nat} (hd1 : d1 < 10) {x2 : Int32} {rr : Int32} (h : fX9_moreBy g d1 x2 = some rr) : MT l E yX9_moreBy cX9_moreBy 3 (some .int) (L + 1) [.ref (aE E 7 0), .ref (aE E 19 d1), .int x2] (cellsC E g ++ wx) (cellsC E g ++ wx) (some (.int rr)) := by
  refine mt_of (by decide +kernel) (Nat.le_of_ble_eq_true rfl) ?_
  intro p e s m args below meth c C
  replace C : CX p s m args meth c cX9_moreBy 3 RX9 (some .int) E := C
  unfold fX9_moreBy at h
  refine vj_sub (lv' := [(0, .ref (aE E 7 0)), (1, .ref (aE E 19 d1)), (2, .int x2)]) [0, 1, 2] rfl ?_
  refine v_iload_n C 2 (dk dcX9_moreBy_0 0 rfl) rfl rfl ?_
  by_cases c_1 : x2 = 1
  · replace h := if_t c_1 h
    refine v_tableIn C 44 (dk dcX9_moreBy_0 1 rfl) (by rw [c_1]; decide) (by rw [c_1]; decide) (by rw [c_1]; rfl) (by decide) ?_
    refine v_aload_n C 0 (dk dcX9_moreBy_0 2 rfl) rfl rfl ?_
    obtain ⟨b_2, h⟩ := gd_t h
    refine gt_Walk_law C wd_187 (dk dcX9_moreBy_0 3 rfl) ?_
    refine v_iconst C 3 (dk dcX9_moreBy_0 4 rfl) ki_3 ?_
    obtain ⟨r_4, h_3, h⟩ := bnd1_s h
    refine v_callV1 C (mtX2_last (L - 1) (by omega) b_2 h_3) wmX2_last wd_655 (by omega) (by decide) rfl _ (ce_Law b_2) rfl rfl (Nat.le_of_ble_eq_true rfl) (dk dcX9_moreBy_0 5 rfl) ?_
    cases h
    exact v_iret C rfl (dk dcX9_moreBy_0 6 rfl)
  · replace h := if_f c_1 h
    by_cases c_2 : x2 = 2
    · replace h := if_t c_2 h
      refine v_tableIn C 74 (dk dcX9_moreBy_0 1 rfl) (by rw [c_2]; decide) (by rw [c_2]; decide) (by rw [c_2]; rfl) (by decide) ?_
      refine v_iconst C 0 (dk dcX9_moreBy_0 20 rfl) ki_0 ?_
      cases h
      exact v_iret C rfl (dk dcX9_moreBy_0 21 rfl)
    · replace h := if_f c_2 h
      by_cases c_3 : x2 = 3
      · replace h := if_t c_3 h
        refine v_tableIn C 71 (dk dcX9_moreBy_0 1 rfl) (by rw [c_3]; decide) (by rw [c_3]; decide) (by rw [c_3]; rfl) (by decide) ?_
        refine v_bipush C (-20) (dk dcX9_moreBy_0 18 rfl) kb_m20 ?_
        cases h
        exact v_iret C rfl (dk dcX9_moreBy_0 19 rfl)
      · replace h := if_f c_3 h
        by_cases c_4 : x2 = 4
        · replace h := if_t c_4 h
          refine v_tableIn C 53 (dk dcX9_moreBy_0 1 rfl) (by rw [c_4]; decide) (by rw [c_4]; decide) (by rw [c_4]; rfl) (by decide) ?_
          refine v_aload_n C 1 (dk dcX9_moreBy_0 7 rfl) rfl rfl ?_
          refine v_bipush C 7 (dk dcX9_moreBy_0 8 rfl) kb_7 ?_
          obtain ⟨r_6, h_5, h⟩ := bnd1_s h
          refine v_callV1 C (mtX1_get (L - 1) (by omega) hd1 h_5) wmX1_get wd_667 (by omega) (by decide) rfl _ (ce_Donkey hd1) rfl rfl (Nat.le_of_ble_eq_true rfl) (dk dcX9_moreBy_0 9 rfl) ?_
          refine v_iconst C 2 (dk dcX9_moreBy_0 10 rfl) ki_2 ?_
          refine v_idiv C (dk dcX9_moreBy_0 11 rfl) (by decide) ?_
          cases h
          exact v_iret C rfl (dk dcX9_moreBy_0 12 rfl)
        · replace h := if_f c_4 h
          by_cases c_5 : x2 = 5
          · replace h := if_t c_5 h
            refine v_tableIn C 74 (dk dcX9_moreBy_0 1 rfl) (by rw [c_5]; decide) (by rw [c_5]; decide) (by rw [c_5]; rfl) (by decide) ?_
            refine v_iconst C 0 (dk dcX9_moreBy_0 20 rfl) ki_0 ?_
            cases h
            exact v_iret C rfl (dk dcX9_moreBy_0 21 rfl)
          · replace h := if_f c_5 h
            by_cases c_6 : x2 = 6
            · replace h := if_t c_6 h
              refine v_tableIn C 74 (dk dcX9_moreBy_0 1 rfl) (by rw [c_6]; decide) (by rw [c_6]; decide) (by rw [c_6]; rfl) (by decide) ?_
              refine v_iconst C 0 (dk dcX9_moreBy_0 20 rfl) ki_0 ?_
              cases h
              exact v_iret C rfl (dk dcX9_moreBy_0 21 rfl)
            · replace h := if_f c_6 h
              by_cases c_7 : x2 = 7
              · replace h := if_t c_7 h
                refine v_tableIn C 62 (dk dcX9_moreBy_0 1 rfl) (by rw [c_7]; decide) (by rw [c_7]; decide) (by rw [c_7]; rfl) (by decide) ?_
                refine v_aload_n C 0 (dk dcX9_moreBy_0 13 rfl) rfl rfl ?_
                obtain ⟨b_8, h⟩ := gd_t h
                refine gt_Walk_law C wd_187 (dk dcX9_moreBy_0 14 rfl) ?_
                refine v_iconst C 4 (dk dcX9_moreBy_0 15 rfl) ki_4 ?_
                obtain ⟨r_10, h_9, h⟩ := bnd1_s h
                refine v_callV1 C (mtX2_last (L - 1) (by omega) b_8 h_9) wmX2_last wd_655 (by omega) (by decide) rfl _ (ce_Law b_8) rfl rfl (Nat.le_of_ble_eq_true rfl) (dk dcX9_moreBy_0 16 rfl) ?_
                cases h
                exact v_iret C rfl (dk dcX9_moreBy_0 17 rfl)
              · replace h := if_f c_7 h
                have ec_1 := i32_ne (k := 1) c_1 (by decide)
                have ec_2 := i32_ne (k := 2) c_2 (by decide)
                have ec_3 := i32_ne (k := 3) c_3 (by decide)
                have ec_4 := i32_ne (k := 4) c_4 (by decide)
                have ec_5 := i32_ne (k := 5) c_5 (by decide)
                have ec_6 := i32_ne (k := 6) c_6 (by decide)
                have ec_7 := i32_ne (k := 7) c_7 (by decide)
                refine v_tableOut C 74 (dk dcX9_moreBy_0 1 rfl) (by omega) (by decide) ?_
                refine v_iconst C 0 (dk dcX9_moreBy_0 20 rfl) ki_0 ?_
                cases h
                exact v_iret C rfl (dk dcX9_moreBy_0 21 rfl)
set_option maxRecDepth 20000 in
set_option maxHeartbeats 4000000 in
theorem vX9_weigh_l234c {L : Nat} (hL : 4 ≤ L) (C : CX p s m args meth c cX9_weigh 9 RX9 (some .int) E) {g : STt} {K234 : (Int32 × Int32) → Option (STt × Int32)} (hK234 : ∀ {l7 : Int32} {l8 : Int32} (r : STt × Int32), K234 (l7, l8) = some r → VJ p l e (rmL (L + 1)) s m args below meth c (QE below E (cellsC E r.1 ++ wx) (some (.int r.2)) args s) E 9 (cellsC E g ++ wx) [(0, .ref (aE E 7 0)), (7, .int l7), (8, .int l8)] [] 234) {l7 : Int32} {l8 : Int32} (r : STt × Int32) (h : fX9_weigh_l234c K234 g l7 l8 = some r) : VJ p l e (rmL (L + 1)) s m args below meth c (QE below E (cellsC E r.1 ++ wx) (some (.int r.2)) args s) E 9 (cellsC E g ++ wx) [(0, .ref (aE E 7 0)), (7, .int l7), (8, .int l8)] [] 234 := by
  unfold fX9_weigh_l234c at h
  refine v_iload C 2 (dk dcX9_weigh_2 32 rfl) rfl ?_
  refine v_aload_n C 0 (dk dcX9_weigh_2 33 rfl) rfl rfl ?_
  refine gt_Walk_less C wd_189 (dk dcX9_weigh_2 34 rfl) ?_
  refine al_less C (dk dcX9_weigh_2 35 rfl) ?_
  refine v_icmp_ge C 262 (dk dcX9_weigh_2 36 rfl) (by decide) (fun c_1 => ?_) (fun c_1 => ?_)
  · replace h := if_t c_1 h
    refine v_iload C 1 (dk dcX9_weigh_2 46 rfl) rfl ?_
    cases h
    exact v_iret C rfl (dk dcX9_weigh_2 47 rfl)
  · replace h := if_f c_1 h
    refine v_iload C 1 (dk dcX9_weigh_2 37 rfl) rfl ?_
    refine v_aload_n C 0 (dk dcX9_weigh_2 38 rfl) rfl rfl ?_
    refine gt_Walk_less C wd_189 (dk dcX9_weigh_2 39 rfl) ?_
    refine v_iload C 2 (dk dcX9_weigh_2 40 rfl) rfl ?_
    obtain ⟨b_2, h⟩ := gd_t h
    refine ld_less C b_2 (dk dcX9_weigh_2 41 rfl) ?_
    refine v_isub C (dk dcX9_weigh_2 42 rfl) ?_
    refine v_istore C (lv' := [(7, .int (l7 - (g.2.1 8 0 l8.toNatClampNeg))), (0, .ref (aE E 7 0)), (8, .int l8)]) (dk dcX9_weigh_2 43 rfl) (by decide) rfl ?_
    refine v_iinc C (lv' := [(8, .int (l8 + 1)), (7, .int (l7 - (g.2.1 8 0 l8.toNatClampNeg))), (0, .ref (aE E 7 0))]) (l8 + 1) 2 (dk dcX9_weigh_2 44 rfl) rfl (congrArg (fun z => l8 + z) ki_1) (by decide) rfl ?_
    refine v_goto C 234 (dk dcX9_weigh_2 45 rfl) (by decide) ?_
    exact vj_sub [2, 1, 0] rfl (hK234 _ h)
set_option maxRecDepth 20000 in
set_option maxHeartbeats 4000000 in
theorem vX9_weigh_l234 {L : Nat} (hL : 4 ≤ L) (C : CX p s m args meth c cX9_weigh 9 RX9 (some .int) E) {g : STt} {l7 : Int32} {l8 : Int32} (r : STt × Int32) (h : fX9_weigh_l234 g l7 l8 = some r) : VJ p l e (rmL (L + 1)) s m args below meth c (QE below E (cellsC E r.1 ++ wx) (some (.int r.2)) args s) E 9 (cellsC E g ++ wx) [(0, .ref (aE E 7 0)), (7, .int l7), (8, .int l8)] [] 234 :=
  iterO_ind (F := fun K z => fX9_weigh_l234c K g z.1 z.2) (fun z r => VJ p l e (rmL (L + 1)) s m args below meth c (QE below E (cellsC E r.1 ++ wx) (some (.int r.2)) args s) E 9 (cellsC E g ++ wx) [(0, .ref (aE E 7 0)), (7, .int z.1), (8, .int z.2)] [] 234) (fun K hK z r h => vX9_weigh_l234c hL C (fun {l7} {l8} r h => hK (l7, l8) r h) r h) fuelN (l7, l8) r h
set_option maxRecDepth 20000 in
set_option maxHeartbeats 4000000 in
theorem vX9_weigh_j209 {L : Nat} (hL : 4 ≤ L) (C : CX p s m args meth c cX9_weigh 9 RX9 (some .int) E) {g : STt} {l1 : Nat} {l2 : Int32} {s0 : Int32} {s1 : Int32} (hl1 : l1 < 10) (r : STt × Int32) (h : fX9_weigh_j209 g l1 l2 s0 s1 = some r) : VJ p l e (rmL (L + 1)) s m args below meth c (QE below E (cellsC E r.1 ++ wx) (some (.int r.2)) args s) E 9 (cellsC E g ++ wx) [(0, .ref (aE E 7 0)), (1, .ref (aE E 19 l1)), (2, .int l2)] [.int s0, .int s1, .ref (aE E 9 0)] 209 := by
  unfold fX9_weigh_j209 at h
  obtain ⟨b_1, h⟩ := gd_t h
  refine st_less C b_1 (dk dcX9_weigh_2 17 rfl) ?_
  refine v_aload_n C 0 (dk dcX9_weigh_2 18 rfl) rfl rfl ?_
  obtain ⟨b_2, h⟩ := gd_t h
  refine gt_Walk_law C wd_187 (dk dcX9_weigh_2 19 rfl) ?_
  refine v_iconst C 0 (dk dcX9_weigh_2 20 rfl) ki_0 ?_
  refine v_aload_n C 0 (dk dcX9_weigh_2 21 rfl) rfl rfl ?_
  refine gt_Walk_facts C wd_188 (dk dcX9_weigh_2 22 rfl) ?_
  obtain ⟨r_4, h_3, h⟩ := bnd1_s h
  refine v_callV1 C (mtX2_together (L - 1) (by omega) b_2 h_3) wmX2_together wd_683 (by omega) (by decide) rfl _ (ce_Law b_2) rfl rfl (Nat.le_of_ble_eq_true rfl) (dk dcX9_weigh_2 23 rfl) ?_
  refine v_aload_n C 0 (dk dcX9_weigh_2 24 rfl) rfl rfl ?_
  refine v_aload_n C 1 (dk dcX9_weigh_2 25 rfl) rfl rfl ?_
  refine v_iload_n C 2 (dk dcX9_weigh_2 26 rfl) rfl rfl ?_
  obtain ⟨r_6, h_5, h⟩ := bnd1_s h
  refine v_callV1 C (mtX9_moreBy (L - 1) (by omega) hl1 h_5) wmX9_moreBy wd_714 (by omega) (by decide) rfl _ (ce_Walk) rfl rfl (Nat.le_of_ble_eq_true rfl) (dk dcX9_weigh_2 27 rfl) ?_
  refine v_iadd C (dk dcX9_weigh_2 28 rfl) ?_
  refine v_istore C (lv' := [(7, .int (r_4 + r_6)), (0, .ref (aE E 7 0)), (1, .ref (aE E 19 l1)), (2, .int l2)]) (dk dcX9_weigh_2 29 rfl) (by decide) rfl ?_
  refine v_iconst C 0 (dk dcX9_weigh_2 30 rfl) ki_0 ?_
  refine v_istore C (lv' := [(8, .int 0), (7, .int (r_4 + r_6)), (0, .ref (aE E 7 0)), (1, .ref (aE E 19 l1)), (2, .int l2)]) (dk dcX9_weigh_2 31 rfl) (by decide) rfl ?_
  exact vj_sub [2, 1, 0] rfl (vX9_weigh_l234 hL C _ h)
set_option maxRecDepth 20000 in
set_option maxHeartbeats 4000000 in
theorem vX9_weigh_j189 {L : Nat} (hL : 4 ≤ L) (C : CX p s m args meth c cX9_weigh 9 RX9 (some .int) E) {g : STt} {l1 : Nat} {l2 : Int32} {s0 : Int32} {s1 : Int32} (hl1 : l1 < 10) (r : STt × Int32) (h : fX9_weigh_j189 g l1 l2 s0 s1 = some r) : VJ p l e (rmL (L + 1)) s m args below meth c (QE below E (cellsC E r.1 ++ wx) (some (.int r.2)) args s) E 9 (cellsC E g ++ wx) [(0, .ref (aE E 7 0)), (1, .ref (aE E 19 l1)), (2, .int l2)] [.int s0, .int s1, .ref (aE E 9 0)] 189 := by
  unfold fX9_weigh_j189 at h
  obtain ⟨b_1, h⟩ := gd_t h
  refine st_less C b_1 (dk dcX9_weigh_2 7 rfl) ?_
  refine v_aload_n C 0 (dk dcX9_weigh_2 8 rfl) rfl rfl ?_
  refine gt_Walk_less C wd_189 (dk dcX9_weigh_2 9 rfl) ?_
  refine v_bipush C 6 (dk dcX9_weigh_2 10 rfl) kb_6 ?_
  refine v_aload_n C 1 (dk dcX9_weigh_2 11 rfl) rfl rfl ?_
  obtain ⟨r_3, h_2, h⟩ := bnd1_s h
  refine v_callV1 C (mtX1_sits (L - 1) (by omega) hl1 h_2) wmX1_sits wd_710 (by omega) (by decide) rfl _ (ce_Donkey hl1) rfl rfl (Nat.le_of_ble_eq_true rfl) (dk dcX9_weigh_2 12 rfl) ?_
  refine v_if_eq C 208 (dk dcX9_weigh_2 13 rfl) (by decide) (fun c_4 => ?_) (fun c_4 => ?_)
  · replace h := if_t c_4 h
    refine v_iconst C 0 (dk dcX9_weigh_2 16 rfl) ki_0 ?_
    exact vj_sub [0, 1, 2] rfl (vX9_weigh_j209 hL C hl1 _ h)
  · replace h := if_f c_4 h
    refine v_bipush C 15 (dk dcX9_weigh_2 14 rfl) kb_15 ?_
    refine v_goto C 209 (dk dcX9_weigh_2 15 rfl) (by decide) ?_
    exact vj_sub [0, 1, 2] rfl (vX9_weigh_j209 hL C hl1 _ h)
set_option maxRecDepth 20000 in
set_option maxHeartbeats 4000000 in
theorem vX9_weigh_j162 {L : Nat} (hL : 4 ≤ L) (C : CX p s m args meth c cX9_weigh 9 RX9 (some .int) E) {g : STt} {l1 : Nat} {l2 : Int32} {l3 : Int32} {l4 : Int32} {s0 : Int32} {s1 : Int32} (hl1 : l1 < 10) (r : STt × Int32) (h : fX9_weigh_j162 g l1 l2 l3 l4 s0 s1 = some r) : VJ p l e (rmL (L + 1)) s m args below meth c (QE below E (cellsC E r.1 ++ wx) (some (.int r.2)) args s) E 9 (cellsC E g ++ wx) [(0, .ref (aE E 7 0)), (1, .ref (aE E 19 l1)), (2, .int l2), (3, .int l3), (4, .int l4)] [.int s0, .int s1, .ref (aE E 9 0)] 162 := by
  unfold fX9_weigh_j162 at h
  obtain ⟨b_1, h⟩ := gd_t h
  refine st_less C b_1 (dk dcX9_weigh_1 40 rfl) ?_
  refine v_aload_n C 0 (dk dcX9_weigh_1 41 rfl) rfl rfl ?_
  refine gt_Walk_less C wd_189 (dk dcX9_weigh_1 42 rfl) ?_
  refine v_iconst C 5 (dk dcX9_weigh_1 43 rfl) ki_5 ?_
  refine v_iload C 4 (dk dcX9_weigh_1 44 rfl) rfl ?_
  refine v_bipush C 6 (dk dcX9_weigh_1 45 rfl) kb_6 ?_
  refine v_icmp_ne C 188 (dk dcX9_weigh_1 46 rfl) (by decide) (fun c_2 => ?_) (fun c_2 => ?_)
  · replace h := if_f c_2 h
    refine v_iconst C 0 (dk dcX9_weigh_2 6 rfl) ki_0 ?_
    exact vj_sub [0, 1, 2] rfl (vX9_weigh_j189 hL C hl1 _ h)
  · replace h := if_t c_2 h
    refine v_aload_n C 0 (dk dcX9_weigh_1 47 rfl) rfl rfl ?_
    refine gt_Walk_road C wd_186 (dk dcX9_weigh_2 0 rfl) ?_
    refine v_iload_n C 3 (dk dcX9_weigh_2 1 rfl) rfl rfl ?_
    obtain ⟨r_4, h_3, h⟩ := bnd1_s h
    refine v_callV1 C (mtX4_numberOf (L - 1) (by omega) h_3) wmX4_numberOf wd_708 (by omega) (by decide) rfl _ (ce_Road) rfl rfl (Nat.le_of_ble_eq_true rfl) (dk dcX9_weigh_2 2 rfl) ?_
    refine v_iload_n C 3 (dk dcX9_weigh_2 3 rfl) rfl rfl ?_
    refine v_imul C (dk dcX9_weigh_2 4 rfl) ?_
    refine v_goto C 189 (dk dcX9_weigh_2 5 rfl) (by decide) ?_
    exact vj_sub [0, 1, 2] rfl (vX9_weigh_j189 hL C hl1 _ h)
set_option maxRecDepth 20000 in
set_option maxHeartbeats 4000000 in
theorem vX9_weigh_j138 {L : Nat} (hL : 4 ≤ L) (C : CX p s m args meth c cX9_weigh 9 RX9 (some .int) E) {g : STt} {l1 : Nat} {l2 : Int32} {l3 : Int32} {l4 : Int32} {s0 : Int32} {s1 : Int32} (hl1 : l1 < 10) (r : STt × Int32) (h : fX9_weigh_j138 g l1 l2 l3 l4 s0 s1 = some r) : VJ p l e (rmL (L + 1)) s m args below meth c (QE below E (cellsC E r.1 ++ wx) (some (.int r.2)) args s) E 9 (cellsC E g ++ wx) [(0, .ref (aE E 7 0)), (1, .ref (aE E 19 l1)), (2, .int l2), (3, .int l3), (4, .int l4)] [.int s0, .int s1, .ref (aE E 9 0)] 138 := by
  unfold fX9_weigh_j138 at h
  obtain ⟨b_1, h⟩ := gd_t h
  refine st_less C b_1 (dk dcX9_weigh_1 26 rfl) ?_
  refine v_aload_n C 0 (dk dcX9_weigh_1 27 rfl) rfl rfl ?_
  refine gt_Walk_less C wd_189 (dk dcX9_weigh_1 28 rfl) ?_
  refine v_iconst C 4 (dk dcX9_weigh_1 29 rfl) ki_4 ?_
  refine v_iload C 4 (dk dcX9_weigh_1 30 rfl) rfl ?_
  refine v_iconst C 5 (dk dcX9_weigh_1 31 rfl) ki_5 ?_
  refine v_icmp_ne C 161 (dk dcX9_weigh_1 32 rfl) (by decide) (fun c_2 => ?_) (fun c_2 => ?_)
  · replace h := if_f c_2 h
    refine v_iconst C 0 (dk dcX9_weigh_1 39 rfl) ki_0 ?_
    exact vj_sub [0, 1, 2, 3, 4] rfl (vX9_weigh_j162 hL C hl1 _ h)
  · replace h := if_t c_2 h
    refine v_aload_n C 1 (dk dcX9_weigh_1 33 rfl) rfl rfl ?_
    refine v_bipush C 8 (dk dcX9_weigh_1 34 rfl) kb_8 ?_
    obtain ⟨r_4, h_3, h⟩ := bnd1_s h
    refine v_callV1 C (mtX1_get (L - 1) (by omega) hl1 h_3) wmX1_get wd_667 (by omega) (by decide) rfl _ (ce_Donkey hl1) rfl rfl (Nat.le_of_ble_eq_true rfl) (dk dcX9_weigh_1 35 rfl) ?_
    refine v_iconst C 2 (dk dcX9_weigh_1 36 rfl) ki_2 ?_
    refine v_idiv C (dk dcX9_weigh_1 37 rfl) (by decide) ?_
    refine v_goto C 162 (dk dcX9_weigh_1 38 rfl) (by decide) ?_
    exact vj_sub [0, 1, 2, 3, 4] rfl (vX9_weigh_j162 hL C hl1 _ h)
set_option maxRecDepth 20000 in
set_option maxHeartbeats 4000000 in
theorem vX9_weigh_j117 {L : Nat} (hL : 4 ≤ L) (C : CX p s m args meth c cX9_weigh 9 RX9 (some .int) E) {g : STt} {l1 : Nat} {l2 : Int32} {l3 : Int32} {l4 : Int32} {l6 : Int32} {s0 : Int32} {s1 : Int32} (hl1 : l1 < 10) (r : STt × Int32) (h : fX9_weigh_j117 g l1 l2 l3 l4 l6 s0 s1 = some r) : VJ p l e (rmL (L + 1)) s m args below meth c (QE below E (cellsC E r.1 ++ wx) (some (.int r.2)) args s) E 9 (cellsC E g ++ wx) [(0, .ref (aE E 7 0)), (1, .ref (aE E 19 l1)), (2, .int l2), (3, .int l3), (4, .int l4), (6, .int l6)] [.int s0, .int s1, .ref (aE E 9 0)] 117 := by
  unfold fX9_weigh_j117 at h
  obtain ⟨b_1, h⟩ := gd_t h
  refine st_less C b_1 (dk dcX9_weigh_1 15 rfl) ?_
  refine v_aload_n C 0 (dk dcX9_weigh_1 16 rfl) rfl rfl ?_
  refine gt_Walk_less C wd_189 (dk dcX9_weigh_1 17 rfl) ?_
  refine v_iconst C 3 (dk dcX9_weigh_1 18 rfl) ki_3 ?_
  refine v_iload C 5 (dk dcX9_weigh_1 19 rfl) rfl ?_
  refine v_if_eq C 137 (dk dcX9_weigh_1 20 rfl) (by decide) (fun c_2 => ?_) (fun c_2 => ?_)
  · replace h := if_t c_2 h
    refine v_iconst C 0 (dk dcX9_weigh_1 25 rfl) ki_0 ?_
    exact vj_sub [0, 1, 2, 3, 4] rfl (vX9_weigh_j138 hL C hl1 _ h)
  · replace h := if_f c_2 h
    refine v_aload_n C 1 (dk dcX9_weigh_1 21 rfl) rfl rfl ?_
    refine v_bipush C 6 (dk dcX9_weigh_1 22 rfl) kb_6 ?_
    obtain ⟨r_4, h_3, h⟩ := bnd1_s h
    refine v_callV1 C (mtX1_get (L - 1) (by omega) hl1 h_3) wmX1_get wd_667 (by omega) (by decide) rfl _ (ce_Donkey hl1) rfl rfl (Nat.le_of_ble_eq_true rfl) (dk dcX9_weigh_1 23 rfl) ?_
    refine v_goto C 138 (dk dcX9_weigh_1 24 rfl) (by decide) ?_
    exact vj_sub [0, 1, 2, 3, 4] rfl (vX9_weigh_j138 hL C hl1 _ h)
set_option maxRecDepth 20000 in
set_option maxHeartbeats 4000000 in
theorem vX9_weigh_j54 {L : Nat} (hL : 4 ≤ L) (C : CX p s m args meth c cX9_weigh 9 RX9 (some .int) E) {g : STt} {l1 : Nat} {l2 : Int32} {l3 : Int32} {l4 : Int32} {l5 : Int32} {s0 : Int32} (hl1 : l1 < 10) (r : STt × Int32) (h : fX9_weigh_j54 g l1 l2 l3 l4 l5 s0 = some r) : VJ p l e (rmL (L + 1)) s m args below meth c (QE below E (cellsC E r.1 ++ wx) (some (.int r.2)) args s) E 9 (cellsC E g ++ wx) [(0, .ref (aE E 7 0)), (1, .ref (aE E 19 l1)), (2, .int l2), (3, .int l3), (4, .int l4), (5, .int l5)] [.int s0] 54 := by
  unfold fX9_weigh_j54 at h
  refine v_istore C (lv' := [(6, .int s0), (0, .ref (aE E 7 0)), (1, .ref (aE E 19 l1)), (2, .int l2), (3, .int l3), (4, .int l4), (5, .int l5)]) (dk dcX9_weigh_0 28 rfl) (by decide) rfl ?_
  refine v_aload_n C 1 (dk dcX9_weigh_0 29 rfl) rfl rfl ?_
  refine v_aload_n C 2 (dk dcX9_weigh_0 30 rfl) rfl rfl ?_
  obtain ⟨g_2, h_1, h⟩ := bnd1_s h
  refine v_callV0 C (mtX9_lookAround (L - 1) (by omega) hl1 h_1) wmX9_lookAround wd_673 (by omega) (by decide) rfl _ (ce_Walk) rfl rfl (Nat.le_of_ble_eq_true rfl) (dk dcX9_weigh_0 31 rfl) ?_
  refine v_aload_n C 1 (dk dcX9_weigh_0 32 rfl) rfl rfl ?_
  refine gt_Walk_less C wd_189 (dk dcX9_weigh_0 33 rfl) ?_
  refine v_iconst C 0 (dk dcX9_weigh_0 34 rfl) ki_0 ?_
  refine v_aload_n C 1 (dk dcX9_weigh_0 35 rfl) rfl rfl ?_
  obtain ⟨b_3, h⟩ := gd_t h
  refine gt_Walk_law C wd_187 (dk dcX9_weigh_0 36 rfl) ?_
  refine v_iconst C 1 (dk dcX9_weigh_0 37 rfl) ki_1 ?_
  refine v_aload_n C 1 (dk dcX9_weigh_0 38 rfl) rfl rfl ?_
  refine gt_Walk_facts C wd_188 (dk dcX9_weigh_0 39 rfl) ?_
  obtain ⟨r_5, h_4, h⟩ := bnd1_s h
  refine v_callV1 C (mtX2_together (L - 1) (by omega) b_3 h_4) wmX2_together wd_683 (by omega) (by decide) rfl _ (ce_Law b_3) rfl rfl (Nat.le_of_ble_eq_true rfl) (dk dcX9_weigh_0 40 rfl) ?_
  obtain ⟨b_6, h⟩ := gd_t h
  refine st_less C b_6 (dk dcX9_weigh_0 41 rfl) ?_
  refine v_aload_n C 1 (dk dcX9_weigh_0 42 rfl) rfl rfl ?_
  refine gt_Walk_less C wd_189 (dk dcX9_weigh_0 43 rfl) ?_
  refine v_iconst C 1 (dk dcX9_weigh_0 44 rfl) ki_1 ?_
  refine v_aload_n C 1 (dk dcX9_weigh_0 45 rfl) rfl rfl ?_
  refine v_aload_n C 2 (dk dcX9_weigh_0 46 rfl) rfl rfl ?_
  refine v_iload_n C 3 (dk dcX9_weigh_0 47 rfl) rfl rfl ?_
  obtain ⟨r_8, h_7, h⟩ := bnd1_s h
  refine v_callV1 C (mtX9_fearThatCounts (L - 1) (by omega) hl1 h_7) wmX9_fearThatCounts wd_704 (by omega) (by decide) rfl _ (ce_Walk) rfl rfl (Nat.le_of_ble_eq_true rfl) (dk dcX9_weigh_1 0 rfl) ?_
  obtain ⟨b_9, h⟩ := gd_t h
  refine st_less C b_9 (dk dcX9_weigh_1 1 rfl) ?_
  refine v_aload_n C 1 (dk dcX9_weigh_1 2 rfl) rfl rfl ?_
  refine gt_Walk_less C wd_189 (dk dcX9_weigh_1 3 rfl) ?_
  refine v_iconst C 2 (dk dcX9_weigh_1 4 rfl) ki_2 ?_
  refine v_iload C 6 (dk dcX9_weigh_1 5 rfl) rfl ?_
  refine v_if_eq C 116 (dk dcX9_weigh_1 6 rfl) (by decide) (fun c_10 => ?_) (fun c_10 => ?_)
  · replace h := if_t c_10 h
    refine v_iconst C 0 (dk dcX9_weigh_1 14 rfl) ki_0 ?_
    exact vj_sub [1, 2, 3, 4, 5, 0] rfl (vX9_weigh_j117 hL C hl1 _ h)
  · replace h := if_f c_10 h
    refine v_aload_n C 1 (dk dcX9_weigh_1 7 rfl) rfl rfl ?_
    obtain ⟨b_11, h⟩ := gd_t h
    refine gt_Walk_law C wd_187 (dk dcX9_weigh_1 8 rfl) ?_
    refine v_iconst C 2 (dk dcX9_weigh_1 9 rfl) ki_2 ?_
    refine v_aload_n C 1 (dk dcX9_weigh_1 10 rfl) rfl rfl ?_
    refine gt_Walk_facts C wd_188 (dk dcX9_weigh_1 11 rfl) ?_
    obtain ⟨r_13, h_12, h⟩ := bnd1_s h
    refine v_callV1 C (mtX2_together (L - 1) (by omega) b_11 h_12) wmX2_together wd_683 (by omega) (by decide) rfl _ (ce_Law b_11) rfl rfl (Nat.le_of_ble_eq_true rfl) (dk dcX9_weigh_1 12 rfl) ?_
    refine v_goto C 117 (dk dcX9_weigh_1 13 rfl) (by decide) ?_
    exact vj_sub [1, 2, 3, 4, 5, 0] rfl (vX9_weigh_j117 hL C hl1 _ h)
set_option maxRecDepth 20000 in
set_option maxHeartbeats 4000000 in
theorem vX9_weigh_j49 {L : Nat} (hL : 4 ≤ L) (C : CX p s m args meth c cX9_weigh 9 RX9 (some .int) E) {g : STt} {l1 : Nat} {l2 : Int32} {l3 : Int32} {l4 : Int32} {l5 : Int32} (hl1 : l1 < 10) (r : STt × Int32) (h : fX9_weigh_j49 g l1 l2 l3 l4 l5 = some r) : VJ p l e (rmL (L + 1)) s m args below meth c (QE below E (cellsC E r.1 ++ wx) (some (.int r.2)) args s) E 9 (cellsC E g ++ wx) [(0, .ref (aE E 7 0)), (1, .ref (aE E 19 l1)), (2, .int l2), (3, .int l3), (4, .int l4), (5, .int l5)] [] 49 := by
  unfold fX9_weigh_j49 at h
  refine v_iconst C 1 (dk dcX9_weigh_0 25 rfl) ki_1 ?_
  refine v_goto C 54 (dk dcX9_weigh_0 26 rfl) (by decide) ?_
  exact vj_sub [0, 1, 2, 3, 4, 5] rfl (vX9_weigh_j54 hL C hl1 _ h)
set_option maxRecDepth 20000 in
set_option maxHeartbeats 4000000 in
theorem vX9_weigh_j34 {L : Nat} (hL : 4 ≤ L) (C : CX p s m args meth c cX9_weigh 9 RX9 (some .int) E) {g : STt} {l1 : Nat} {l2 : Int32} {l3 : Int32} {l4 : Int32} {s0 : Int32} (hl1 : l1 < 10) (r : STt × Int32) (h : fX9_weigh_j34 g l1 l2 l3 l4 s0 = some r) : VJ p l e (rmL (L + 1)) s m args below meth c (QE below E (cellsC E r.1 ++ wx) (some (.int r.2)) args s) E 9 (cellsC E g ++ wx) [(0, .ref (aE E 7 0)), (1, .ref (aE E 19 l1)), (2, .int l2), (3, .int l3), (4, .int l4)] [.int s0] 34 := by
  unfold fX9_weigh_j34 at h
  refine v_istore C (lv' := [(5, .int s0), (0, .ref (aE E 7 0)), (1, .ref (aE E 19 l1)), (2, .int l2), (3, .int l3), (4, .int l4)]) (dk dcX9_weigh_0 18 rfl) (by decide) rfl ?_
  refine v_iload C 5 (dk dcX9_weigh_0 19 rfl) rfl ?_
  refine v_iconst C 3 (dk dcX9_weigh_0 20 rfl) ki_3 ?_
  refine v_icmp_eq C 49 (dk dcX9_weigh_0 21 rfl) (by decide) (fun c_1 => ?_) (fun c_1 => ?_)
  · replace h := if_t c_1 h
    exact vj_sub [1, 2, 3, 4, 5, 0] rfl (vX9_weigh_j49 hL C hl1 _ h)
  · replace h := if_f c_1 h
    refine v_iload C 5 (dk dcX9_weigh_0 22 rfl) rfl ?_
    refine v_bipush C 6 (dk dcX9_weigh_0 23 rfl) kb_6 ?_
    refine v_icmp_ne C 53 (dk dcX9_weigh_0 24 rfl) (by decide) (fun c_2 => ?_) (fun c_2 => ?_)
    · replace h := if_f c_2 h
      refine v_iconst C 0 (dk dcX9_weigh_0 27 rfl) ki_0 ?_
      exact vj_sub [1, 2, 3, 4, 5, 0] rfl (vX9_weigh_j54 hL C hl1 _ h)
    · replace h := if_t c_2 h
      exact vj_sub [1, 2, 3, 4, 5, 0] rfl (vX9_weigh_j49 hL C hl1 _ h)
set_option maxRecDepth 20000 in
set_option maxHeartbeats 4000000 in
theorem vX9_weigh_j29 {L : Nat} (hL : 4 ≤ L) (C : CX p s m args meth c cX9_weigh 9 RX9 (some .int) E) {g : STt} {l1 : Nat} {l2 : Int32} {l3 : Int32} {l4 : Int32} (hl1 : l1 < 10) (r : STt × Int32) (h : fX9_weigh_j29 g l1 l2 l3 l4 = some r) : VJ p l e (rmL (L + 1)) s m args below meth c (QE below E (cellsC E r.1 ++ wx) (some (.int r.2)) args s) E 9 (cellsC E g ++ wx) [(0, .ref (aE E 7 0)), (1, .ref (aE E 19 l1)), (2, .int l2), (3, .int l3), (4, .int l4)] [] 29 := by
  unfold fX9_weigh_j29 at h
  refine v_iconst C 1 (dk dcX9_weigh_0 15 rfl) ki_1 ?_
  refine v_goto C 34 (dk dcX9_weigh_0 16 rfl) (by decide) ?_
  exact vj_sub [0, 1, 2, 3, 4] rfl (vX9_weigh_j34 hL C hl1 _ h)
set_option maxRecDepth 20000 in
set_option maxHeartbeats 4000000 in
theorem mtX9_weigh {l : Launch} {E : WEt} {wx : va_W} (L : Nat) (hL : 4 ≤ L)  {g : STt} {d1 : Nat} (hd1 : d1 < 10) {x2 : Int32} {g' : STt} {rr : Int32} (h : fX9_weigh g d1 x2 = some (g', rr)) : MT l E yX9_weigh cX9_weigh 9 (some .int) (L + 1) [.ref (aE E 7 0), .ref (aE E 19 d1), .int x2] (cellsC E g ++ wx) (cellsC E g' ++ wx) (some (.int rr)) := by
  refine mt_of (by decide +kernel) (Nat.le_of_ble_eq_true rfl) ?_
  intro p e s m args below meth c C
  replace C : CX p s m args meth c cX9_weigh 9 RX9 (some .int) E := C
  unfold fX9_weigh at h
  refine vj_sub (lv' := [(0, .ref (aE E 7 0)), (1, .ref (aE E 19 d1)), (2, .int x2)]) [0, 1, 2] rfl ?_
  refine v_aload_n C 1 (dk dcX9_weigh_0 0 rfl) rfl rfl ?_
  refine v_bipush C 12 (dk dcX9_weigh_0 1 rfl) kb_12 ?_
  obtain ⟨r_2, h_1, h⟩ := bnd1_s h
  refine v_callV1 C (mtX1_get (L - 1) (by omega) hd1 h_1) wmX1_get wd_667 (by omega) (by decide) rfl _ (ce_Donkey hd1) rfl rfl (Nat.le_of_ble_eq_true rfl) (dk dcX9_weigh_0 2 rfl) ?_
  refine v_istore_n C (lv' := [(3, .int r_2), (0, .ref (aE E 7 0)), (1, .ref (aE E 19 d1)), (2, .int x2)]) (dk dcX9_weigh_0 3 rfl) rfl (by decide) rfl ?_
  refine v_aload_n C 1 (dk dcX9_weigh_0 4 rfl) rfl rfl ?_
  refine gt_Walk_road C wd_186 (dk dcX9_weigh_0 5 rfl) ?_
  refine v_iload_n C 0 (dk dcX9_weigh_0 6 rfl) rfl rfl ?_
  obtain ⟨r_4, h_3, h⟩ := bnd1_s h
  refine v_callV1 C (mtX4_kindOf (L - 1) (by omega) h_3) wmX4_kindOf wd_682 (by omega) (by decide) rfl _ (ce_Road) rfl rfl (Nat.le_of_ble_eq_true rfl) (dk dcX9_weigh_0 7 rfl) ?_
  refine v_istore C (lv' := [(4, .int r_4), (3, .int r_2), (0, .ref (aE E 7 0)), (1, .ref (aE E 19 d1)), (2, .int x2)]) (dk dcX9_weigh_0 8 rfl) (by decide) rfl ?_
  refine v_iload C 0 (dk dcX9_weigh_0 9 rfl) rfl ?_
  refine v_iconst C 2 (dk dcX9_weigh_0 10 rfl) ki_2 ?_
  refine v_icmp_eq C 29 (dk dcX9_weigh_0 11 rfl) (by decide) (fun c_5 => ?_) (fun c_5 => ?_)
  · replace h := if_t c_5 h
    exact vj_sub [2, 3, 4, 1, 0] rfl (vX9_weigh_j29 hL C hd1 _ h)
  · replace h := if_f c_5 h
    refine v_iload C 0 (dk dcX9_weigh_0 12 rfl) rfl ?_
    refine v_iconst C 5 (dk dcX9_weigh_0 13 rfl) ki_5 ?_
    refine v_icmp_ne C 33 (dk dcX9_weigh_0 14 rfl) (by decide) (fun c_6 => ?_) (fun c_6 => ?_)
    · replace h := if_f c_6 h
      refine v_iconst C 0 (dk dcX9_weigh_0 17 rfl) ki_0 ?_
      exact vj_sub [2, 3, 4, 1, 0] rfl (vX9_weigh_j34 hL C hd1 _ h)
    · replace h := if_t c_6 h
      exact vj_sub [2, 3, 4, 1, 0] rfl (vX9_weigh_j29 hL C hd1 _ h)
set_option maxRecDepth 20000 in
set_option maxHeartbeats 4000000 in
theorem mtX9_doing {l : Launch} {E : WEt} {wx : va_W} (L : Nat) (hL : 5 ≤ L)  {g : STt} {d1 : Nat} (hd1 : d1 < 10) {x2 : Int32} {g' : STt} {rr : Int32} (h : fX9_doing g d1 x2 = some (g', rr)) : MT l E yX9_doing cX9_doing 3 (some .int) (L + 1) [.ref (aE E 7 0), .ref (aE E 19 d1), .int x2] (cellsC E g ++ wx) (cellsC E g' ++ wx) (some (.int rr)) := by
  refine mt_of (by decide +kernel) (Nat.le_of_ble_eq_true rfl) ?_
  intro p e s m args below meth c C
  replace C : CX p s m args meth c cX9_doing 3 RX9 (some .int) E := C
  unfold fX9_doing at h
  refine vj_sub (lv' := [(0, .ref (aE E 7 0)), (1, .ref (aE E 19 d1)), (2, .int x2)]) [0, 1, 2] rfl ?_
  refine v_aload_n C 0 (dk dcX9_doing_0 0 rfl) rfl rfl ?_
  refine v_aload_n C 1 (dk dcX9_doing_0 1 rfl) rfl rfl ?_
  obtain ⟨r_2, h_1, h⟩ := bnd1_s h
  refine v_callV1 C (mtX9_isOver (L - 1) (by omega) hd1 h_1) wmX9_isOver wd_726 (by omega) (by decide) rfl _ (ce_Walk) rfl rfl (Nat.le_of_ble_eq_true rfl) (dk dcX9_doing_0 2 rfl) ?_
  refine v_if_eq C 11 (dk dcX9_doing_0 3 rfl) (by decide) (fun c_3 => ?_) (fun c_3 => ?_)
  · replace h := if_t c_3 h
    refine v_iload_n C 2 (dk dcX9_doing_0 6 rfl) rfl rfl ?_
    refine v_bipush C 6 (dk dcX9_doing_0 7 rfl) kb_6 ?_
    refine v_icmp_ne C 21 (dk dcX9_doing_0 8 rfl) (by decide) (fun c_4 => ?_) (fun c_4 => ?_)
    · replace h := if_f c_4 h
      refine v_aload_n C 0 (dk dcX9_doing_0 11 rfl) rfl rfl ?_
      refine v_aload_n C 1 (dk dcX9_doing_0 12 rfl) rfl rfl ?_
      refine v_iload_n C 2 (dk dcX9_doing_0 13 rfl) rfl rfl ?_
      obtain ⟨g_6, r_7, h_5, h⟩ := bnd_s h
      refine v_callV1 C (mtX9_weigh (L - 1) (by omega) hd1 h_5) wmX9_weigh wd_727 (by omega) (by decide) rfl _ (ce_Walk) rfl rfl (Nat.le_of_ble_eq_true rfl) (dk dcX9_doing_0 14 rfl) ?_
      obtain ⟨r_9, h_8, h⟩ := bnd1_s h
      refine v_callS1 C (mtX9_doneBy (L - 1) (by omega) h_8) wmX9_doneBy wd_728 (by omega) (by decide) rfl rfl (Nat.le_of_ble_eq_true rfl) (dk dcX9_doing_0 15 rfl) ?_
      cases h
      exact v_iret C rfl (dk dcX9_doing_0 16 rfl)
    · replace h := if_t c_4 h
      refine v_iconst C 1 (dk dcX9_doing_0 9 rfl) ki_1 ?_
      refine v_goto C 30 (dk dcX9_doing_0 10 rfl) (by decide) ?_
      cases h
      exact v_iret C rfl (dk dcX9_doing_0 16 rfl)
  · replace h := if_f c_3 h
    refine v_bipush C (-5) (dk dcX9_doing_0 4 rfl) kb_m5 ?_
    cases h
    exact v_iret C rfl (dk dcX9_doing_0 5 rfl)
set_option maxRecDepth 20000 in
set_option maxHeartbeats 4000000 in
theorem mtX10_would {l : Launch} {E : WEt} {wx : va_W} (L : Nat) (hL : 6 ≤ L)  {g : STt} {x1 : Int32} {g' : STt} {rr : Int32} (h : fX10_would g x1 = some (g', rr)) : MT l E yX10_would cX10_would 2 (some .int) (L + 1) [.ref (aE E 0 0), .int x1] (cellsC E g ++ wx) (cellsC E g' ++ wx) (some (.int rr)) := by
  refine mt_of (by decide +kernel) (Nat.le_of_ble_eq_true rfl) ?_
  intro p e s m args below meth c C
  replace C : CX p s m args meth c cX10_would 2 RX10 (some .int) E := C
  unfold fX10_would at h
  refine vj_sub (lv' := [(0, .ref (aE E 0 0)), (1, .int x1)]) [0, 1] rfl ?_
  refine v_iload_n C 1 (dk dcX10_would_0 0 rfl) rfl rfl ?_
  obtain ⟨r_2, h_1, h⟩ := bnd1_s h
  refine v_callS1 C (mtX10_isAct (L - 1) (by omega) h_1) wmX10_isAct wd_695 (by omega) (by decide) rfl rfl (Nat.le_of_ble_eq_true rfl) (dk dcX10_would_0 1 rfl) ?_
  refine v_if_eq C 25 (dk dcX10_would_0 2 rfl) (by decide) (fun c_3 => ?_) (fun c_3 => ?_)
  · replace h := if_t c_3 h
    refine v_iconst C (-1) (dk dcX10_would_0 11 rfl) ki_m1 ?_
    cases h
    exact v_iret C rfl (dk dcX10_would_0 12 rfl)
  · replace h := if_f c_3 h
    refine v_aload_n C 0 (dk dcX10_would_0 3 rfl) rfl rfl ?_
    refine gt_DB_walk C wd_341 (dk dcX10_would_0 4 rfl) ?_
    refine v_aload_n C 0 (dk dcX10_would_0 5 rfl) rfl rfl ?_
    refine gt_DB_present C wd_345 (dk dcX10_would_0 6 rfl) ?_
    refine gt_Moment_donkey C (by decide) wd_227 (dk dcX10_would_0 7 rfl) ?_
    refine v_iload_n C 1 (dk dcX10_would_0 8 rfl) rfl rfl ?_
    obtain ⟨g_5, r_6, h_4, h⟩ := bnd_s h
    refine v_callV1 C (mtX9_doing (L - 1) (by omega) (by decide) h_4) wmX9_doing wd_722 (by omega) (by decide) rfl _ (ce_Walk) rfl rfl (Nat.le_of_ble_eq_true rfl) (dk dcX10_would_0 9 rfl) ?_
    refine v_goto C 26 (dk dcX10_would_0 10 rfl) (by decide) ?_
    cases h
    exact v_iret C rfl (dk dcX10_would_0 12 rfl)
set_option maxRecDepth 20000 in
set_option maxHeartbeats 4000000 in
theorem mtX10_isOver {l : Launch} {E : WEt} {wx : va_W} (L : Nat) (hL : 4 ≤ L)  {g : STt} {rr : Int32} (h : fX10_isOver g = some rr) : MT l E yX10_isOver cX10_isOver 1 (some .boolean) (L + 1) [.ref (aE E 0 0)] (cellsC E g ++ wx) (cellsC E g ++ wx) (some (.int rr)) := by
  refine mt_of (by decide +kernel) (Nat.le_of_ble_eq_true rfl) ?_
  intro p e s m args below meth c C
  replace C : CX p s m args meth c cX10_isOver 1 RX10 (some .boolean) E := C
  unfold fX10_isOver at h
  refine vj_sub (lv' := [(0, .ref (aE E 0 0))]) [0] rfl ?_
  refine v_aload_n C 0 (dk dcX10_isOver_0 0 rfl) rfl rfl ?_
  refine gt_DB_walk C wd_341 (dk dcX10_isOver_0 1 rfl) ?_
  refine v_aload_n C 0 (dk dcX10_isOver_0 2 rfl) rfl rfl ?_
  refine gt_DB_present C wd_345 (dk dcX10_isOver_0 3 rfl) ?_
  refine gt_Moment_donkey C (by decide) wd_227 (dk dcX10_isOver_0 4 rfl) ?_
  obtain ⟨r_2, h_1, h⟩ := bnd1_s h
  refine v_callV1 C (mtX9_isOver (L - 1) (by omega) (by decide) h_1) wmX9_isOver wd_663 (by omega) (by decide) rfl _ (ce_Walk) rfl rfl (Nat.le_of_ble_eq_true rfl) (dk dcX10_isOver_0 5 rfl) ?_
  obtain ⟨b_3, h⟩ := gd_t h
  cases h
  exact v_zret C rfl (nw_boolean b_3) (dk dcX10_isOver_0 6 rfl)
set_option maxRecDepth 20000 in
set_option maxHeartbeats 4000000 in
theorem vX9_mostAgainst_j42 {L : Nat} (hL : 5 ≤ L) (C : CX p s m args meth c cX9_mostAgainst 4 RX9 (some .int) E) {g : STt} {l2 : Int32} {l3 : Int32} {K16 : (Int32 × Int32) → Option (STt × Int32)} (hK16 : ∀ {l2 : Int32} {l3 : Int32} (r : STt × Int32), K16 (l2, l3) = some r → VJ p l e (rmL (L + 1)) s m args below meth c (QE below E (cellsC E r.1 ++ wx) (some (.int r.2)) args s) E 4 (cellsC E g ++ wx) [(0, .ref (aE E 7 0)), (2, .int l2), (3, .int l3)] [] 16) (r : STt × Int32) (h : fX9_mostAgainst_j42 K16 g l2 l3 = some r) : VJ p l e (rmL (L + 1)) s m args below meth c (QE below E (cellsC E r.1 ++ wx) (some (.int r.2)) args s) E 4 (cellsC E g ++ wx) [(0, .ref (aE E 7 0)), (2, .int l2), (3, .int l3)] [] 42 := by
  unfold fX9_mostAgainst_j42 at h
  refine v_iinc C (lv' := [(3, .int (l3 + 1)), (0, .ref (aE E 7 0)), (2, .int l2)]) (l3 + 1) 2 (dk dcX9_mostAgainst_0 27 rfl) rfl (congrArg (fun z => l3 + z) ki_1) (by decide) rfl ?_
  refine v_goto C 16 (dk dcX9_mostAgainst_0 28 rfl) (by decide) ?_
  exact vj_sub [1, 2, 0] rfl (hK16 _ h)
set_option maxRecDepth 20000 in
set_option maxHeartbeats 4000000 in
theorem vX9_mostAgainst_l16c {L : Nat} (hL : 5 ≤ L) (C : CX p s m args meth c cX9_mostAgainst 4 RX9 (some .int) E) {g : STt} {K16 : (Int32 × Int32) → Option (STt × Int32)} (hK16 : ∀ {l2 : Int32} {l3 : Int32} (r : STt × Int32), K16 (l2, l3) = some r → VJ p l e (rmL (L + 1)) s m args below meth c (QE below E (cellsC E r.1 ++ wx) (some (.int r.2)) args s) E 4 (cellsC E g ++ wx) [(0, .ref (aE E 7 0)), (2, .int l2), (3, .int l3)] [] 16) {l2 : Int32} {l3 : Int32} (r : STt × Int32) (h : fX9_mostAgainst_l16c K16 g l2 l3 = some r) : VJ p l e (rmL (L + 1)) s m args below meth c (QE below E (cellsC E r.1 ++ wx) (some (.int r.2)) args s) E 4 (cellsC E g ++ wx) [(0, .ref (aE E 7 0)), (2, .int l2), (3, .int l3)] [] 16 := by
  unfold fX9_mostAgainst_l16c at h
  refine v_iload_n C 2 (dk dcX9_mostAgainst_0 11 rfl) rfl rfl ?_
  refine v_aload_n C 0 (dk dcX9_mostAgainst_0 12 rfl) rfl rfl ?_
  refine gt_Walk_less C wd_189 (dk dcX9_mostAgainst_0 13 rfl) ?_
  refine al_less C (dk dcX9_mostAgainst_0 14 rfl) ?_
  refine v_icmp_ge C 48 (dk dcX9_mostAgainst_0 15 rfl) (by decide) (fun c_1 => ?_) (fun c_1 => ?_)
  · replace h := if_t c_1 h
    refine v_iload_n C 1 (dk dcX9_mostAgainst_0 29 rfl) rfl rfl ?_
    cases h
    exact v_iret C rfl (dk dcX9_mostAgainst_0 30 rfl)
  · replace h := if_f c_1 h
    refine v_aload_n C 0 (dk dcX9_mostAgainst_0 16 rfl) rfl rfl ?_
    refine gt_Walk_less C wd_189 (dk dcX9_mostAgainst_0 17 rfl) ?_
    refine v_iload_n C 2 (dk dcX9_mostAgainst_0 18 rfl) rfl rfl ?_
    obtain ⟨b_2, h⟩ := gd_t h
    refine ld_less C b_2 (dk dcX9_mostAgainst_0 19 rfl) ?_
    refine v_aload_n C 0 (dk dcX9_mostAgainst_0 20 rfl) rfl rfl ?_
    refine gt_Walk_less C wd_189 (dk dcX9_mostAgainst_0 21 rfl) ?_
    refine v_iload_n C 1 (dk dcX9_mostAgainst_0 22 rfl) rfl rfl ?_
    obtain ⟨b_3, h⟩ := gd_t h
    refine ld_less C b_3 (dk dcX9_mostAgainst_0 23 rfl) ?_
    refine v_icmp_le C 42 (dk dcX9_mostAgainst_0 24 rfl) (by decide) (fun c_4 => ?_) (fun c_4 => ?_)
    · replace h := if_t c_4 h
      exact vj_sub [0, 1, 2] rfl (vX9_mostAgainst_j42 hL C hK16 _ h)
    · replace h := if_f c_4 h
      refine v_iload_n C 2 (dk dcX9_mostAgainst_0 25 rfl) rfl rfl ?_
      refine v_istore_n C (lv' := [(2, .int l3), (0, .ref (aE E 7 0)), (3, .int l3)]) (dk dcX9_mostAgainst_0 26 rfl) rfl (by decide) rfl ?_
      exact vj_sub [1, 0, 2] rfl (vX9_mostAgainst_j42 hL C hK16 _ h)
set_option maxRecDepth 20000 in
set_option maxHeartbeats 4000000 in
theorem vX9_mostAgainst_l16 {L : Nat} (hL : 5 ≤ L) (C : CX p s m args meth c cX9_mostAgainst 4 RX9 (some .int) E) {g : STt} {l2 : Int32} {l3 : Int32} (r : STt × Int32) (h : fX9_mostAgainst_l16 g l2 l3 = some r) : VJ p l e (rmL (L + 1)) s m args below meth c (QE below E (cellsC E r.1 ++ wx) (some (.int r.2)) args s) E 4 (cellsC E g ++ wx) [(0, .ref (aE E 7 0)), (2, .int l2), (3, .int l3)] [] 16 :=
  iterO_ind (F := fun K z => fX9_mostAgainst_l16c K g z.1 z.2) (fun z r => VJ p l e (rmL (L + 1)) s m args below meth c (QE below E (cellsC E r.1 ++ wx) (some (.int r.2)) args s) E 4 (cellsC E g ++ wx) [(0, .ref (aE E 7 0)), (2, .int z.1), (3, .int z.2)] [] 16) (fun K hK z r h => vX9_mostAgainst_l16c hL C (fun {l2} {l3} r h => hK (l2, l3) r h) r h) fuelN (l2, l3) r h
set_option maxRecDepth 20000 in
set_option maxHeartbeats 4000000 in
theorem mtX9_mostAgainst {l : Launch} {E : WEt} {wx : va_W} (L : Nat) (hL : 5 ≤ L)  {g : STt} {d1 : Nat} (hd1 : d1 < 10) {g' : STt} {rr : Int32} (h : fX9_mostAgainst g d1 = some (g', rr)) : MT l E yX9_mostAgainst cX9_mostAgainst 4 (some .int) (L + 1) [.ref (aE E 7 0), .ref (aE E 19 d1)] (cellsC E g ++ wx) (cellsC E g' ++ wx) (some (.int rr)) := by
  refine mt_of (by decide +kernel) (Nat.le_of_ble_eq_true rfl) ?_
  intro p e s m args below meth c C
  replace C : CX p s m args meth c cX9_mostAgainst 4 RX9 (some .int) E := C
  unfold fX9_mostAgainst at h
  refine vj_sub (lv' := [(0, .ref (aE E 7 0)), (1, .ref (aE E 19 d1))]) [0, 1] rfl ?_
  refine v_aload_n C 0 (dk dcX9_mostAgainst_0 0 rfl) rfl rfl ?_
  refine v_aload_n C 1 (dk dcX9_mostAgainst_0 1 rfl) rfl rfl ?_
  refine v_iconst C 0 (dk dcX9_mostAgainst_0 2 rfl) ki_0 ?_
  obtain ⟨g_2, r_3, h_1, h⟩ := bnd_s h
  refine v_callV1 C (mtX9_weigh (L - 1) (by omega) hd1 h_1) wmX9_weigh wd_727 (by omega) (by decide) rfl _ (ce_Walk) rfl rfl (Nat.le_of_ble_eq_true rfl) (dk dcX9_mostAgainst_0 3 rfl) ?_
  refine v_if_le C 12 (dk dcX9_mostAgainst_0 4 rfl) (by decide) (fun c_4 => ?_) (fun c_4 => ?_)
  · replace h := if_t c_4 h
    refine v_iconst C 0 (dk dcX9_mostAgainst_0 7 rfl) ki_0 ?_
    refine v_istore_n C (lv' := [(2, .int 0), (0, .ref (aE E 7 0)), (1, .ref (aE E 19 d1))]) (dk dcX9_mostAgainst_0 8 rfl) rfl (by decide) rfl ?_
    refine v_iconst C 1 (dk dcX9_mostAgainst_0 9 rfl) ki_1 ?_
    refine v_istore_n C (lv' := [(3, .int 1), (2, .int 0), (0, .ref (aE E 7 0)), (1, .ref (aE E 19 d1))]) (dk dcX9_mostAgainst_0 10 rfl) rfl (by decide) rfl ?_
    exact vj_sub [2, 1, 0] rfl (vX9_mostAgainst_l16 hL C _ h)
  · replace h := if_f c_4 h
    refine v_bipush C (-5) (dk dcX9_mostAgainst_0 5 rfl) kb_m5 ?_
    cases h
    exact v_iret C rfl (dk dcX9_mostAgainst_0 6 rfl)
set_option maxRecDepth 20000 in
set_option maxHeartbeats 4000000 in
theorem mtX10_why {l : Launch} {E : WEt} {wx : va_W} (L : Nat) (hL : 6 ≤ L)  {g : STt} {g' : STt} {rr : Int32} (h : fX10_why g = some (g', rr)) : MT l E yX10_why cX10_why 1 (some .int) (L + 1) [.ref (aE E 0 0)] (cellsC E g ++ wx) (cellsC E g' ++ wx) (some (.int rr)) := by
  refine mt_of (by decide +kernel) (Nat.le_of_ble_eq_true rfl) ?_
  intro p e s m args below meth c C
  replace C : CX p s m args meth c cX10_why 1 RX10 (some .int) E := C
  unfold fX10_why at h
  refine vj_sub (lv' := [(0, .ref (aE E 0 0))]) [0] rfl ?_
  refine v_aload_n C 0 (dk dcX10_why_0 0 rfl) rfl rfl ?_
  obtain ⟨r_2, h_1, h⟩ := bnd1_s h
  refine v_callV1 C (mtX10_isOver (L - 1) (by omega) h_1) wmX10_isOver wd_659 (by omega) (by decide) rfl _ (ce_DB) rfl rfl (Nat.le_of_ble_eq_true rfl) (dk dcX10_why_0 1 rfl) ?_
  refine v_if_eq C 12 (dk dcX10_why_0 2 rfl) (by decide) (fun c_3 => ?_) (fun c_3 => ?_)
  · replace h := if_t c_3 h
    refine v_aload_n C 0 (dk dcX10_why_0 5 rfl) rfl rfl ?_
    refine gt_DB_walk C wd_341 (dk dcX10_why_0 6 rfl) ?_
    refine v_aload_n C 0 (dk dcX10_why_0 7 rfl) rfl rfl ?_
    refine gt_DB_present C wd_345 (dk dcX10_why_0 8 rfl) ?_
    refine gt_Moment_donkey C (by decide) wd_227 (dk dcX10_why_0 9 rfl) ?_
    obtain ⟨g_5, r_6, h_4, h⟩ := bnd_s h
    refine v_callV1 C (mtX9_mostAgainst (L - 1) (by omega) (by decide) h_4) wmX9_mostAgainst wd_854 (by omega) (by decide) rfl _ (ce_Walk) rfl rfl (Nat.le_of_ble_eq_true rfl) (dk dcX10_why_0 10 rfl) ?_
    cases h
    exact v_iret C rfl (dk dcX10_why_0 11 rfl)
  · replace h := if_f c_3 h
    refine v_bipush C (-5) (dk dcX10_why_0 3 rfl) kb_m5 ?_
    refine v_goto C 26 (dk dcX10_why_0 4 rfl) (by decide) ?_
    cases h
    exact v_iret C rfl (dk dcX10_why_0 11 rfl)
set_option maxRecDepth 20000 in
set_option maxHeartbeats 4000000 in
theorem mtX10_wander {l : Launch} {E : WEt} {wx : va_W} (L : Nat) (hL : 2 ≤ L)  {g : STt} {x1 : Int32} {g' : STt} {rr : Int32} (h : fX10_wander g x1 = some (g', rr)) : MT l E yX10_wander cX10_wander 3 (some .int) (L + 1) [.ref (aE E 0 0), .int x1] (cellsC E g ++ wx) (cellsC E g' ++ wx) (some (.int rr)) := by
  refine mt_of (by decide +kernel) (Nat.le_of_ble_eq_true rfl) ?_
  intro p e s m args below meth c C
  replace C : CX p s m args meth c cX10_wander 3 RX10 (some .int) E := C
  unfold fX10_wander at h
  refine vj_sub (lv' := [(0, .ref (aE E 0 0)), (1, .int x1)]) [0, 1] rfl ?_
  refine v_iload_n C 1 (dk dcX10_wander_0 0 rfl) rfl rfl ?_
  refine v_if_lt C 10 (dk dcX10_wander_0 1 rfl) (by decide) (fun c_1 => ?_) (fun c_1 => ?_)
  · replace h := if_t c_1 h
    refine v_bipush C (-2) (dk dcX10_wander_0 5 rfl) kb_m2 ?_
    cases h
    exact v_iret C rfl (dk dcX10_wander_0 6 rfl)
  · replace h := if_f c_1 h
    refine v_iload_n C 1 (dk dcX10_wander_0 2 rfl) rfl rfl ?_
    refine v_bipush C 10 (dk dcX10_wander_0 3 rfl) kb_10 ?_
    refine v_icmp_le C 13 (dk dcX10_wander_0 4 rfl) (by decide) (fun c_2 => ?_) (fun c_2 => ?_)
    · replace h := if_t c_2 h
      refine v_aload_n C 0 (dk dcX10_wander_0 7 rfl) rfl rfl ?_
      refine gt_DB_present C wd_345 (dk dcX10_wander_0 8 rfl) ?_
      refine gt_Moment_odds C (by decide) wd_237 (dk dcX10_wander_0 9 rfl) ?_
      refine v_istore_n C (lv' := [(2, .int (g.1 18 0)), (0, .ref (aE E 0 0)), (1, .int x1)]) (dk dcX10_wander_0 10 rfl) rfl (by decide) rfl ?_
      refine v_aload_n C 1 (dk dcX10_wander_0 11 rfl) rfl rfl ?_
      refine gt_DB_present C wd_345 (dk dcX10_wander_0 12 rfl) ?_
      refine v_iload_n C 2 (dk dcX10_wander_0 13 rfl) rfl rfl ?_
      refine pt_Moment_odds C (by decide) wd_237 (dk dcX10_wander_0 14 rfl) ?_
      refine v_iload_n C 0 (dk dcX10_wander_0 15 rfl) rfl rfl ?_
      cases h
      exact v_iret C rfl (dk dcX10_wander_0 16 rfl)
    · replace h := if_f c_2 h
      refine v_bipush C (-2) (dk dcX10_wander_0 5 rfl) kb_m2 ?_
      cases h
      exact v_iret C rfl (dk dcX10_wander_0 6 rfl)
set_option maxRecDepth 20000 in
set_option maxHeartbeats 4000000 in
theorem mtX1_become {l : Launch} {E : WEt} {wx : va_W} (L : Nat) (hL : 2 ≤ L)  {g : STt} {d0 : Nat} (hd0 : d0 < 10) {d1 : Nat} (hd1 : d1 < 10) {g' : STt} (h : fX1_become g d0 d1 = some g') : MT l E yX1_become cX1_become 2 none (L + 1) [.ref (aE E 19 d0), .ref (aE E 19 d1)] (cellsC E g ++ wx) (cellsC E g' ++ wx) none := by
  refine mt_of (by decide +kernel) (Nat.le_of_ble_eq_true rfl) ?_
  intro p e s m args below meth c C
  replace C : CX p s m args meth c cX1_become 2 RX1 none E := C
  unfold fX1_become at h
  refine vj_sub (lv' := [(0, .ref (aE E 19 d0)), (1, .ref (aE E 19 d1))]) [0, 1] rfl ?_
  refine v_aload_n C 1 (dk dcX1_become_0 0 rfl) rfl rfl ?_
  refine gt_Donkey_numbers C hd1 wd_219 (dk dcX1_become_0 1 rfl) ?_
  refine v_iconst C 0 (dk dcX1_become_0 2 rfl) ki_0 ?_
  refine v_aload_n C 0 (dk dcX1_become_0 3 rfl) rfl rfl ?_
  refine gt_Donkey_numbers C hd0 wd_219 (dk dcX1_become_0 4 rfl) ?_
  refine v_iconst C 0 (dk dcX1_become_0 5 rfl) ki_0 ?_
  refine v_aload_n C 0 (dk dcX1_become_0 6 rfl) rfl rfl ?_
  refine gt_Donkey_numbers C hd0 wd_219 (dk dcX1_become_0 7 rfl) ?_
  refine al_donkNums C hd0 (dk dcX1_become_0 8 rfl) ?_
  obtain ⟨b_1, h⟩ := gd_t h
  refine v_copyi C (by omega) wd_789 wn_copy wn_copyS wn_sys _ _ rfl rfl (ce_donkNums hd1) (ce_donkNums hd0) (cpB_1 b_1) (cpB_2 b_1) (cpB_3 b_1) (cpB_4 b_1) (cpB_5 b_1) (Nat.le_of_ble_eq_true rfl) (dk dcX1_become_0 9 rfl) (se_donkNums hd0 _) ?_
  cases h
  exact v_vret C rfl (dk dcX1_become_0 10 rfl)
set_option maxRecDepth 20000 in
set_option maxHeartbeats 4000000 in
theorem vX8_stage_j26 {L : Nat} (hL : 2 ≤ L) (C : CX p s m args meth c cX8_stage 3 RX8 (some (.object "DonkeyBridge$Donkey")) E) {g : STt} {s0 : Nat} (hs0 : s0 < 10) (r : Nat) (h : fX8_stage_j26 g s0 = some r) : VJ p l e (rmL (L + 1)) s m args below meth c (QE below E (cellsC E g ++ wx) (some (.ref (aE E 19 r))) args s) E 3 (cellsC E g ++ wx) [(0, .ref (aE E 10 0))] [.ref (aE E 19 s0)] 26 := by
  unfold fX8_stage_j26 at h
  refine v_astore_n C (lv' := [(2, .ref (aE E 19 s0)), (0, .ref (aE E 10 0))]) (dk dcX8_stage_0 14 rfl) rfl (by decide) rfl ?_
  refine v_aload_n C 0 (dk dcX8_stage_0 15 rfl) rfl rfl ?_
  refine v_ifnonnull C 38 (dk dcX8_stage_0 16 rfl) (by decide) ?_
  refine v_aload_n C 0 (dk dcX8_stage_0 20 rfl) rfl rfl ?_
  cases h
  exact v_aret C rfl ⟨_, rfl⟩ (Or.inr ⟨_, rfl⟩) (dk dcX8_stage_0 21 rfl)
set_option maxRecDepth 20000 in
set_option maxHeartbeats 4000000 in
theorem vX8_stage_j22 {L : Nat} (hL : 2 ≤ L) (C : CX p s m args meth c cX8_stage 3 RX8 (some (.object "DonkeyBridge$Donkey")) E) {g : STt} (r : Nat) (h : fX8_stage_j22 g = some r) : VJ p l e (rmL (L + 1)) s m args below meth c (QE below E (cellsC E g ++ wx) (some (.ref (aE E 19 r))) args s) E 3 (cellsC E g ++ wx) [(0, .ref (aE E 10 0))] [] 22 := by
  unfold fX8_stage_j22 at h
  refine v_aload_n C 0 (dk dcX8_stage_0 12 rfl) rfl rfl ?_
  refine gt_Trial_spare C wd_266 (dk dcX8_stage_0 13 rfl) ?_
  exact vj_sub [0] rfl (vX8_stage_j26 hL C (by decide) _ h)
set_option maxRecDepth 20000 in
set_option maxHeartbeats 4000000 in
theorem mtX8_stage {l : Launch} {E : WEt} {wx : va_W} (L : Nat) (hL : 2 ≤ L)  {g : STt} {x1 : Int32} {rr : Nat} (h : fX8_stage g x1 = some rr) : MT l E yX8_stage cX8_stage 3 (some (.object "DonkeyBridge$Donkey")) (L + 1) [.ref (aE E 10 0), .int x1] (cellsC E g ++ wx) (cellsC E g ++ wx) (some (.ref (aE E 19 rr))) := by
  refine mt_of (by decide +kernel) (Nat.le_of_ble_eq_true rfl) ?_
  intro p e s m args below meth c C
  replace C : CX p s m args meth c cX8_stage 3 RX8 (some (.object "DonkeyBridge$Donkey")) E := C
  unfold fX8_stage at h
  refine vj_sub (lv' := [(0, .ref (aE E 10 0)), (1, .int x1)]) [0, 1] rfl ?_
  refine v_iload_n C 1 (dk dcX8_stage_0 0 rfl) rfl rfl ?_
  refine v_if_lt C 22 (dk dcX8_stage_0 1 rfl) (by decide) (fun c_1 => ?_) (fun c_1 => ?_)
  · replace h := if_t c_1 h
    exact vj_sub [0] rfl (vX8_stage_j22 hL C _ h)
  · replace h := if_f c_1 h
    refine v_iload_n C 1 (dk dcX8_stage_0 2 rfl) rfl rfl ?_
    refine v_aload_n C 0 (dk dcX8_stage_0 3 rfl) rfl rfl ?_
    refine gt_Trial_stages C wd_265 (dk dcX8_stage_0 4 rfl) ?_
    refine al_stagesArr C (dk dcX8_stage_0 5 rfl) ?_
    refine v_icmp_ge C 22 (dk dcX8_stage_0 6 rfl) (by decide) (fun c_2 => ?_) (fun c_2 => ?_)
    · replace h := if_t c_2 h
      exact vj_sub [0] rfl (vX8_stage_j22 hL C _ h)
    · replace h := if_f c_2 h
      refine v_aload_n C 0 (dk dcX8_stage_0 7 rfl) rfl rfl ?_
      refine gt_Trial_stages C wd_265 (dk dcX8_stage_0 8 rfl) ?_
      refine v_iload_n C 1 (dk dcX8_stage_0 9 rfl) rfl rfl ?_
      obtain ⟨b_3, h⟩ := gd_t h
      refine ld_stagesArr C b_3 (dk dcX8_stage_0 10 rfl) ?_
      refine v_goto C 26 (dk dcX8_stage_0 11 rfl) (by decide) ?_
      exact vj_sub [0] rfl (vX8_stage_j26 hL C (Nat.lt_of_lt_of_le (Nat.add_lt_add_left (inB_lt b_3) 2) (by decide)) _ h)
set_option maxRecDepth 20000 in
set_option maxHeartbeats 4000000 in
theorem mtX8_begin {l : Launch} {E : WEt} {wx : va_W} (L : Nat) (hL : 3 ≤ L)  {g : STt} {g' : STt} {rr : Nat} (h : fX8_begin g = some (g', rr)) : MT l E yX8_begin cX8_begin 2 (some (.object "DonkeyBridge$Donkey")) (L + 1) [.ref (aE E 10 0)] (cellsC E g ++ wx) (cellsC E g' ++ wx) (some (.ref (aE E 19 rr))) := by
  refine mt_of (by decide +kernel) (Nat.le_of_ble_eq_true rfl) ?_
  intro p e s m args below meth c C
  replace C : CX p s m args meth c cX8_begin 2 RX8 (some (.object "DonkeyBridge$Donkey")) E := C
  unfold fX8_begin at h
  refine vj_sub (lv' := [(0, .ref (aE E 10 0))]) [0] rfl ?_
  refine v_aload_n C 0 (dk dcX8_begin_0 0 rfl) rfl rfl ?_
  refine v_iconst C 0 (dk dcX8_begin_0 1 rfl) ki_0 ?_
  obtain ⟨r_2, h_1, h⟩ := bnd1_s h
  refine v_callV1 C (mtX8_stage (L - 1) (by omega) h_1) wmX8_stage wd_781 (by omega) (by decide) rfl _ (ce_Trial) rfl rfl (Nat.le_of_ble_eq_true rfl) (dk dcX8_begin_0 2 rfl) ?_
  obtain ⟨b_3, h⟩ := gd_t h
  refine v_astore_n C (lv' := [(1, .ref (aE E 19 r_2)), (0, .ref (aE E 10 0))]) (dk dcX8_begin_0 3 rfl) rfl (by decide) rfl ?_
  refine v_aload_n C 0 (dk dcX8_begin_0 4 rfl) rfl rfl ?_
  refine v_aload_n C 1 (dk dcX8_begin_0 5 rfl) rfl rfl ?_
  refine gt_Trial_present C wd_264 (dk dcX8_begin_0 6 rfl) ?_
  refine gt_Moment_donkey C (by decide) wd_226 (dk dcX8_begin_0 7 rfl) ?_
  obtain ⟨g_5, h_4, h⟩ := bnd1_s h
  refine v_callV0 C (mtX1_become (L - 1) (by omega) b_3 (by decide) h_4) wmX1_become wd_785 (by omega) (by decide) rfl _ (ce_Donkey b_3) rfl rfl (Nat.le_of_ble_eq_true rfl) (dk dcX8_begin_0 8 rfl) ?_
  refine v_aload_n C 1 (dk dcX8_begin_0 9 rfl) rfl rfl ?_
  refine v_aload_n C 0 (dk dcX8_begin_0 10 rfl) rfl rfl ?_
  refine v_bipush C 12 (dk dcX8_begin_0 11 rfl) kb_12 ?_
  obtain ⟨r_7, h_6, h⟩ := bnd1_s h
  refine v_callV1 C (mtX1_get (L - 1) (by omega) b_3 h_6) wmX1_get wd_792 (by omega) (by decide) rfl _ (ce_Donkey b_3) rfl rfl (Nat.le_of_ble_eq_true rfl) (dk dcX8_begin_0 12 rfl) ?_
  refine v_iconst C 1 (dk dcX8_begin_0 13 rfl) ki_1 ?_
  refine v_iadd C (dk dcX8_begin_0 14 rfl) ?_
  refine pt_Trial_goal C wd_271 (dk dcX8_begin_0 15 rfl) ?_
  refine v_aload_n C 0 (dk dcX8_begin_0 16 rfl) rfl rfl ?_
  cases h
  exact v_aret C rfl ⟨_, rfl⟩ (Or.inr ⟨_, rfl⟩) (dk dcX8_begin_0 17 rfl)
set_option maxRecDepth 20000 in
set_option maxHeartbeats 4000000 in
theorem vX1_addTo_j61 {L : Nat} (hL : 2 ≤ L) (C : CX p s m args meth c cX1_addTo 4 RX1 none E) {g : STt} {s0 : Int32} {s1 : Int32} {s2 : Nat} (hs2 : s2 < 10) (r : STt) (h : fX1_addTo_j61 g s0 s1 s2 = some r) : VJ p l e (rmL (L + 1)) s m args below meth c (QE below E (cellsC E r ++ wx) (none) args s) E 4 (cellsC E g ++ wx) [] [.int s0, .int s1, .ref (aE E 20 s2)] 61 := by
  unfold fX1_addTo_j61 at h
  obtain ⟨b_1, h⟩ := gd_t h
  refine st_donkNums C hs2 b_1 (dk dcX1_addTo_0 35 rfl) ?_
  cases h
  exact v_vret C rfl (dk dcX1_addTo_0 36 rfl)
set_option maxRecDepth 20000 in
set_option maxHeartbeats 4000000 in
theorem mtX1_addTo {l : Launch} {E : WEt} {wx : va_W} (L : Nat) (hL : 2 ≤ L)  {g : STt} {d0 : Nat} (hd0 : d0 < 10) {x1 : Int32} {x2 : Int32} {g' : STt} (h : fX1_addTo g d0 x1 x2 = some g') : MT l E yX1_addTo cX1_addTo 4 none (L + 1) [.ref (aE E 19 d0), .int x1, .int x2] (cellsC E g ++ wx) (cellsC E g' ++ wx) none := by
  refine mt_of (by decide +kernel) (Nat.le_of_ble_eq_true rfl) ?_
  intro p e s m args below meth c C
  replace C : CX p s m args meth c cX1_addTo 4 RX1 none E := C
  unfold fX1_addTo at h
  refine vj_sub (lv' := [(0, .ref (aE E 19 d0)), (1, .int x1), (2, .int x2)]) [0, 1, 2] rfl ?_
  refine v_iload_n C 1 (dk dcX1_addTo_0 0 rfl) rfl rfl ?_
  refine v_if_lt C 62 (dk dcX1_addTo_0 1 rfl) (by decide) (fun c_1 => ?_) (fun c_1 => ?_)
  · replace h := if_t c_1 h
    cases h
    exact v_vret C rfl (dk dcX1_addTo_0 36 rfl)
  · replace h := if_f c_1 h
    refine v_iload_n C 1 (dk dcX1_addTo_0 2 rfl) rfl rfl ?_
    refine v_aload_n C 0 (dk dcX1_addTo_0 3 rfl) rfl rfl ?_
    refine gt_Donkey_numbers C hd0 wd_219 (dk dcX1_addTo_0 4 rfl) ?_
    refine al_donkNums C hd0 (dk dcX1_addTo_0 5 rfl) ?_
    refine v_icmp_ge C 62 (dk dcX1_addTo_0 6 rfl) (by decide) (fun c_2 => ?_) (fun c_2 => ?_)
    · replace h := if_t c_2 h
      cases h
      exact v_vret C rfl (dk dcX1_addTo_0 36 rfl)
    · replace h := if_f c_2 h
      refine v_iload_n C 1 (dk dcX1_addTo_0 7 rfl) rfl rfl ?_
      refine v_gets C C.2.2.2.2.2.2.1.1.1 wd_211 rfl (dk dcX1_addTo_0 8 rfl) ?_
      refine v_tlen C C.2.2.2.2.2.2.1.1.2 (v := 15) rfl (dk dcX1_addTo_0 9 rfl) ?_
      refine v_icmp_ge C 62 (dk dcX1_addTo_0 10 rfl) (by decide) (fun c_3 => ?_) (fun c_3 => ?_)
      · replace h := if_t c_3 h
        cases h
        exact v_vret C rfl (dk dcX1_addTo_0 36 rfl)
      · replace h := if_f c_3 h
        refine v_aload_n C 0 (dk dcX1_addTo_0 11 rfl) rfl rfl ?_
        refine gt_Donkey_numbers C hd0 wd_219 (dk dcX1_addTo_0 12 rfl) ?_
        refine v_iload_n C 1 (dk dcX1_addTo_0 13 rfl) rfl rfl ?_
        obtain ⟨b_4, h⟩ := gd_t h
        refine ld_donkNums C hd0 b_4 (dk dcX1_addTo_0 14 rfl) ?_
        refine v_iload_n C 2 (dk dcX1_addTo_0 15 rfl) rfl rfl ?_
        refine v_iadd C (dk dcX1_addTo_0 16 rfl) ?_
        refine v_istore_n C (lv' := [(3, .int ((g.2.1 22 d0 x1.toNatClampNeg) + x2)), (0, .ref (aE E 19 d0)), (1, .int x1), (2, .int x2)]) (dk dcX1_addTo_0 17 rfl) rfl (by decide) rfl ?_
        refine v_aload_n C 1 (dk dcX1_addTo_0 18 rfl) rfl rfl ?_
        refine gt_Donkey_numbers C hd0 wd_219 (dk dcX1_addTo_0 19 rfl) ?_
        refine v_iload_n C 2 (dk dcX1_addTo_0 20 rfl) rfl rfl ?_
        refine v_iload_n C 0 (dk dcX1_addTo_0 21 rfl) rfl rfl ?_
        refine v_if_ge C 43 (dk dcX1_addTo_0 22 rfl) (by decide) (fun c_5 => ?_) (fun c_5 => ?_)
        · replace h := if_t c_5 h
          refine v_iload_n C 0 (dk dcX1_addTo_0 25 rfl) rfl rfl ?_
          refine v_gets C C.2.2.2.2.2.2.1.1.1 wd_211 rfl (dk dcX1_addTo_0 26 rfl) ?_
          refine v_iload_n C 2 (dk dcX1_addTo_0 27 rfl) rfl rfl ?_
          obtain ⟨b_6, h⟩ := gd_t h
          refine v_ti C C.2.2.2.2.2.2.1.1.2 (inB_in b_6) (dk dcX1_addTo_0 28 rfl) ?_
          refine v_icmp_le C 60 (dk dcX1_addTo_0 29 rfl) (by decide) (fun c_7 => ?_) (fun c_7 => ?_)
          · replace h := if_t c_7 h
            refine v_iload_n C 0 (dk dcX1_addTo_0 34 rfl) rfl rfl ?_
            exact vj_sub [] rfl (vX1_addTo_j61 hL C hd0 _ h)
          · replace h := if_f c_7 h
            refine v_gets C C.2.2.2.2.2.2.1.1.1 wd_211 rfl (dk dcX1_addTo_0 30 rfl) ?_
            refine v_iload_n C 2 (dk dcX1_addTo_0 31 rfl) rfl rfl ?_
            obtain ⟨b_8, h⟩ := gd_t h
            refine v_ti C C.2.2.2.2.2.2.1.1.2 (inB_in b_8) (dk dcX1_addTo_0 32 rfl) ?_
            refine v_goto C 61 (dk dcX1_addTo_0 33 rfl) (by decide) ?_
            exact vj_sub [] rfl (vX1_addTo_j61 hL C hd0 _ h)
        · replace h := if_f c_5 h
          refine v_iconst C 0 (dk dcX1_addTo_0 23 rfl) ki_0 ?_
          refine v_goto C 61 (dk dcX1_addTo_0 24 rfl) (by decide) ?_
          exact vj_sub [] rfl (vX1_addTo_j61 hL C hd0 _ h)
set_option maxRecDepth 20000 in
set_option maxHeartbeats 4000000 in
theorem vX9_answer_j69 {L : Nat} (hL : 3 ≤ L) (C : CX p s m args meth c cX9_answer 5 RX9 none E) {g : STt} {s0 : Int32} {s1 : Int32} {s2 : Nat} (hs2 : s2 < 10) (r : STt) (h : fX9_answer_j69 g s0 s1 s2 = some r) : VJ p l e (rmL (L + 1)) s m args below meth c (QE below E (cellsC E r ++ wx) (none) args s) E 5 (cellsC E g ++ wx) [] [.int s0, .int s1, .ref (aE E 19 s2)] 69 := by
  unfold fX9_answer_j69 at h
  obtain ⟨g_2, h_1, h⟩ := bnd1_s h
  refine v_callV0 C (mtX1_addTo (L - 1) (by omega) hs2 h_1) wmX1_addTo wd_743 (by omega) (by decide) rfl _ (ce_Donkey hs2) rfl rfl (Nat.le_of_ble_eq_true rfl) (dk dcX9_answer_0 16 rfl) ?_
  refine v_goto C 156 (dk dcX9_answer_0 17 rfl) (by decide) ?_
  cases h
  exact v_vret C rfl (dk dcX9_answer_1 9 rfl)
set_option maxRecDepth 20000 in
set_option maxHeartbeats 4000000 in
theorem vX9_answer_j88 {L : Nat} (hL : 3 ≤ L) (C : CX p s m args meth c cX9_answer 5 RX9 none E) {g : STt} {l0 : Nat} {s0 : Int32} {s1 : Int32} {s2 : Nat} (hl0 : l0 < 10) (hs2 : s2 < 10) (r : STt) (h : fX9_answer_j88 g l0 s0 s1 s2 = some r) : VJ p l e (rmL (L + 1)) s m args below meth c (QE below E (cellsC E r ++ wx) (none) args s) E 5 (cellsC E g ++ wx) [(0, .ref (aE E 19 l0))] [.int s0, .int s1, .ref (aE E 19 s2)] 88 := by
  unfold fX9_answer_j88 at h
  obtain ⟨g_2, h_1, h⟩ := bnd1_s h
  refine v_callV0 C (mtX1_addTo (L - 1) (by omega) hs2 h_1) wmX1_addTo wd_743 (by omega) (by decide) rfl _ (ce_Donkey hs2) rfl rfl (Nat.le_of_ble_eq_true rfl) (dk dcX9_answer_0 25 rfl) ?_
  refine v_aload_n C 0 (dk dcX9_answer_0 26 rfl) rfl rfl ?_
  refine v_bipush C 7 (dk dcX9_answer_0 27 rfl) kb_7 ?_
  refine v_bipush C (-3) (dk dcX9_answer_0 28 rfl) kb_m3 ?_
  obtain ⟨g_4, h_3, h⟩ := bnd1_s h
  refine v_callV0 C (mtX1_addTo (L - 1) (by omega) hl0 h_3) wmX1_addTo wd_743 (by omega) (by decide) rfl _ (ce_Donkey hl0) rfl rfl (Nat.le_of_ble_eq_true rfl) (dk dcX9_answer_0 29 rfl) ?_
  refine v_goto C 156 (dk dcX9_answer_0 30 rfl) (by decide) ?_
  cases h
  exact v_vret C rfl (dk dcX9_answer_1 9 rfl)
set_option maxRecDepth 20000 in
set_option maxHeartbeats 4000000 in
theorem vX9_answer_j150 {L : Nat} (hL : 3 ≤ L) (C : CX p s m args meth c cX9_answer 5 RX9 none E) {g : STt} {s0 : Int32} {s1 : Int32} {s2 : Nat} (hs2 : s2 < 10) (r : STt) (h : fX9_answer_j150 g s0 s1 s2 = some r) : VJ p l e (rmL (L + 1)) s m args below meth c (QE below E (cellsC E r ++ wx) (none) args s) E 5 (cellsC E g ++ wx) [] [.int s0, .int s1, .ref (aE E 19 s2)] 150 := by
  unfold fX9_answer_j150 at h
  obtain ⟨g_2, h_1, h⟩ := bnd1_s h
  refine v_callV0 C (mtX1_addTo (L - 1) (by omega) hs2 h_1) wmX1_addTo wd_743 (by omega) (by decide) rfl _ (ce_Donkey hs2) rfl rfl (Nat.le_of_ble_eq_true rfl) (dk dcX9_answer_1 7 rfl) ?_
  refine v_goto C 156 (dk dcX9_answer_1 8 rfl) (by decide) ?_
  cases h
  exact v_vret C rfl (dk dcX9_answer_1 9 rfl)
set_option maxRecDepth 20000 in
set_option maxHeartbeats 4000000 in
theorem vX9_answer_j133 {L : Nat} (hL : 3 ≤ L) (C : CX p s m args meth c cX9_answer 5 RX9 none E) {g : STt} {l0 : Nat} {l4 : Int32} {s0 : Int32} {s1 : Int32} {s2 : Nat} (hl0 : l0 < 10) (hs2 : s2 < 10) (r : STt) (h : fX9_answer_j133 g l0 l4 s0 s1 s2 = some r) : VJ p l e (rmL (L + 1)) s m args below meth c (QE below E (cellsC E r ++ wx) (none) args s) E 5 (cellsC E g ++ wx) [(0, .ref (aE E 19 l0)), (4, .int l4)] [.int s0, .int s1, .ref (aE E 19 s2)] 133 := by
  unfold fX9_answer_j133 at h
  obtain ⟨g_2, h_1, h⟩ := bnd1_s h
  refine v_callV0 C (mtX1_addTo (L - 1) (by omega) hs2 h_1) wmX1_addTo wd_743 (by omega) (by decide) rfl _ (ce_Donkey hs2) rfl rfl (Nat.le_of_ble_eq_true rfl) (dk dcX9_answer_0 47 rfl) ?_
  refine v_aload_n C 0 (dk dcX9_answer_1 0 rfl) rfl rfl ?_
  refine v_bipush C 6 (dk dcX9_answer_1 1 rfl) kb_6 ?_
  refine v_iload C 1 (dk dcX9_answer_1 2 rfl) rfl ?_
  refine v_if_eq C 148 (dk dcX9_answer_1 3 rfl) (by decide) (fun c_3 => ?_) (fun c_3 => ?_)
  · replace h := if_t c_3 h
    refine v_bipush C (-2) (dk dcX9_answer_1 6 rfl) kb_m2 ?_
    exact vj_sub [] rfl (vX9_answer_j150 hL C hl0 _ h)
  · replace h := if_f c_3 h
    refine v_iconst C 0 (dk dcX9_answer_1 4 rfl) ki_0 ?_
    refine v_goto C 150 (dk dcX9_answer_1 5 rfl) (by decide) ?_
    exact vj_sub [] rfl (vX9_answer_j150 hL C hl0 _ h)
set_option maxRecDepth 20000 in
set_option maxHeartbeats 4000000 in
theorem vX9_answer_j10 {L : Nat} (hL : 3 ≤ L) (C : CX p s m args meth c cX9_answer 5 RX9 none E) {g : STt} {l0 : Nat} {l1 : Int32} {l3 : Int32} {s0 : Int32} (hl0 : l0 < 10) (r : STt) (h : fX9_answer_j10 g l0 l1 l3 s0 = some r) : VJ p l e (rmL (L + 1)) s m args below meth c (QE below E (cellsC E r ++ wx) (none) args s) E 5 (cellsC E g ++ wx) [(0, .ref (aE E 19 l0)), (1, .int l1), (3, .int l3)] [.int s0] 10 := by
  unfold fX9_answer_j10 at h
  refine v_istore C (lv' := [(4, .int s0), (0, .ref (aE E 19 l0)), (1, .int l1), (3, .int l3)]) (dk dcX9_answer_0 6 rfl) (by decide) rfl ?_
  refine v_iload_n C 2 (dk dcX9_answer_0 7 rfl) rfl rfl ?_
  by_cases c_1 : l1 = 1
  · replace h := if_t c_1 h
    refine v_tableIn C 56 (dk dcX9_answer_0 8 rfl) (by rw [c_1]; decide) (by rw [c_1]; decide) (by rw [c_1]; rfl) (by decide) ?_
    refine v_aload_n C 1 (dk dcX9_answer_0 9 rfl) rfl rfl ?_
    refine v_bipush C 6 (dk dcX9_answer_0 10 rfl) kb_6 ?_
    refine v_iload C 0 (dk dcX9_answer_0 11 rfl) rfl ?_
    refine v_if_eq C 68 (dk dcX9_answer_0 12 rfl) (by decide) (fun c_2 => ?_) (fun c_2 => ?_)
    · replace h := if_t c_2 h
      refine v_iconst C (-1) (dk dcX9_answer_0 15 rfl) ki_m1 ?_
      exact vj_sub [] rfl (vX9_answer_j69 hL C hl0 _ h)
    · replace h := if_f c_2 h
      refine v_iconst C 0 (dk dcX9_answer_0 13 rfl) ki_0 ?_
      refine v_goto C 69 (dk dcX9_answer_0 14 rfl) (by decide) ?_
      exact vj_sub [] rfl (vX9_answer_j69 hL C hl0 _ h)
  · replace h := if_f c_1 h
    by_cases c_2 : l1 = 2
    · replace h := if_t c_2 h
      refine v_tableIn C 156 (dk dcX9_answer_0 8 rfl) (by rw [c_2]; decide) (by rw [c_2]; decide) (by rw [c_2]; rfl) (by decide) ?_
      cases h
      exact v_vret C rfl (dk dcX9_answer_1 9 rfl)
    · replace h := if_f c_2 h
      by_cases c_3 : l1 = 3
      · replace h := if_t c_3 h
        refine v_tableIn C 156 (dk dcX9_answer_0 8 rfl) (by rw [c_3]; decide) (by rw [c_3]; decide) (by rw [c_3]; rfl) (by decide) ?_
        cases h
        exact v_vret C rfl (dk dcX9_answer_1 9 rfl)
      · replace h := if_f c_3 h
        by_cases c_4 : l1 = 4
        · replace h := if_t c_4 h
          refine v_tableIn C 75 (dk dcX9_answer_0 8 rfl) (by rw [c_4]; decide) (by rw [c_4]; decide) (by rw [c_4]; rfl) (by decide) ?_
          refine v_aload_n C 1 (dk dcX9_answer_0 18 rfl) rfl rfl ?_
          refine v_bipush C 6 (dk dcX9_answer_0 19 rfl) kb_6 ?_
          refine v_iload C 0 (dk dcX9_answer_0 20 rfl) rfl ?_
          refine v_if_eq C 87 (dk dcX9_answer_0 21 rfl) (by decide) (fun c_5 => ?_) (fun c_5 => ?_)
          · replace h := if_t c_5 h
            refine v_iconst C 5 (dk dcX9_answer_0 24 rfl) ki_5 ?_
            exact vj_sub [1] rfl (vX9_answer_j88 hL C hl0 hl0 _ h)
          · replace h := if_f c_5 h
            refine v_iconst C (-1) (dk dcX9_answer_0 22 rfl) ki_m1 ?_
            refine v_goto C 88 (dk dcX9_answer_0 23 rfl) (by decide) ?_
            exact vj_sub [1] rfl (vX9_answer_j88 hL C hl0 hl0 _ h)
        · replace h := if_f c_4 h
          by_cases c_5 : l1 = 5
          · replace h := if_t c_5 h
            refine v_tableIn C 102 (dk dcX9_answer_0 8 rfl) (by rw [c_5]; decide) (by rw [c_5]; decide) (by rw [c_5]; rfl) (by decide) ?_
            refine v_aload_n C 1 (dk dcX9_answer_0 31 rfl) rfl rfl ?_
            refine v_bipush C 10 (dk dcX9_answer_0 32 rfl) kb_10 ?_
            refine v_bipush C (-5) (dk dcX9_answer_0 33 rfl) kb_m5 ?_
            obtain ⟨g_7, h_6, h⟩ := bnd1_s h
            refine v_callV0 C (mtX1_addTo (L - 1) (by omega) hl0 h_6) wmX1_addTo wd_743 (by omega) (by decide) rfl _ (ce_Donkey hl0) rfl rfl (Nat.le_of_ble_eq_true rfl) (dk dcX9_answer_0 34 rfl) ?_
            refine v_aload_n C 1 (dk dcX9_answer_0 35 rfl) rfl rfl ?_
            refine v_bipush C 11 (dk dcX9_answer_0 36 rfl) kb_11 ?_
            refine v_bipush C (-5) (dk dcX9_answer_0 37 rfl) kb_m5 ?_
            obtain ⟨g_9, h_8, h⟩ := bnd1_s h
            refine v_callV0 C (mtX1_addTo (L - 1) (by omega) hl0 h_8) wmX1_addTo wd_743 (by omega) (by decide) rfl _ (ce_Donkey hl0) rfl rfl (Nat.le_of_ble_eq_true rfl) (dk dcX9_answer_0 38 rfl) ?_
            refine v_goto C 156 (dk dcX9_answer_0 39 rfl) (by decide) ?_
            cases h
            exact v_vret C rfl (dk dcX9_answer_1 9 rfl)
          · replace h := if_f c_5 h
            by_cases c_6 : l1 = 6
            · replace h := if_t c_6 h
              refine v_tableIn C 156 (dk dcX9_answer_0 8 rfl) (by rw [c_6]; decide) (by rw [c_6]; decide) (by rw [c_6]; rfl) (by decide) ?_
              cases h
              exact v_vret C rfl (dk dcX9_answer_1 9 rfl)
            · replace h := if_f c_6 h
              by_cases c_7 : l1 = 7
              · replace h := if_t c_7 h
                refine v_tableIn C 121 (dk dcX9_answer_0 8 rfl) (by rw [c_7]; decide) (by rw [c_7]; decide) (by rw [c_7]; rfl) (by decide) ?_
                refine v_aload_n C 1 (dk dcX9_answer_0 40 rfl) rfl rfl ?_
                refine v_iload_n C 3 (dk dcX9_answer_0 41 rfl) rfl rfl ?_
                refine v_iload C 0 (dk dcX9_answer_0 42 rfl) rfl ?_
                refine v_if_eq C 132 (dk dcX9_answer_0 43 rfl) (by decide) (fun c_8 => ?_) (fun c_8 => ?_)
                · replace h := if_t c_8 h
                  refine v_iconst C 3 (dk dcX9_answer_0 46 rfl) ki_3 ?_
                  exact vj_sub [1, 0] rfl (vX9_answer_j133 hL C hl0 hl0 _ h)
                · replace h := if_f c_8 h
                  refine v_iconst C 0 (dk dcX9_answer_0 44 rfl) ki_0 ?_
                  refine v_goto C 133 (dk dcX9_answer_0 45 rfl) (by decide) ?_
                  exact vj_sub [1, 0] rfl (vX9_answer_j133 hL C hl0 hl0 _ h)
              · replace h := if_f c_7 h
                have ec_1 := i32_ne (k := 1) c_1 (by decide)
                have ec_2 := i32_ne (k := 2) c_2 (by decide)
                have ec_3 := i32_ne (k := 3) c_3 (by decide)
                have ec_4 := i32_ne (k := 4) c_4 (by decide)
                have ec_5 := i32_ne (k := 5) c_5 (by decide)
                have ec_6 := i32_ne (k := 6) c_6 (by decide)
                have ec_7 := i32_ne (k := 7) c_7 (by decide)
                refine v_tableOut C 156 (dk dcX9_answer_0 8 rfl) (by omega) (by decide) ?_
                cases h
                exact v_vret C rfl (dk dcX9_answer_1 9 rfl)
set_option maxRecDepth 20000 in
set_option maxHeartbeats 4000000 in
theorem mtX9_answer {l : Launch} {E : WEt} {wx : va_W} (L : Nat) (hL : 3 ≤ L)  {g : STt} {d0 : Nat} (hd0 : d0 < 10) {x1 : Int32} {x2 : Int32} {x3 : Int32} {g' : STt} (h : fX9_answer g d0 x1 x2 x3 = some g') : MT l E yX9_answer cX9_answer 5 none (L + 1) [.ref (aE E 19 d0), .int x1, .int x2, .int x3] (cellsC E g ++ wx) (cellsC E g' ++ wx) none := by
  refine mt_of (by decide +kernel) (Nat.le_of_ble_eq_true rfl) ?_
  intro p e s m args below meth c C
  replace C : CX p s m args meth c cX9_answer 5 RX9 none E := C
  unfold fX9_answer at h
  refine vj_sub (lv' := [(0, .ref (aE E 19 d0)), (1, .int x1), (2, .int x2), (3, .int x3)]) [0, 1, 2, 3] rfl ?_
  refine v_iload_n C 2 (dk dcX9_answer_0 0 rfl) rfl rfl ?_
  refine v_iconst C 1 (dk dcX9_answer_0 1 rfl) ki_1 ?_
  refine v_icmp_ne C 9 (dk dcX9_answer_0 2 rfl) (by decide) (fun c_1 => ?_) (fun c_1 => ?_)
  · replace h := if_f c_1 h
    refine v_iconst C 0 (dk dcX9_answer_0 5 rfl) ki_0 ?_
    exact vj_sub [0, 1, 3] rfl (vX9_answer_j10 hL C hd0 _ h)
  · replace h := if_t c_1 h
    refine v_iconst C 1 (dk dcX9_answer_0 3 rfl) ki_1 ?_
    refine v_goto C 10 (dk dcX9_answer_0 4 rfl) (by decide) ?_
    exact vj_sub [0, 1, 3] rfl (vX9_answer_j10 hL C hd0 _ h)
set_option maxRecDepth 20000 in
set_option maxHeartbeats 4000000 in
theorem mtX1_put {l : Launch} {E : WEt} {wx : va_W} (L : Nat) (hL : 2 ≤ L)  {g : STt} {d0 : Nat} (hd0 : d0 < 10) {x1 : Int32} {x2 : Int32} {g' : STt} (h : fX1_put g d0 x1 x2 = some g') : MT l E yX1_put cX1_put 3 none (L + 1) [.ref (aE E 19 d0), .int x1, .int x2] (cellsC E g ++ wx) (cellsC E g' ++ wx) none := by
  refine mt_of (by decide +kernel) (Nat.le_of_ble_eq_true rfl) ?_
  intro p e s m args below meth c C
  replace C : CX p s m args meth c cX1_put 3 RX1 none E := C
  unfold fX1_put at h
  refine vj_sub (lv' := [(0, .ref (aE E 19 d0)), (1, .int x1), (2, .int x2)]) [0, 1, 2] rfl ?_
  refine v_iload_n C 1 (dk dcX1_put_0 0 rfl) rfl rfl ?_
  refine v_if_lt C 20 (dk dcX1_put_0 1 rfl) (by decide) (fun c_1 => ?_) (fun c_1 => ?_)
  · replace h := if_t c_1 h
    cases h
    exact v_vret C rfl (dk dcX1_put_0 12 rfl)
  · replace h := if_f c_1 h
    refine v_iload_n C 1 (dk dcX1_put_0 2 rfl) rfl rfl ?_
    refine v_aload_n C 0 (dk dcX1_put_0 3 rfl) rfl rfl ?_
    refine gt_Donkey_numbers C hd0 wd_219 (dk dcX1_put_0 4 rfl) ?_
    refine al_donkNums C hd0 (dk dcX1_put_0 5 rfl) ?_
    refine v_icmp_ge C 20 (dk dcX1_put_0 6 rfl) (by decide) (fun c_2 => ?_) (fun c_2 => ?_)
    · replace h := if_t c_2 h
      cases h
      exact v_vret C rfl (dk dcX1_put_0 12 rfl)
    · replace h := if_f c_2 h
      refine v_aload_n C 0 (dk dcX1_put_0 7 rfl) rfl rfl ?_
      refine gt_Donkey_numbers C hd0 wd_219 (dk dcX1_put_0 8 rfl) ?_
      refine v_iload_n C 1 (dk dcX1_put_0 9 rfl) rfl rfl ?_
      refine v_iload_n C 2 (dk dcX1_put_0 10 rfl) rfl rfl ?_
      obtain ⟨b_3, h⟩ := gd_t h
      refine st_donkNums C hd0 b_3 (dk dcX1_put_0 11 rfl) ?_
      cases h
      exact v_vret C rfl (dk dcX1_put_0 12 rfl)
set_option maxRecDepth 20000 in
set_option maxHeartbeats 4000000 in
theorem mtX9_leave {l : Launch} {E : WEt} {wx : va_W} (L : Nat) (hL : 3 ≤ L)  {g : STt} {d0 : Nat} (hd0 : d0 < 10) {x1 : Int32} {g' : STt} (h : fX9_leave g d0 x1 = some g') : MT l E yX9_leave cX9_leave 2 none (L + 1) [.ref (aE E 19 d0), .int x1] (cellsC E g ++ wx) (cellsC E g' ++ wx) none := by
  refine mt_of (by decide +kernel) (Nat.le_of_ble_eq_true rfl) ?_
  intro p e s m args below meth c C
  replace C : CX p s m args meth c cX9_leave 2 RX9 none E := C
  unfold fX9_leave at h
  refine vj_sub (lv' := [(0, .ref (aE E 19 d0)), (1, .int x1)]) [0, 1] rfl ?_
  refine v_aload_n C 0 (dk dcX9_leave_0 0 rfl) rfl rfl ?_
  refine v_bipush C 12 (dk dcX9_leave_0 1 rfl) kb_12 ?_
  refine v_iload_n C 1 (dk dcX9_leave_0 2 rfl) rfl rfl ?_
  obtain ⟨g_2, h_1, h⟩ := bnd1_s h
  refine v_callV0 C (mtX1_addTo (L - 1) (by omega) hd0 h_1) wmX1_addTo wd_743 (by omega) (by decide) rfl _ (ce_Donkey hd0) rfl rfl (Nat.le_of_ble_eq_true rfl) (dk dcX9_leave_0 3 rfl) ?_
  refine v_aload_n C 0 (dk dcX9_leave_0 4 rfl) rfl rfl ?_
  refine v_bipush C 9 (dk dcX9_leave_0 5 rfl) kb_9 ?_
  refine v_iconst C 0 (dk dcX9_leave_0 6 rfl) ki_0 ?_
  obtain ⟨g_4, h_3, h⟩ := bnd1_s h
  refine v_callV0 C (mtX1_put (L - 1) (by omega) hd0 h_3) wmX1_put wd_750 (by omega) (by decide) rfl _ (ce_Donkey hd0) rfl rfl (Nat.le_of_ble_eq_true rfl) (dk dcX9_leave_0 7 rfl) ?_
  refine v_aload_n C 0 (dk dcX9_leave_0 8 rfl) rfl rfl ?_
  refine v_bipush C 13 (dk dcX9_leave_0 9 rfl) kb_13 ?_
  refine v_iconst C 0 (dk dcX9_leave_0 10 rfl) ki_0 ?_
  obtain ⟨g_6, h_5, h⟩ := bnd1_s h
  refine v_callV0 C (mtX1_put (L - 1) (by omega) hd0 h_5) wmX1_put wd_750 (by omega) (by decide) rfl _ (ce_Donkey hd0) rfl rfl (Nat.le_of_ble_eq_true rfl) (dk dcX9_leave_0 11 rfl) ?_
  cases h
  exact v_vret C rfl (dk dcX9_leave_0 12 rfl)
set_option maxRecDepth 20000 in
set_option maxHeartbeats 4000000 in
theorem vX9_follow_j79 {L : Nat} (hL : 4 ≤ L) (C : CX p s m args meth c cX9_follow 5 RX9 none E) {g : STt} {l1 : Nat} (hl1 : l1 < 10) (r : STt) (h : fX9_follow_j79 g l1 = some r) : VJ p l e (rmL (L + 1)) s m args below meth c (QE below E (cellsC E r ++ wx) (none) args s) E 5 (cellsC E g ++ wx) [(1, .ref (aE E 19 l1))] [] 79 := by
  unfold fX9_follow_j79 at h
  refine v_aload_n C 0 (dk dcX9_follow_0 29 rfl) rfl rfl ?_
  refine v_bipush C 13 (dk dcX9_follow_0 30 rfl) kb_13 ?_
  refine v_iconst C 0 (dk dcX9_follow_0 31 rfl) ki_0 ?_
  obtain ⟨g_2, h_1, h⟩ := bnd1_s h
  refine v_callV0 C (mtX1_put (L - 1) (by omega) hl1 h_1) wmX1_put wd_750 (by omega) (by decide) rfl _ (ce_Donkey hl1) rfl rfl (Nat.le_of_ble_eq_true rfl) (dk dcX9_follow_0 32 rfl) ?_
  refine v_goto C 111 (dk dcX9_follow_0 33 rfl) (by decide) ?_
  cases h
  exact v_vret C rfl (dk dcX9_follow_0 46 rfl)
set_option maxRecDepth 20000 in
set_option maxHeartbeats 4000000 in
theorem mtX9_follow {l : Launch} {E : WEt} {wx : va_W} (L : Nat) (hL : 4 ≤ L)  {g : STt} {d1 : Nat} (hd1 : d1 < 10) {x2 : Int32} {x3 : Int32} {x4 : Int32} {g' : STt} (h : fX9_follow g d1 x2 x3 x4 = some g') : MT l E yX9_follow cX9_follow 5 none (L + 1) [.ref (aE E 7 0), .ref (aE E 19 d1), .int x2, .int x3, .int x4] (cellsC E g ++ wx) (cellsC E g' ++ wx) none := by
  refine mt_of (by decide +kernel) (Nat.le_of_ble_eq_true rfl) ?_
  intro p e s m args below meth c C
  replace C : CX p s m args meth c cX9_follow 5 RX9 none E := C
  unfold fX9_follow at h
  refine vj_sub (lv' := [(0, .ref (aE E 7 0)), (1, .ref (aE E 19 d1)), (2, .int x2), (3, .int x3), (4, .int x4)]) [0, 1, 2, 3, 4] rfl ?_
  refine v_iload_n C 3 (dk dcX9_follow_0 0 rfl) rfl rfl ?_
  by_cases c_1 : x3 = 0
  · replace h := if_t c_1 h
    refine v_tableIn C 51 (dk dcX9_follow_0 1 rfl) (by rw [c_1]; decide) (by rw [c_1]; decide) (by rw [c_1]; rfl) (by decide) ?_
    refine v_iload_n C 2 (dk dcX9_follow_0 14 rfl) rfl rfl ?_
    refine v_bipush C 7 (dk dcX9_follow_0 15 rfl) kb_7 ?_
    refine v_icmp_eq C 79 (dk dcX9_follow_0 16 rfl) (by decide) (fun c_2 => ?_) (fun c_2 => ?_)
    · replace h := if_t c_2 h
      exact vj_sub [1] rfl (vX9_follow_j79 hL C hd1 _ h)
    · replace h := if_f c_2 h
      refine v_aload_n C 1 (dk dcX9_follow_0 17 rfl) rfl rfl ?_
      refine v_iload C 4 (dk dcX9_follow_0 18 rfl) rfl ?_
      refine v_aload_n C 0 (dk dcX9_follow_0 19 rfl) rfl rfl ?_
      obtain ⟨b_3, h⟩ := gd_t h
      refine gt_Walk_law C wd_187 (dk dcX9_follow_0 20 rfl) ?_
      refine v_iconst C 5 (dk dcX9_follow_0 21 rfl) ki_5 ?_
      obtain ⟨r_5, h_4, h⟩ := bnd1_s h
      refine v_callV1 C (mtX2_last (L - 1) (by omega) b_3 h_4) wmX2_last wd_655 (by omega) (by decide) rfl _ (ce_Law b_3) rfl rfl (Nat.le_of_ble_eq_true rfl) (dk dcX9_follow_0 22 rfl) ?_
      refine v_ineg C (dk dcX9_follow_0 23 rfl) ?_
      obtain ⟨g_7, h_6, h⟩ := bnd1_s h
      refine v_callV0 C (mtX1_addTo (L - 1) (by omega) hd1 h_6) wmX1_addTo wd_743 (by omega) (by decide) rfl _ (ce_Donkey hd1) rfl rfl (Nat.le_of_ble_eq_true rfl) (dk dcX9_follow_0 24 rfl) ?_
      refine v_aload_n C 1 (dk dcX9_follow_0 25 rfl) rfl rfl ?_
      refine v_bipush C 9 (dk dcX9_follow_0 26 rfl) kb_9 ?_
      refine v_iconst C 1 (dk dcX9_follow_0 27 rfl) ki_1 ?_
      obtain ⟨g_9, h_8, h⟩ := bnd1_s h
      refine v_callV0 C (mtX1_addTo (L - 1) (by omega) hd1 h_8) wmX1_addTo wd_743 (by omega) (by decide) rfl _ (ce_Donkey hd1) rfl rfl (Nat.le_of_ble_eq_true rfl) (dk dcX9_follow_0 28 rfl) ?_
      exact vj_sub [1] rfl (vX9_follow_j79 hL C hd1 _ h)
  · replace h := if_f c_1 h
    by_cases c_2 : x3 = 1
    · replace h := if_t c_2 h
      refine v_tableIn C 28 (dk dcX9_follow_0 1 rfl) (by rw [c_2]; decide) (by rw [c_2]; decide) (by rw [c_2]; rfl) (by decide) ?_
      refine v_aload_n C 1 (dk dcX9_follow_0 2 rfl) rfl rfl ?_
      refine v_iload C 4 (dk dcX9_follow_0 3 rfl) rfl ?_
      refine v_bipush C (-5) (dk dcX9_follow_0 4 rfl) kb_m5 ?_
      obtain ⟨g_4, h_3, h⟩ := bnd1_s h
      refine v_callV0 C (mtX1_addTo (L - 1) (by omega) hd1 h_3) wmX1_addTo wd_743 (by omega) (by decide) rfl _ (ce_Donkey hd1) rfl rfl (Nat.le_of_ble_eq_true rfl) (dk dcX9_follow_0 5 rfl) ?_
      refine v_aload_n C 1 (dk dcX9_follow_0 6 rfl) rfl rfl ?_
      refine v_bipush C 8 (dk dcX9_follow_0 7 rfl) kb_8 ?_
      refine v_iconst C 1 (dk dcX9_follow_0 8 rfl) ki_1 ?_
      obtain ⟨g_6, h_5, h⟩ := bnd1_s h
      refine v_callV0 C (mtX1_addTo (L - 1) (by omega) hd1 h_5) wmX1_addTo wd_743 (by omega) (by decide) rfl _ (ce_Donkey hd1) rfl rfl (Nat.le_of_ble_eq_true rfl) (dk dcX9_follow_0 9 rfl) ?_
      refine v_aload_n C 1 (dk dcX9_follow_0 10 rfl) rfl rfl ?_
      refine v_iconst C 1 (dk dcX9_follow_0 11 rfl) ki_1 ?_
      obtain ⟨g_8, h_7, h⟩ := bnd1_s h
      refine v_callS0 C (mtX9_leave (L - 1) (by omega) hd1 h_7) wmX9_leave wd_747 (by omega) (by decide) rfl rfl (Nat.le_of_ble_eq_true rfl) (dk dcX9_follow_0 12 rfl) ?_
      refine v_goto C 111 (dk dcX9_follow_0 13 rfl) (by decide) ?_
      cases h
      exact v_vret C rfl (dk dcX9_follow_0 46 rfl)
    · replace h := if_f c_2 h
      by_cases c_3 : x3 = 2
      · replace h := if_t c_3 h
        refine v_tableIn C 89 (dk dcX9_follow_0 1 rfl) (by rw [c_3]; decide) (by rw [c_3]; decide) (by rw [c_3]; rfl) (by decide) ?_
        refine v_aload_n C 1 (dk dcX9_follow_0 34 rfl) rfl rfl ?_
        refine v_iconst C (-1) (dk dcX9_follow_0 35 rfl) ki_m1 ?_
        obtain ⟨g_5, h_4, h⟩ := bnd1_s h
        refine v_callS0 C (mtX9_leave (L - 1) (by omega) hd1 h_4) wmX9_leave wd_747 (by omega) (by decide) rfl rfl (Nat.le_of_ble_eq_true rfl) (dk dcX9_follow_0 36 rfl) ?_
        refine v_goto C 111 (dk dcX9_follow_0 37 rfl) (by decide) ?_
        cases h
        exact v_vret C rfl (dk dcX9_follow_0 46 rfl)
      · replace h := if_f c_3 h
        have ec_1 := i32_ne (k := 0) c_1 (by decide)
        have ec_2 := i32_ne (k := 1) c_2 (by decide)
        have ec_3 := i32_ne (k := 2) c_3 (by decide)
        refine v_tableOut C 97 (dk dcX9_follow_0 1 rfl) (by omega) (by decide) ?_
        refine v_aload_n C 1 (dk dcX9_follow_0 38 rfl) rfl rfl ?_
        refine v_bipush C 13 (dk dcX9_follow_0 39 rfl) kb_13 ?_
        refine v_iconst C 1 (dk dcX9_follow_0 40 rfl) ki_1 ?_
        obtain ⟨g_5, h_4, h⟩ := bnd1_s h
        refine v_callV0 C (mtX1_put (L - 1) (by omega) hd1 h_4) wmX1_put wd_750 (by omega) (by decide) rfl _ (ce_Donkey hd1) rfl rfl (Nat.le_of_ble_eq_true rfl) (dk dcX9_follow_0 41 rfl) ?_
        refine v_aload_n C 1 (dk dcX9_follow_0 42 rfl) rfl rfl ?_
        refine v_bipush C 8 (dk dcX9_follow_0 43 rfl) kb_8 ?_
        refine v_iconst C (-1) (dk dcX9_follow_0 44 rfl) ki_m1 ?_
        obtain ⟨g_7, h_6, h⟩ := bnd1_s h
        refine v_callV0 C (mtX1_addTo (L - 1) (by omega) hd1 h_6) wmX1_addTo wd_743 (by omega) (by decide) rfl _ (ce_Donkey hd1) rfl rfl (Nat.le_of_ble_eq_true rfl) (dk dcX9_follow_0 45 rfl) ?_
        cases h
        exact v_vret C rfl (dk dcX9_follow_0 46 rfl)
set_option maxRecDepth 20000 in
set_option maxHeartbeats 4000000 in
theorem mtX9_halfMinutesOf {l : Launch} {E : WEt} {wx : va_W} (L : Nat) (hL : 3 ≤ L)  {g : STt} {x1 : Int32} {rr : Int32} (h : fX9_halfMinutesOf g x1 = some rr) : MT l E yX9_halfMinutesOf cX9_halfMinutesOf 2 (some .int) (L + 1) [.ref (aE E 7 0), .int x1] (cellsC E g ++ wx) (cellsC E g ++ wx) (some (.int rr)) := by
  refine mt_of (by decide +kernel) (Nat.le_of_ble_eq_true rfl) ?_
  intro p e s m args below meth c C
  replace C : CX p s m args meth c cX9_halfMinutesOf 2 RX9 (some .int) E := C
  unfold fX9_halfMinutesOf at h
  refine vj_sub (lv' := [(0, .ref (aE E 7 0)), (1, .int x1)]) [0, 1] rfl ?_
  refine v_iload_n C 1 (dk dcX9_halfMinutesOf_0 0 rfl) rfl rfl ?_
  refine v_bipush C 6 (dk dcX9_halfMinutesOf_0 1 rfl) kb_6 ?_
  refine v_icmp_ne C 22 (dk dcX9_halfMinutesOf_0 2 rfl) (by decide) (fun c_1 => ?_) (fun c_1 => ?_)
  · replace h := if_f c_1 h
    refine v_iconst C 1 (dk dcX9_halfMinutesOf_0 10 rfl) ki_1 ?_
    cases h
    exact v_iret C rfl (dk dcX9_halfMinutesOf_0 11 rfl)
  · replace h := if_t c_1 h
    refine v_iconst C 1 (dk dcX9_halfMinutesOf_0 3 rfl) ki_1 ?_
    refine v_aload_n C 0 (dk dcX9_halfMinutesOf_0 4 rfl) rfl rfl ?_
    obtain ⟨b_2, h⟩ := gd_t h
    refine gt_Walk_law C wd_187 (dk dcX9_halfMinutesOf_0 5 rfl) ?_
    refine v_bipush C 6 (dk dcX9_halfMinutesOf_0 6 rfl) kb_6 ?_
    obtain ⟨r_4, h_3, h⟩ := bnd1_s h
    refine v_callV1 C (mtX2_last (L - 1) (by omega) b_2 h_3) wmX2_last wd_655 (by omega) (by decide) rfl _ (ce_Law b_2) rfl rfl (Nat.le_of_ble_eq_true rfl) (dk dcX9_halfMinutesOf_0 7 rfl) ?_
    refine v_mmax C (by omega) wd_709 wn_maxS wn_math wn_maxC (Nat.le_of_ble_eq_true rfl) (dk dcX9_halfMinutesOf_0 8 rfl) ?_
    refine v_goto C 23 (dk dcX9_halfMinutesOf_0 9 rfl) (by decide) ?_
    cases h
    exact v_iret C rfl (dk dcX9_halfMinutesOf_0 11 rfl)
set_option maxRecDepth 20000 in
set_option maxHeartbeats 4000000 in
theorem vX9_step_j83 {L : Nat} (hL : 5 ≤ L) (C : CX p s m args meth c cX9_step 6 RX9 (some .int) E) {g : STt} {l1 : Nat} {l2 : Int32} {l4 : Int32} (hl1 : l1 < 10) (r : STt × Int32) (h : fX9_step_j83 g l1 l2 l4 = some r) : VJ p l e (rmL (L + 1)) s m args below meth c (QE below E (cellsC E r.1 ++ wx) (some (.int r.2)) args s) E 6 (cellsC E g ++ wx) [(0, .ref (aE E 7 0)), (1, .ref (aE E 19 l1)), (2, .int l2), (4, .int l4)] [] 83 := by
  unfold fX9_step_j83 at h
  refine v_aload_n C 1 (dk dcX9_step_0 45 rfl) rfl rfl ?_
  refine v_bipush C 14 (dk dcX9_step_0 46 rfl) kb_14 ?_
  refine v_aload_n C 0 (dk dcX9_step_0 47 rfl) rfl rfl ?_
  refine v_iload_n C 2 (dk dcX9_step_1 0 rfl) rfl rfl ?_
  obtain ⟨r_2, h_1, h⟩ := bnd1_s h
  refine v_callV1 C (mtX9_halfMinutesOf (L - 1) (by omega) h_1) wmX9_halfMinutesOf wd_758 (by omega) (by decide) rfl _ (ce_Walk) rfl rfl (Nat.le_of_ble_eq_true rfl) (dk dcX9_step_1 1 rfl) ?_
  obtain ⟨g_4, h_3, h⟩ := bnd1_s h
  refine v_callV0 C (mtX1_addTo (L - 1) (by omega) hl1 h_3) wmX1_addTo wd_743 (by omega) (by decide) rfl _ (ce_Donkey hl1) rfl rfl (Nat.le_of_ble_eq_true rfl) (dk dcX9_step_1 2 rfl) ?_
  refine v_iload C 3 (dk dcX9_step_1 3 rfl) rfl ?_
  cases h
  exact v_iret C rfl (dk dcX9_step_1 4 rfl)
set_option maxRecDepth 20000 in
set_option maxHeartbeats 4000000 in
theorem mtX9_step {l : Launch} {E : WEt} {wx : va_W} (L : Nat) (hL : 5 ≤ L)  {g : STt} {d1 : Nat} (hd1 : d1 < 10) {x2 : Int32} {x3 : Int32} {g' : STt} {rr : Int32} (h : fX9_step g d1 x2 x3 = some (g', rr)) : MT l E yX9_step cX9_step 6 (some .int) (L + 1) [.ref (aE E 7 0), .ref (aE E 19 d1), .int x2, .int x3] (cellsC E g ++ wx) (cellsC E g' ++ wx) (some (.int rr)) := by
  refine mt_of (by decide +kernel) (Nat.le_of_ble_eq_true rfl) ?_
  intro p e s m args below meth c C
  replace C : CX p s m args meth c cX9_step 6 RX9 (some .int) E := C
  unfold fX9_step at h
  refine vj_sub (lv' := [(0, .ref (aE E 7 0)), (1, .ref (aE E 19 d1)), (2, .int x2), (3, .int x3)]) [0, 1, 2, 3] rfl ?_
  refine v_aload_n C 0 (dk dcX9_step_0 0 rfl) rfl rfl ?_
  refine v_aload_n C 1 (dk dcX9_step_0 1 rfl) rfl rfl ?_
  obtain ⟨r_2, h_1, h⟩ := bnd1_s h
  refine v_callV1 C (mtX9_isOver (L - 1) (by omega) hd1 h_1) wmX9_isOver wd_726 (by omega) (by decide) rfl _ (ce_Walk) rfl rfl (Nat.le_of_ble_eq_true rfl) (dk dcX9_step_0 2 rfl) ?_
  refine v_if_eq C 11 (dk dcX9_step_0 3 rfl) (by decide) (fun c_3 => ?_) (fun c_3 => ?_)
  · replace h := if_t c_3 h
    refine v_iconst C 1 (dk dcX9_step_0 6 rfl) ki_1 ?_
    refine v_istore C (lv' := [(4, .int 1), (0, .ref (aE E 7 0)), (1, .ref (aE E 19 d1)), (2, .int x2), (3, .int x3)]) (dk dcX9_step_0 7 rfl) (by decide) rfl ?_
    refine v_iload_n C 3 (dk dcX9_step_0 8 rfl) rfl rfl ?_
    refine v_bipush C 6 (dk dcX9_step_0 9 rfl) kb_6 ?_
    refine v_icmp_ne C 36 (dk dcX9_step_0 10 rfl) (by decide) (fun c_4 => ?_) (fun c_4 => ?_)
    · replace h := if_f c_4 h
      refine v_aload_n C 1 (dk dcX9_step_0 19 rfl) rfl rfl ?_
      refine v_aload_n C 2 (dk dcX9_step_0 20 rfl) rfl rfl ?_
      refine v_iload_n C 3 (dk dcX9_step_0 21 rfl) rfl rfl ?_
      obtain ⟨g_6, r_7, h_5, h⟩ := bnd_s h
      refine v_callV1 C (mtX9_weigh (L - 1) (by omega) hd1 h_5) wmX9_weigh wd_727 (by omega) (by decide) rfl _ (ce_Walk) rfl rfl (Nat.le_of_ble_eq_true rfl) (dk dcX9_step_0 22 rfl) ?_
      refine v_iload_n C 4 (dk dcX9_step_0 23 rfl) rfl rfl ?_
      refine v_isub C (dk dcX9_step_0 24 rfl) ?_
      obtain ⟨r_9, h_8, h⟩ := bnd1_s h
      refine v_callS1 C (mtX9_doneBy (L - 1) (by omega) h_8) wmX9_doneBy wd_728 (by omega) (by decide) rfl rfl (Nat.le_of_ble_eq_true rfl) (dk dcX9_step_0 25 rfl) ?_
      refine v_istore C (lv' := [(4, .int r_9), (0, .ref (aE E 7 0)), (1, .ref (aE E 19 d1)), (2, .int x2), (3, .int x3)]) (dk dcX9_step_0 26 rfl) (by decide) rfl ?_
      refine v_aload_n C 1 (dk dcX9_step_0 27 rfl) rfl rfl ?_
      refine gt_Walk_road C wd_186 (dk dcX9_step_0 28 rfl) ?_
      refine v_aload_n C 2 (dk dcX9_step_0 29 rfl) rfl rfl ?_
      refine v_bipush C 12 (dk dcX9_step_0 30 rfl) kb_12 ?_
      obtain ⟨r_11, h_10, h⟩ := bnd1_s h
      refine v_callV1 C (mtX1_get (L - 1) (by omega) hd1 h_10) wmX1_get wd_667 (by omega) (by decide) rfl _ (ce_Donkey hd1) rfl rfl (Nat.le_of_ble_eq_true rfl) (dk dcX9_step_0 31 rfl) ?_
      obtain ⟨r_13, h_12, h⟩ := bnd1_s h
      refine v_callV1 C (mtX4_thingOf (L - 1) (by omega) h_12) wmX4_thingOf wd_677 (by omega) (by decide) rfl _ (ce_Road) rfl rfl (Nat.le_of_ble_eq_true rfl) (dk dcX9_step_0 32 rfl) ?_
      refine v_istore C (lv' := [(5, .int r_13), (4, .int r_9), (0, .ref (aE E 7 0)), (1, .ref (aE E 19 d1)), (2, .int x2), (3, .int x3)]) (dk dcX9_step_0 33 rfl) (by decide) rfl ?_
      refine v_aload_n C 2 (dk dcX9_step_0 34 rfl) rfl rfl ?_
      refine v_aload_n C 3 (dk dcX9_step_0 35 rfl) rfl rfl ?_
      refine v_iload_n C 4 (dk dcX9_step_0 36 rfl) rfl rfl ?_
      refine v_iload C 1 (dk dcX9_step_0 37 rfl) rfl ?_
      refine v_iload C 0 (dk dcX9_step_0 38 rfl) rfl ?_
      obtain ⟨g_15, h_14, h⟩ := bnd1_s h
      refine v_callV0 C (mtX9_follow (L - 1) (by omega) hd1 h_14) wmX9_follow wd_751 (by omega) (by decide) rfl _ (ce_Walk) rfl rfl (Nat.le_of_ble_eq_true rfl) (dk dcX9_step_0 39 rfl) ?_
      refine v_aload_n C 3 (dk dcX9_step_0 40 rfl) rfl rfl ?_
      refine v_iload_n C 4 (dk dcX9_step_0 41 rfl) rfl rfl ?_
      refine v_iload C 1 (dk dcX9_step_0 42 rfl) rfl ?_
      refine v_iload C 0 (dk dcX9_step_0 43 rfl) rfl ?_
      obtain ⟨g_17, h_16, h⟩ := bnd1_s h
      refine v_callS0 C (mtX9_answer (L - 1) (by omega) hd1 h_16) wmX9_answer wd_755 (by omega) (by decide) rfl rfl (Nat.le_of_ble_eq_true rfl) (dk dcX9_step_0 44 rfl) ?_
      exact vj_sub [2, 3, 4, 1] rfl (vX9_step_j83 hL C hd1 _ h)
    · replace h := if_t c_4 h
      refine v_aload_n C 2 (dk dcX9_step_0 11 rfl) rfl rfl ?_
      refine v_bipush C 6 (dk dcX9_step_0 12 rfl) kb_6 ?_
      refine v_bipush C 10 (dk dcX9_step_0 13 rfl) kb_10 ?_
      obtain ⟨g_6, h_5, h⟩ := bnd1_s h
      refine v_callV0 C (mtX1_addTo (L - 1) (by omega) hd1 h_5) wmX1_addTo wd_743 (by omega) (by decide) rfl _ (ce_Donkey hd1) rfl rfl (Nat.le_of_ble_eq_true rfl) (dk dcX9_step_0 14 rfl) ?_
      refine v_aload_n C 2 (dk dcX9_step_0 15 rfl) rfl rfl ?_
      refine v_iconst C 1 (dk dcX9_step_0 16 rfl) ki_1 ?_
      obtain ⟨g_8, h_7, h⟩ := bnd1_s h
      refine v_callS0 C (mtX9_leave (L - 1) (by omega) hd1 h_7) wmX9_leave wd_747 (by omega) (by decide) rfl rfl (Nat.le_of_ble_eq_true rfl) (dk dcX9_step_0 17 rfl) ?_
      refine v_goto C 83 (dk dcX9_step_0 18 rfl) (by decide) ?_
      exact vj_sub [1, 2, 3, 0] rfl (vX9_step_j83 hL C hd1 _ h)
  · replace h := if_f c_3 h
    refine v_bipush C (-5) (dk dcX9_step_0 4 rfl) kb_m5 ?_
    cases h
    exact v_iret C rfl (dk dcX9_step_0 5 rfl)
set_option maxRecDepth 20000 in
set_option maxHeartbeats 4000000 in
theorem vX8_waiting_l7c {L : Nat} (hL : 6 ≤ L) (C : CX p s m args meth c cX8_waiting 3 RX8 (some .int) E) {l1 : Nat} (hl1 : l1 < 10) {K7 : (STt × Int32) → Option (STt × Int32)} (hK7 : ∀ {g : STt} {l2 : Int32} (r : STt × Int32), K7 (g, l2) = some r → VJ p l e (rmL (L + 1)) s m args below meth c (QE below E (cellsC E r.1 ++ wx) (some (.int r.2)) args s) E 3 (cellsC E g ++ wx) [(0, .ref (aE E 10 0)), (1, .ref (aE E 19 l1)), (2, .int l2)] [] 7) {g : STt} {l2 : Int32} (r : STt × Int32) (h : fX8_waiting_l7c K7 l1 g l2 = some r) : VJ p l e (rmL (L + 1)) s m args below meth c (QE below E (cellsC E r.1 ++ wx) (some (.int r.2)) args s) E 3 (cellsC E g ++ wx) [(0, .ref (aE E 10 0)), (1, .ref (aE E 19 l1)), (2, .int l2)] [] 7 := by
  unfold fX8_waiting_l7c at h
  refine v_iload_n C 2 (dk dcX8_waiting_0 5 rfl) rfl rfl ?_
  refine v_bipush C 60 (dk dcX8_waiting_0 6 rfl) kb_60 ?_
  refine v_icmp_gt C 45 (dk dcX8_waiting_0 7 rfl) (by decide) (fun c_1 => ?_) (fun c_1 => ?_)
  · replace h := if_t c_1 h
    refine v_bipush C (-5) (dk dcX8_waiting_0 25 rfl) kb_m5 ?_
    cases h
    exact v_iret C rfl (dk dcX8_waiting_0 26 rfl)
  · replace h := if_f c_1 h
    refine v_aload_n C 0 (dk dcX8_waiting_0 8 rfl) rfl rfl ?_
    refine gt_Trial_walk C wd_263 (dk dcX8_waiting_0 9 rfl) ?_
    refine v_aload_n C 1 (dk dcX8_waiting_0 10 rfl) rfl rfl ?_
    refine v_iconst C 0 (dk dcX8_waiting_0 11 rfl) ki_0 ?_
    refine v_iconst C 0 (dk dcX8_waiting_0 12 rfl) ki_0 ?_
    obtain ⟨g_3, r_4, h_2, h⟩ := bnd_s h
    refine v_callV1 C (mtX9_step (L - 1) (by omega) hl1 h_2) wmX9_step wd_799 (by omega) (by decide) rfl _ (ce_Walk) rfl rfl (Nat.le_of_ble_eq_true rfl) (dk dcX8_waiting_0 13 rfl) ?_
    refine v_pop C rfl (dk dcX8_waiting_0 14 rfl) ?_
    refine v_aload_n C 1 (dk dcX8_waiting_0 15 rfl) rfl rfl ?_
    refine v_bipush C 12 (dk dcX8_waiting_0 16 rfl) kb_12 ?_
    obtain ⟨r_6, h_5, h⟩ := bnd1_s h
    refine v_callV1 C (mtX1_get (L - 1) (by omega) hl1 h_5) wmX1_get wd_792 (by omega) (by decide) rfl _ (ce_Donkey hl1) rfl rfl (Nat.le_of_ble_eq_true rfl) (dk dcX8_waiting_0 17 rfl) ?_
    refine v_aload_n C 0 (dk dcX8_waiting_0 18 rfl) rfl rfl ?_
    refine gt_Trial_goal C wd_271 (dk dcX8_waiting_0 19 rfl) ?_
    refine v_icmp_ne C 39 (dk dcX8_waiting_0 20 rfl) (by decide) (fun c_7 => ?_) (fun c_7 => ?_)
    · replace h := if_f c_7 h
      refine v_iinc C (lv' := [(2, .int (l2 + 1)), (0, .ref (aE E 10 0)), (1, .ref (aE E 19 l1))]) (l2 + 1) 2 (dk dcX8_waiting_0 23 rfl) rfl (congrArg (fun z => l2 + z) ki_1) (by decide) rfl ?_
      refine v_goto C 7 (dk dcX8_waiting_0 24 rfl) (by decide) ?_
      exact vj_sub [1, 2, 0] rfl (hK7 _ h)
    · replace h := if_t c_7 h
      refine v_iload_n C 2 (dk dcX8_waiting_0 21 rfl) rfl rfl ?_
      cases h
      exact v_iret C rfl (dk dcX8_waiting_0 22 rfl)
set_option maxRecDepth 20000 in
set_option maxHeartbeats 4000000 in
theorem vX8_waiting_l7 {L : Nat} (hL : 6 ≤ L) (C : CX p s m args meth c cX8_waiting 3 RX8 (some .int) E) {l1 : Nat} (hl1 : l1 < 10) {g : STt} {l2 : Int32} (r : STt × Int32) (h : fX8_waiting_l7 l1 g l2 = some r) : VJ p l e (rmL (L + 1)) s m args below meth c (QE below E (cellsC E r.1 ++ wx) (some (.int r.2)) args s) E 3 (cellsC E g ++ wx) [(0, .ref (aE E 10 0)), (1, .ref (aE E 19 l1)), (2, .int l2)] [] 7 :=
  iterO_ind (F := fun K z => fX8_waiting_l7c K l1 z.1 z.2) (fun z r => VJ p l e (rmL (L + 1)) s m args below meth c (QE below E (cellsC E r.1 ++ wx) (some (.int r.2)) args s) E 3 (cellsC E z.1 ++ wx) [(0, .ref (aE E 10 0)), (1, .ref (aE E 19 l1)), (2, .int z.2)] [] 7) (fun K hK z r h => vX8_waiting_l7c hL C hl1 (fun {g} {l2} r h => hK (g, l2) r h) r h) fuelN (g, l2) r h
set_option maxRecDepth 20000 in
set_option maxHeartbeats 4000000 in
theorem mtX8_waiting {l : Launch} {E : WEt} {wx : va_W} (L : Nat) (hL : 6 ≤ L)  {g : STt} {g' : STt} {rr : Int32} (h : fX8_waiting g = some (g', rr)) : MT l E yX8_waiting cX8_waiting 3 (some .int) (L + 1) [.ref (aE E 10 0)] (cellsC E g ++ wx) (cellsC E g' ++ wx) (some (.int rr)) := by
  refine mt_of (by decide +kernel) (Nat.le_of_ble_eq_true rfl) ?_
  intro p e s m args below meth c C
  replace C : CX p s m args meth c cX8_waiting 3 RX8 (some .int) E := C
  unfold fX8_waiting at h
  refine vj_sub (lv' := [(0, .ref (aE E 10 0))]) [0] rfl ?_
  refine v_aload_n C 0 (dk dcX8_waiting_0 0 rfl) rfl rfl ?_
  obtain ⟨g_2, r_3, h_1, h⟩ := bnd_s h
  refine v_callV1 C (mtX8_begin (L - 1) (by omega) h_1) wmX8_begin wd_777 (by omega) (by decide) rfl _ (ce_Trial) rfl rfl (Nat.le_of_ble_eq_true rfl) (dk dcX8_waiting_0 1 rfl) ?_
  obtain ⟨b_4, h⟩ := gd_t h
  refine v_astore_n C (lv' := [(1, .ref (aE E 19 r_3)), (0, .ref (aE E 10 0))]) (dk dcX8_waiting_0 2 rfl) rfl (by decide) rfl ?_
  refine v_iconst C 1 (dk dcX8_waiting_0 3 rfl) ki_1 ?_
  refine v_istore_n C (lv' := [(2, .int 1), (1, .ref (aE E 19 r_3)), (0, .ref (aE E 10 0))]) (dk dcX8_waiting_0 4 rfl) rfl (by decide) rfl ?_
  exact vj_sub [2, 1, 0] rfl (vX8_waiting_l7 hL C b_4 _ h)
set_option maxRecDepth 20000 in
set_option maxHeartbeats 4000000 in
theorem mtX10_waits {l : Launch} {E : WEt} {wx : va_W} (L : Nat) (hL : 7 ≤ L)  {g : STt} {g' : STt} {rr : Int32} (h : fX10_waits g = some (g', rr)) : MT l E yX10_waits cX10_waits 1 (some .int) (L + 1) [.ref (aE E 0 0)] (cellsC E g ++ wx) (cellsC E g' ++ wx) (some (.int rr)) := by
  refine mt_of (by decide +kernel) (Nat.le_of_ble_eq_true rfl) ?_
  intro p e s m args below meth c C
  replace C : CX p s m args meth c cX10_waits 1 RX10 (some .int) E := C
  unfold fX10_waits at h
  refine vj_sub (lv' := [(0, .ref (aE E 0 0))]) [0] rfl ?_
  refine v_aload_n C 0 (dk dcX10_waits_0 0 rfl) rfl rfl ?_
  obtain ⟨r_2, h_1, h⟩ := bnd1_s h
  refine v_callV1 C (mtX10_isOver (L - 1) (by omega) h_1) wmX10_isOver wd_659 (by omega) (by decide) rfl _ (ce_DB) rfl rfl (Nat.le_of_ble_eq_true rfl) (dk dcX10_waits_0 1 rfl) ?_
  refine v_if_eq C 12 (dk dcX10_waits_0 2 rfl) (by decide) (fun c_3 => ?_) (fun c_3 => ?_)
  · replace h := if_t c_3 h
    refine v_aload_n C 0 (dk dcX10_waits_0 5 rfl) rfl rfl ?_
    refine gt_DB_trial C wd_342 (dk dcX10_waits_0 6 rfl) ?_
    obtain ⟨g_5, r_6, h_4, h⟩ := bnd_s h
    refine v_callV1 C (mtX8_waiting (L - 1) (by omega) h_4) wmX8_waiting wd_862 (by omega) (by decide) rfl _ (ce_Trial) rfl rfl (Nat.le_of_ble_eq_true rfl) (dk dcX10_waits_0 7 rfl) ?_
    cases h
    exact v_iret C rfl (dk dcX10_waits_0 8 rfl)
  · replace h := if_f c_3 h
    refine v_bipush C (-3) (dk dcX10_waits_0 3 rfl) kb_m3 ?_
    refine v_goto C 19 (dk dcX10_waits_0 4 rfl) (by decide) ?_
    cases h
    exact v_iret C rfl (dk dcX10_waits_0 8 rfl)
set_option maxRecDepth 20000 in
set_option maxHeartbeats 4000000 in
theorem vX10_heldLaw_j34 {L : Nat} (hL : 2 ≤ L) (C : CX p s m args meth c cX10_heldLaw 3 RX10 (some (.object "DonkeyBridge$Law")) E) {g : STt} {s0 : Nat} (hs0 : s0 < 7) (r : Nat) (h : fX10_heldLaw_j34 g s0 = some r) : VJ p l e (rmL (L + 1)) s m args below meth c (QE below E (cellsC E g ++ wx) (some (.ref (aE E 21 r))) args s) E 3 (cellsC E g ++ wx) [(0, .ref (aE E 0 0))] [.ref (aE E 21 s0)] 34 := by
  unfold fX10_heldLaw_j34 at h
  refine v_astore_n C (lv' := [(2, .ref (aE E 21 s0)), (0, .ref (aE E 0 0))]) (dk dcX10_heldLaw_0 18 rfl) rfl (by decide) rfl ?_
  refine v_aload_n C 0 (dk dcX10_heldLaw_0 19 rfl) rfl rfl ?_
  refine v_ifnonnull C 46 (dk dcX10_heldLaw_0 20 rfl) (by decide) ?_
  refine v_aload_n C 0 (dk dcX10_heldLaw_0 24 rfl) rfl rfl ?_
  cases h
  exact v_aret C rfl ⟨_, rfl⟩ (Or.inr ⟨_, rfl⟩) (dk dcX10_heldLaw_0 25 rfl)
set_option maxRecDepth 20000 in
set_option maxHeartbeats 4000000 in
theorem vX10_heldLaw_j30 {L : Nat} (hL : 2 ≤ L) (C : CX p s m args meth c cX10_heldLaw 3 RX10 (some (.object "DonkeyBridge$Law")) E) {g : STt} (r : Nat) (h : fX10_heldLaw_j30 g = some r) : VJ p l e (rmL (L + 1)) s m args below meth c (QE below E (cellsC E g ++ wx) (some (.ref (aE E 21 r))) args s) E 3 (cellsC E g ++ wx) [(0, .ref (aE E 0 0))] [] 30 := by
  unfold fX10_heldLaw_j30 at h
  refine v_aload_n C 0 (dk dcX10_heldLaw_0 16 rfl) rfl rfl ?_
  refine gt_DB_noLaw C wd_339 (dk dcX10_heldLaw_0 17 rfl) ?_
  exact vj_sub [0] rfl (vX10_heldLaw_j34 hL C (by decide) _ h)
set_option maxRecDepth 20000 in
set_option maxHeartbeats 4000000 in
theorem mtX10_heldLaw {l : Launch} {E : WEt} {wx : va_W} (L : Nat) (hL : 2 ≤ L)  {g : STt} {rr : Nat} (h : fX10_heldLaw g = some rr) : MT l E yX10_heldLaw cX10_heldLaw 3 (some (.object "DonkeyBridge$Law")) (L + 1) [.ref (aE E 0 0)] (cellsC E g ++ wx) (cellsC E g ++ wx) (some (.ref (aE E 21 rr))) := by
  refine mt_of (by decide +kernel) (Nat.le_of_ble_eq_true rfl) ?_
  intro p e s m args below meth c C
  replace C : CX p s m args meth c cX10_heldLaw 3 RX10 (some (.object "DonkeyBridge$Law")) E := C
  unfold fX10_heldLaw at h
  refine vj_sub (lv' := [(0, .ref (aE E 0 0))]) [0] rfl ?_
  refine v_aload_n C 0 (dk dcX10_heldLaw_0 0 rfl) rfl rfl ?_
  refine gt_DB_present C wd_345 (dk dcX10_heldLaw_0 1 rfl) ?_
  refine gt_Moment_held C (by decide) wd_240 (dk dcX10_heldLaw_0 2 rfl) ?_
  refine v_istore_n C (lv' := [(1, .int (g.1 19 0)), (0, .ref (aE E 0 0))]) (dk dcX10_heldLaw_0 3 rfl) rfl (by decide) rfl ?_
  refine v_iload_n C 0 (dk dcX10_heldLaw_0 4 rfl) rfl rfl ?_
  refine v_if_lt C 30 (dk dcX10_heldLaw_0 5 rfl) (by decide) (fun c_1 => ?_) (fun c_1 => ?_)
  · replace h := if_t c_1 h
    exact vj_sub [1] rfl (vX10_heldLaw_j30 hL C _ h)
  · replace h := if_f c_1 h
    refine v_iload_n C 0 (dk dcX10_heldLaw_0 6 rfl) rfl rfl ?_
    refine v_aload_n C 1 (dk dcX10_heldLaw_0 7 rfl) rfl rfl ?_
    refine gt_DB_laws C wd_338 (dk dcX10_heldLaw_0 8 rfl) ?_
    refine al_lawsArr C (dk dcX10_heldLaw_0 9 rfl) ?_
    refine v_icmp_ge C 30 (dk dcX10_heldLaw_0 10 rfl) (by decide) (fun c_2 => ?_) (fun c_2 => ?_)
    · replace h := if_t c_2 h
      exact vj_sub [1] rfl (vX10_heldLaw_j30 hL C _ h)
    · replace h := if_f c_2 h
      refine v_aload_n C 1 (dk dcX10_heldLaw_0 11 rfl) rfl rfl ?_
      refine gt_DB_laws C wd_338 (dk dcX10_heldLaw_0 12 rfl) ?_
      refine v_iload_n C 0 (dk dcX10_heldLaw_0 13 rfl) rfl rfl ?_
      obtain ⟨b_3, h⟩ := gd_t h
      refine ld_lawsArr C b_3 (dk dcX10_heldLaw_0 14 rfl) ?_
      refine v_goto C 34 (dk dcX10_heldLaw_0 15 rfl) (by decide) ?_
      exact vj_sub [1] rfl (vX10_heldLaw_j34 hL C (Nat.lt_of_lt_of_le (inB_lt b_3) (by decide)) _ h)
end MS
