section MS
variable {p : Program} {l : Launch} {e : Env} {s : State} {m : MethodId} {args : Array Value} {below : List Frame} {meth : Method} {c : Code} {E : WEt} {wx : va_W}
set_option maxRecDepth 20000 in
set_option maxHeartbeats 4000000 in
theorem mtX11_plainTells {l : Launch} {E : WEt} {wx : va_W} (L : Nat) (hL : 8 ≤ L)  {g : STt} {x1 : Int32} {x2 : Int32} {g' : STt} {rr : Int32} (h : fX11_plainTells g x1 x2 = some (g', rr)) : MT l E yX11_plainTells cX11_plainTells 3 (some .int) (L + 1) [.ref (aE E 28 0), .int x1, .int x2] (cellsM E g ++ wx) (cellsM E g' ++ wx) (some (.int rr)) := by
  refine mt_of (by decide +kernel) (Nat.le_of_ble_eq_true rfl) ?_
  intro p e s m args below meth c C
  replace C : CX p s m args meth c cX11_plainTells 3 RX11 (some .int) E := C
  unfold fX11_plainTells at h
  refine vj_sub (lv' := [(0, .ref (aE E 28 0)), (1, .int x1), (2, .int x2)]) [0, 1, 2] rfl ?_
  refine v_aload_n C 0 (dk dcX11_plainTells_0 0 rfl) rfl rfl ?_
  refine v_bipush C 12 (dk dcX11_plainTells_0 1 rfl) kb_12 ?_
  obtain ⟨g_2, h_1, h⟩ := bnd1_s h
  refine v_callV0 C (mtX11_ran (L - 1) (by omega) h_1) wmX11_ran wd_1545 (by omega) (by decide) rfl _ (ce_Mo) rfl rfl (Nat.le_of_ble_eq_true rfl) (dk dcX11_plainTells_0 2 rfl) ?_
  refine v_aload_n C 0 (dk dcX11_plainTells_0 3 rfl) rfl rfl ?_
  refine v_iload_n C 1 (dk dcX11_plainTells_0 4 rfl) rfl rfl ?_
  refine v_iload_n C 2 (dk dcX11_plainTells_0 5 rfl) rfl rfl ?_
  obtain ⟨g_4, r_5, h_3, h⟩ := bnd_s h
  refine v_callV1 C (mtX11_chooses (L - 1) (by omega) h_3) wmX11_chooses wd_1553 (by omega) (by decide) rfl _ (ce_Mo) rfl rfl (Nat.le_of_ble_eq_true rfl) (dk dcX11_plainTells_0 6 rfl) ?_
  refine v_iconst C 2 (dk dcX11_plainTells_0 7 rfl) ki_2 ?_
  refine v_imul C (dk dcX11_plainTells_0 8 rfl) ?_
  cases h
  exact v_iret C rfl (dk dcX11_plainTells_0 9 rfl)
set_option maxRecDepth 20000 in
set_option maxHeartbeats 4000000 in
theorem mtX11_spoiltTells {l : Launch} {E : WEt} {wx : va_W} (L : Nat) (hL : 9 ≤ L)  {g : STt} {x1 : Int32} {x2 : Int32} {g' : STt} {rr : Int32} (h : fX11_spoiltTells g x1 x2 = some (g', rr)) : MT l E yX11_spoiltTells cX11_spoiltTells 4 (some .int) (L + 1) [.ref (aE E 28 0), .int x1, .int x2] (cellsM E g ++ wx) (cellsM E g' ++ wx) (some (.int rr)) := by
  refine mt_of (by decide +kernel) (Nat.le_of_ble_eq_true rfl) ?_
  intro p e s m args below meth c C
  replace C : CX p s m args meth c cX11_spoiltTells 4 RX11 (some .int) E := C
  unfold fX11_spoiltTells at h
  refine vj_sub (lv' := [(0, .ref (aE E 28 0)), (1, .int x1), (2, .int x2)]) [0, 1, 2] rfl ?_
  refine v_aload_n C 0 (dk dcX11_spoiltTells_0 0 rfl) rfl rfl ?_
  refine v_bipush C 40 (dk dcX11_spoiltTells_0 1 rfl) kb_40 ?_
  obtain ⟨g_2, h_1, h⟩ := bnd1_s h
  refine v_callV0 C (mtX11_ran (L - 1) (by omega) h_1) wmX11_ran wd_1545 (by omega) (by decide) rfl _ (ce_Mo) rfl rfl (Nat.le_of_ble_eq_true rfl) (dk dcX11_spoiltTells_0 2 rfl) ?_
  refine v_aload_n C 0 (dk dcX11_spoiltTells_0 3 rfl) rfl rfl ?_
  refine v_iload_n C 1 (dk dcX11_spoiltTells_0 4 rfl) rfl rfl ?_
  refine v_iload_n C 2 (dk dcX11_spoiltTells_0 5 rfl) rfl rfl ?_
  obtain ⟨g_4, r_5, h_3, h⟩ := bnd_s h
  refine v_callV1 C (mtX11_plainTells (L - 1) (by omega) h_3) wmX11_plainTells wd_1573 (by omega) (by decide) rfl _ (ce_Mo) rfl rfl (Nat.le_of_ble_eq_true rfl) (dk dcX11_spoiltTells_0 6 rfl) ?_
  refine v_istore_n C (lv' := [(3, .int r_5), (0, .ref (aE E 28 0)), (1, .int x1), (2, .int x2)]) (dk dcX11_spoiltTells_0 7 rfl) rfl (by decide) rfl ?_
  refine v_iload_n C 0 (dk dcX11_spoiltTells_0 8 rfl) rfl rfl ?_
  refine v_aload_n C 1 (dk dcX11_spoiltTells_0 9 rfl) rfl rfl ?_
  refine v_iload_n C 2 (dk dcX11_spoiltTells_0 10 rfl) rfl rfl ?_
  refine v_iconst C 1 (dk dcX11_spoiltTells_0 11 rfl) ki_1 ?_
  obtain ⟨g_7, r_8, h_6, h⟩ := bnd_s h
  refine v_callV1 C (mtX11_chooses (L - 1) (by omega) h_6) wmX11_chooses wd_1553 (by omega) (by decide) rfl _ (ce_Mo) rfl rfl (Nat.le_of_ble_eq_true rfl) (dk dcX11_spoiltTells_0 12 rfl) ?_
  refine v_iadd C (dk dcX11_spoiltTells_0 13 rfl) ?_
  cases h
  exact v_iret C rfl (dk dcX11_spoiltTells_0 14 rfl)
set_option maxRecDepth 20000 in
set_option maxHeartbeats 4000000 in
theorem vX11_telling_j65 {L : Nat} (hL : 10 ≤ L) (C : CX p s m args meth c cX11_telling 3 RX11 (some .int) E) {g : STt} {l1 : Int32} {l2 : Int32} (r : STt × Int32) (h : fX11_telling_j65 g l1 l2 = some r) : VJ p l e (rmL (L + 1)) s m args below meth c (QE below E (cellsM E r.1 ++ wx) (some (.int r.2)) args s) E 3 (cellsM E g ++ wx) [(0, .ref (aE E 28 0)), (1, .int l1), (2, .int l2)] [] 65 := by
  unfold fX11_telling_j65 at h
  refine v_aload_n C 0 (dk dcX11_telling_0 25 rfl) rfl rfl ?_
  refine v_iload_n C 1 (dk dcX11_telling_0 26 rfl) rfl rfl ?_
  refine v_iload_n C 2 (dk dcX11_telling_0 27 rfl) rfl rfl ?_
  obtain ⟨g_2, r_3, h_1, h⟩ := bnd_s h
  refine v_callV1 C (mtX11_plainTells (L - 1) (by omega) h_1) wmX11_plainTells wd_1573 (by omega) (by decide) rfl _ (ce_Mo) rfl rfl (Nat.le_of_ble_eq_true rfl) (dk dcX11_telling_0 28 rfl) ?_
  cases h
  exact v_iret C rfl (dk dcX11_telling_0 29 rfl)
set_option maxRecDepth 20000 in
set_option maxHeartbeats 4000000 in
theorem mtX11_telling {l : Launch} {E : WEt} {wx : va_W} (L : Nat) (hL : 10 ≤ L)  {g : STt} {x1 : Int32} {x2 : Int32} {g' : STt} {rr : Int32} (h : fX11_telling g x1 x2 = some (g', rr)) : MT l E yX11_telling cX11_telling 3 (some .int) (L + 1) [.ref (aE E 28 0), .int x1, .int x2] (cellsM E g ++ wx) (cellsM E g' ++ wx) (some (.int rr)) := by
  refine mt_of (by decide +kernel) (Nat.le_of_ble_eq_true rfl) ?_
  intro p e s m args below meth c C
  replace C : CX p s m args meth c cX11_telling 3 RX11 (some .int) E := C
  unfold fX11_telling at h
  refine vj_sub (lv' := [(0, .ref (aE E 28 0)), (1, .int x1), (2, .int x2)]) [0, 1, 2] rfl ?_
  refine v_aload_n C 0 (dk dcX11_telling_0 0 rfl) rfl rfl ?_
  refine gt_Mo_kind C wd_1109 (dk dcX11_telling_0 1 rfl) ?_
  refine v_iload_n C 1 (dk dcX11_telling_0 2 rfl) rfl rfl ?_
  obtain ⟨b_1, h⟩ := gd_t h
  refine ld_m_kind C b_1 (dk dcX11_telling_0 3 rfl) ?_
  by_cases c_2 : (g.2.1 54 0 x1.toNatClampNeg) = 3
  · replace h := if_t c_2 h
    refine v_tableIn C 51 (dk dcX11_telling_0 4 rfl) (by rw [c_2]; decide) (by rw [c_2]; decide) (by rw [c_2]; rfl) (by decide) ?_
    refine v_aload_n C 0 (dk dcX11_telling_0 15 rfl) rfl rfl ?_
    refine v_iload_n C 1 (dk dcX11_telling_0 16 rfl) rfl rfl ?_
    refine v_iload_n C 2 (dk dcX11_telling_0 17 rfl) rfl rfl ?_
    obtain ⟨g_4, r_5, h_3, h⟩ := bnd_s h
    refine v_callV1 C (mtX11_spoiltTells (L - 1) (by omega) h_3) wmX11_spoiltTells wd_1577 (by omega) (by decide) rfl _ (ce_Mo) rfl rfl (Nat.le_of_ble_eq_true rfl) (dk dcX11_telling_0 18 rfl) ?_
    cases h
    exact v_iret C rfl (dk dcX11_telling_0 19 rfl)
  · replace h := if_f c_2 h
    by_cases c_3 : (g.2.1 54 0 x1.toNatClampNeg) = 4
    · replace h := if_t c_3 h
      refine v_tableIn C 65 (dk dcX11_telling_0 4 rfl) (by rw [c_3]; decide) (by rw [c_3]; decide) (by rw [c_3]; rfl) (by decide) ?_
      exact vj_sub [0, 1, 2] rfl (vX11_telling_j65 hL C _ h)
    · replace h := if_f c_3 h
      by_cases c_4 : (g.2.1 54 0 x1.toNatClampNeg) = 5
      · replace h := if_t c_4 h
        refine v_tableIn C 36 (dk dcX11_telling_0 4 rfl) (by rw [c_4]; decide) (by rw [c_4]; decide) (by rw [c_4]; rfl) (by decide) ?_
        refine v_aload_n C 0 (dk dcX11_telling_0 5 rfl) rfl rfl ?_
        refine v_bipush C 60 (dk dcX11_telling_0 6 rfl) kb_60 ?_
        obtain ⟨g_6, h_5, h⟩ := bnd1_s h
        refine v_callV0 C (mtX11_ran (L - 1) (by omega) h_5) wmX11_ran wd_1545 (by omega) (by decide) rfl _ (ce_Mo) rfl rfl (Nat.le_of_ble_eq_true rfl) (dk dcX11_telling_0 7 rfl) ?_
        refine v_aload_n C 0 (dk dcX11_telling_0 8 rfl) rfl rfl ?_
        refine v_iload_n C 1 (dk dcX11_telling_0 9 rfl) rfl rfl ?_
        refine v_iload_n C 2 (dk dcX11_telling_0 10 rfl) rfl rfl ?_
        refine v_iload_n C 1 (dk dcX11_telling_0 11 rfl) rfl rfl ?_
        refine v_isub C (dk dcX11_telling_0 12 rfl) ?_
        obtain ⟨g_8, r_9, h_7, h⟩ := bnd_s h
        refine v_callV1 C (mtX11_plainTells (L - 1) (by omega) h_7) wmX11_plainTells wd_1573 (by omega) (by decide) rfl _ (ce_Mo) rfl rfl (Nat.le_of_ble_eq_true rfl) (dk dcX11_telling_0 13 rfl) ?_
        cases h
        exact v_iret C rfl (dk dcX11_telling_0 14 rfl)
      · replace h := if_f c_4 h
        by_cases c_5 : (g.2.1 54 0 x1.toNatClampNeg) = 6
        · replace h := if_t c_5 h
          refine v_tableIn C 58 (dk dcX11_telling_0 4 rfl) (by rw [c_5]; decide) (by rw [c_5]; decide) (by rw [c_5]; rfl) (by decide) ?_
          refine v_aload_n C 0 (dk dcX11_telling_0 20 rfl) rfl rfl ?_
          refine v_iload_n C 1 (dk dcX11_telling_0 21 rfl) rfl rfl ?_
          refine v_iload_n C 2 (dk dcX11_telling_0 22 rfl) rfl rfl ?_
          obtain ⟨g_7, r_8, h_6, h⟩ := bnd_s h
          refine v_callV1 C (mtX11_spoiltTells (L - 1) (by omega) h_6) wmX11_spoiltTells wd_1577 (by omega) (by decide) rfl _ (ce_Mo) rfl rfl (Nat.le_of_ble_eq_true rfl) (dk dcX11_telling_0 23 rfl) ?_
          cases h
          exact v_iret C rfl (dk dcX11_telling_0 24 rfl)
        · replace h := if_f c_5 h
          have ec_2 := i32_ne (k := 3) c_2 (by decide)
          have ec_3 := i32_ne (k := 4) c_3 (by decide)
          have ec_4 := i32_ne (k := 5) c_4 (by decide)
          have ec_5 := i32_ne (k := 6) c_5 (by decide)
          refine v_tableOut C 65 (dk dcX11_telling_0 4 rfl) (by omega) (by decide) ?_
          exact vj_sub [0, 1, 2] rfl (vX11_telling_j65 hL C _ h)
set_option maxRecDepth 20000 in
set_option maxHeartbeats 4000000 in
theorem mtX11_part {l : Launch} {E : WEt} {wx : va_W} (L : Nat) (hL : 11 ≤ L)  {g : STt} {x1 : Int32} {x2 : Int32} {x3 : Int32} {g' : STt} {rr : Int32} (h : fX11_part g x1 x2 x3 = some (g', rr)) : MT l E yX11_part cX11_part 4 (some .int) (L + 1) [.ref (aE E 28 0), .int x1, .int x2, .int x3] (cellsM E g ++ wx) (cellsM E g' ++ wx) (some (.int rr)) := by
  refine mt_of (by decide +kernel) (Nat.le_of_ble_eq_true rfl) ?_
  intro p e s m args below meth c C
  replace C : CX p s m args meth c cX11_part 4 RX11 (some .int) E := C
  unfold fX11_part at h
  refine vj_sub (lv' := [(0, .ref (aE E 28 0)), (1, .int x1), (2, .int x2), (3, .int x3)]) [0, 1, 2, 3] rfl ?_
  refine v_aload_n C 0 (dk dcX11_part_0 0 rfl) rfl rfl ?_
  refine v_iconst C 0 (dk dcX11_part_0 1 rfl) ki_0 ?_
  refine pt_Mo_traces C wd_1156 (dk dcX11_part_0 2 rfl) ?_
  refine v_aload_n C 0 (dk dcX11_part_0 3 rfl) rfl rfl ?_
  refine v_iload_n C 1 (dk dcX11_part_0 4 rfl) rfl rfl ?_
  obtain ⟨r_2, h_1, h⟩ := bnd1_s h
  refine v_callV1 C (mtX11_isPlace (L - 1) (by omega) h_1) wmX11_isPlace wd_1273 (by omega) (by decide) rfl _ (ce_Mo) rfl rfl (Nat.le_of_ble_eq_true rfl) (dk dcX11_part_0 5 rfl) ?_
  refine v_if_eq C 22 (dk dcX11_part_0 6 rfl) (by decide) (fun c_3 => ?_) (fun c_3 => ?_)
  · replace h := if_t c_3 h
    refine v_iconst C 0 (dk dcX11_part_0 12 rfl) ki_0 ?_
    cases h
    exact v_iret C rfl (dk dcX11_part_0 13 rfl)
  · replace h := if_f c_3 h
    refine v_iload_n C 2 (dk dcX11_part_0 7 rfl) rfl rfl ?_
    refine v_iconst C 0 (dk dcX11_part_0 8 rfl) ki_0 ?_
    refine v_iconst C 2 (dk dcX11_part_0 9 rfl) ki_2 ?_
    obtain ⟨r_5, h_4, h⟩ := bnd1_s h
    refine v_callS1 C (mtX11_in (L - 1) (by omega) h_4) wmX11_in wd_1266 (by omega) (by decide) rfl rfl (Nat.le_of_ble_eq_true rfl) (dk dcX11_part_0 10 rfl) ?_
    refine v_if_ne C 24 (dk dcX11_part_0 11 rfl) (by decide) (fun c_6 => ?_) (fun c_6 => ?_)
    · replace h := if_f c_6 h
      refine v_iload_n C 2 (dk dcX11_part_0 14 rfl) rfl rfl ?_
      refine v_if_ne C 37 (dk dcX11_part_0 15 rfl) (by decide) (fun c_7 => ?_) (fun c_7 => ?_)
      · replace h := if_f c_7 h
        refine v_iload_n C 2 (dk dcX11_part_0 21 rfl) rfl rfl ?_
        refine v_iconst C 1 (dk dcX11_part_0 22 rfl) ki_1 ?_
        refine v_icmp_ne C 51 (dk dcX11_part_0 23 rfl) (by decide) (fun c_8 => ?_) (fun c_8 => ?_)
        · replace h := if_f c_8 h
          refine v_aload_n C 0 (dk dcX11_part_0 29 rfl) rfl rfl ?_
          refine v_iload_n C 1 (dk dcX11_part_0 30 rfl) rfl rfl ?_
          refine v_iload_n C 3 (dk dcX11_part_0 31 rfl) rfl rfl ?_
          obtain ⟨g_10, r_11, h_9, h⟩ := bnd_s h
          refine v_callV1 C (mtX11_telling (L - 1) (by omega) h_9) wmX11_telling wd_1569 (by omega) (by decide) rfl _ (ce_Mo) rfl rfl (Nat.le_of_ble_eq_true rfl) (dk dcX11_part_0 32 rfl) ?_
          cases h
          exact v_iret C rfl (dk dcX11_part_0 33 rfl)
        · replace h := if_t c_8 h
          refine v_aload_n C 0 (dk dcX11_part_0 24 rfl) rfl rfl ?_
          refine v_iload_n C 1 (dk dcX11_part_0 25 rfl) rfl rfl ?_
          refine v_iload_n C 3 (dk dcX11_part_0 26 rfl) rfl rfl ?_
          obtain ⟨g_10, r_11, h_9, h⟩ := bnd_s h
          refine v_callV1 C (mtX11_chooses (L - 1) (by omega) h_9) wmX11_chooses wd_1553 (by omega) (by decide) rfl _ (ce_Mo) rfl rfl (Nat.le_of_ble_eq_true rfl) (dk dcX11_part_0 27 rfl) ?_
          refine v_goto C 57 (dk dcX11_part_0 28 rfl) (by decide) ?_
          cases h
          exact v_iret C rfl (dk dcX11_part_0 33 rfl)
      · replace h := if_t c_7 h
        refine v_aload_n C 0 (dk dcX11_part_0 16 rfl) rfl rfl ?_
        refine v_iload_n C 1 (dk dcX11_part_0 17 rfl) rfl rfl ?_
        refine v_iload_n C 3 (dk dcX11_part_0 18 rfl) rfl rfl ?_
        obtain ⟨g_9, r_10, h_8, h⟩ := bnd_s h
        refine v_callV1 C (mtX11_holding (L - 1) (by omega) h_8) wmX11_holding wd_1541 (by omega) (by decide) rfl _ (ce_Mo) rfl rfl (Nat.le_of_ble_eq_true rfl) (dk dcX11_part_0 19 rfl) ?_
        refine v_goto C 57 (dk dcX11_part_0 20 rfl) (by decide) ?_
        cases h
        exact v_iret C rfl (dk dcX11_part_0 33 rfl)
    · replace h := if_t c_6 h
      refine v_iconst C 0 (dk dcX11_part_0 12 rfl) ki_0 ?_
      cases h
      exact v_iret C rfl (dk dcX11_part_0 13 rfl)
set_option maxRecDepth 20000 in
set_option maxHeartbeats 4000000 in
theorem vX11_off_j56 {L : Nat} (hL : 10 ≤ L) (C : CX p s m args meth c cX11_off 3 RX11 (some .int) E) {g : STt} {l1 : Int32} (r : STt × Int32) (h : fX11_off_j56 g l1 = some r) : VJ p l e (rmL (L + 1)) s m args below meth c (QE below E (cellsM E r.1 ++ wx) (some (.int r.2)) args s) E 3 (cellsM E g ++ wx) [(0, .ref (aE E 28 0)), (1, .int l1)] [] 56 := by
  unfold fX11_off_j56 at h
  refine v_aload_n C 0 (dk dcX11_off_0 31 rfl) rfl rfl ?_
  obtain ⟨g_2, h_1, h⟩ := bnd1_s h
  refine v_callV0 C (mtX11_layBack (L - 1) (by omega) h_1) wmX11_layBack wd_1447 (by omega) (by decide) rfl _ (ce_Mo) rfl rfl (Nat.le_of_ble_eq_true rfl) (dk dcX11_off_0 32 rfl) ?_
  refine v_iload_n C 1 (dk dcX11_off_0 33 rfl) rfl rfl ?_
  cases h
  exact v_iret C rfl (dk dcX11_off_0 34 rfl)
set_option maxRecDepth 20000 in
set_option maxHeartbeats 4000000 in
theorem vX11_off_j50 {L : Nat} (hL : 10 ≤ L) (C : CX p s m args meth c cX11_off 3 RX11 (some .int) E) {g : STt} {l1 : Int32} {l2 : Int32} {K9 : (STt × Int32 × Int32) → Option (STt × Int32)} (hK9 : ∀ {g : STt} {l1 : Int32} {l2 : Int32} (r : STt × Int32), K9 (g, l1, l2) = some r → VJ p l e (rmL (L + 1)) s m args below meth c (QE below E (cellsM E r.1 ++ wx) (some (.int r.2)) args s) E 3 (cellsM E g ++ wx) [(0, .ref (aE E 28 0)), (1, .int l1), (2, .int l2)] [] 9) (r : STt × Int32) (h : fX11_off_j50 K9 g l1 l2 = some r) : VJ p l e (rmL (L + 1)) s m args below meth c (QE below E (cellsM E r.1 ++ wx) (some (.int r.2)) args s) E 3 (cellsM E g ++ wx) [(0, .ref (aE E 28 0)), (1, .int l1), (2, .int l2)] [] 50 := by
  unfold fX11_off_j50 at h
  refine v_iinc C (lv' := [(2, .int (l2 + 1)), (0, .ref (aE E 28 0)), (1, .int l1)]) (l2 + 1) 2 (dk dcX11_off_0 29 rfl) rfl (congrArg (fun z => l2 + z) ki_1) (by decide) rfl ?_
  refine v_goto C 9 (dk dcX11_off_0 30 rfl) (by decide) ?_
  exact vj_sub [1, 2, 0] rfl (hK9 _ h)
set_option maxRecDepth 20000 in
set_option maxHeartbeats 4000000 in
theorem vX11_off_l9c {L : Nat} (hL : 10 ≤ L) (C : CX p s m args meth c cX11_off 3 RX11 (some .int) E) {K9 : (STt × Int32 × Int32) → Option (STt × Int32)} (hK9 : ∀ {g : STt} {l1 : Int32} {l2 : Int32} (r : STt × Int32), K9 (g, l1, l2) = some r → VJ p l e (rmL (L + 1)) s m args below meth c (QE below E (cellsM E r.1 ++ wx) (some (.int r.2)) args s) E 3 (cellsM E g ++ wx) [(0, .ref (aE E 28 0)), (1, .int l1), (2, .int l2)] [] 9) {g : STt} {l1 : Int32} {l2 : Int32} (r : STt × Int32) (h : fX11_off_l9c K9 g l1 l2 = some r) : VJ p l e (rmL (L + 1)) s m args below meth c (QE below E (cellsM E r.1 ++ wx) (some (.int r.2)) args s) E 3 (cellsM E g ++ wx) [(0, .ref (aE E 28 0)), (1, .int l1), (2, .int l2)] [] 9 := by
  unfold fX11_off_l9c at h
  refine v_iload_n C 2 (dk dcX11_off_0 6 rfl) rfl rfl ?_
  refine v_aload_n C 0 (dk dcX11_off_0 7 rfl) rfl rfl ?_
  refine gt_Mo_rowMany C wd_1133 (dk dcX11_off_0 8 rfl) ?_
  refine v_icmp_ge C 56 (dk dcX11_off_0 9 rfl) (by decide) (fun c_1 => ?_) (fun c_1 => ?_)
  · replace h := if_t c_1 h
    exact vj_sub [0, 1] rfl (vX11_off_j56 hL C _ h)
  · replace h := if_f c_1 h
    refine v_iload_n C 2 (dk dcX11_off_0 10 rfl) rfl rfl ?_
    refine v_aload_n C 0 (dk dcX11_off_0 11 rfl) rfl rfl ?_
    refine gt_Mo_filmed C wd_1140 (dk dcX11_off_0 12 rfl) ?_
    refine v_icmp_ge C 56 (dk dcX11_off_0 13 rfl) (by decide) (fun c_2 => ?_) (fun c_2 => ?_)
    · replace h := if_t c_2 h
      exact vj_sub [0, 1] rfl (vX11_off_j56 hL C _ h)
    · replace h := if_f c_2 h
      refine v_iload_n C 1 (dk dcX11_off_0 14 rfl) rfl rfl ?_
      refine v_if_ge C 56 (dk dcX11_off_0 15 rfl) (by decide) (fun c_3 => ?_) (fun c_3 => ?_)
      · replace h := if_t c_3 h
        exact vj_sub [0, 1] rfl (vX11_off_j56 hL C _ h)
      · replace h := if_f c_3 h
        refine v_aload_n C 0 (dk dcX11_off_0 16 rfl) rfl rfl ?_
        refine v_aload_n C 0 (dk dcX11_off_0 17 rfl) rfl rfl ?_
        refine gt_Mo_row C wd_1134 (dk dcX11_off_0 18 rfl) ?_
        refine v_iload_n C 2 (dk dcX11_off_0 19 rfl) rfl rfl ?_
        obtain ⟨b_4, h⟩ := gd_t h
        refine ld_m_row C b_4 (dk dcX11_off_0 20 rfl) ?_
        obtain ⟨g_6, r_7, h_5, h⟩ := bnd_s h
        refine v_callV1 C (mtX11_does (L - 1) (by omega) h_5) wmX11_does wd_1423 (by omega) (by decide) rfl _ (ce_Mo) rfl rfl (Nat.le_of_ble_eq_true rfl) (dk dcX11_off_0 21 rfl) ?_
        refine v_aload_n C 0 (dk dcX11_off_0 22 rfl) rfl rfl ?_
        refine gt_Mo_film C wd_1141 (dk dcX11_off_0 23 rfl) ?_
        refine v_iload_n C 2 (dk dcX11_off_0 24 rfl) rfl rfl ?_
        obtain ⟨b_8, h⟩ := gd_t h
        refine ld_m_film C b_8 (dk dcX11_off_0 25 rfl) ?_
        refine v_icmp_eq C 50 (dk dcX11_off_0 26 rfl) (by decide) (fun c_9 => ?_) (fun c_9 => ?_)
        · replace h := if_t c_9 h
          exact vj_sub [0, 1, 2] rfl (vX11_off_j50 hL C hK9 _ h)
        · replace h := if_f c_9 h
          refine v_iload_n C 2 (dk dcX11_off_0 27 rfl) rfl rfl ?_
          refine v_istore_n C (lv' := [(1, .int l2), (0, .ref (aE E 28 0)), (2, .int l2)]) (dk dcX11_off_0 28 rfl) rfl (by decide) rfl ?_
          exact vj_sub [1, 0, 2] rfl (vX11_off_j50 hL C hK9 _ h)
set_option maxRecDepth 20000 in
set_option maxHeartbeats 4000000 in
theorem vX11_off_l9 {L : Nat} (hL : 10 ≤ L) (C : CX p s m args meth c cX11_off 3 RX11 (some .int) E) {g : STt} {l1 : Int32} {l2 : Int32} (r : STt × Int32) (h : fX11_off_l9 g l1 l2 = some r) : VJ p l e (rmL (L + 1)) s m args below meth c (QE below E (cellsM E r.1 ++ wx) (some (.int r.2)) args s) E 3 (cellsM E g ++ wx) [(0, .ref (aE E 28 0)), (1, .int l1), (2, .int l2)] [] 9 :=
  iterO_ind (F := fun K z => fX11_off_l9c K z.1 z.2.1 z.2.2) (fun z r => VJ p l e (rmL (L + 1)) s m args below meth c (QE below E (cellsM E r.1 ++ wx) (some (.int r.2)) args s) E 3 (cellsM E z.1 ++ wx) [(0, .ref (aE E 28 0)), (1, .int z.2.1), (2, .int z.2.2)] [] 9) (fun K hK z r h => vX11_off_l9c hL C (fun {g} {l1} {l2} r h => hK (g, l1, l2) r h) r h) fuelN (g, l1, l2) r h
set_option maxRecDepth 20000 in
set_option maxHeartbeats 4000000 in
theorem mtX11_off {l : Launch} {E : WEt} {wx : va_W} (L : Nat) (hL : 10 ≤ L)  {g : STt} {g' : STt} {rr : Int32} (h : fX11_off g = some (g', rr)) : MT l E yX11_off cX11_off 3 (some .int) (L + 1) [.ref (aE E 28 0)] (cellsM E g ++ wx) (cellsM E g' ++ wx) (some (.int rr)) := by
  refine mt_of (by decide +kernel) (Nat.le_of_ble_eq_true rfl) ?_
  intro p e s m args below meth c C
  replace C : CX p s m args meth c cX11_off 3 RX11 (some .int) E := C
  unfold fX11_off at h
  refine vj_sub (lv' := [(0, .ref (aE E 28 0))]) [0] rfl ?_
  refine v_aload_n C 0 (dk dcX11_off_0 0 rfl) rfl rfl ?_
  obtain ⟨g_2, h_1, h⟩ := bnd1_s h
  refine v_callV0 C (mtX11_keepNow (L - 1) (by omega) h_1) wmX11_keepNow wd_1443 (by omega) (by decide) rfl _ (ce_Mo) rfl rfl (Nat.le_of_ble_eq_true rfl) (dk dcX11_off_0 1 rfl) ?_
  refine v_bipush C (-5) (dk dcX11_off_0 2 rfl) kb_m5 ?_
  refine v_istore_n C (lv' := [(1, .int (-5)), (0, .ref (aE E 28 0))]) (dk dcX11_off_0 3 rfl) rfl (by decide) rfl ?_
  refine v_iconst C 0 (dk dcX11_off_0 4 rfl) ki_0 ?_
  refine v_istore_n C (lv' := [(2, .int 0), (1, .int (-5)), (0, .ref (aE E 28 0))]) (dk dcX11_off_0 5 rfl) rfl (by decide) rfl ?_
  exact vj_sub [2, 1, 0] rfl (vX11_off_l9 hL C _ h)
set_option maxRecDepth 20000 in
set_option maxHeartbeats 4000000 in
theorem mtX11_of {l : Launch} {E : WEt} {wx : va_W} (L : Nat) (hL : 4 ≤ L)  {g : STt} {x1 : Int32} {x2 : Int32} {rr : Int32} (h : fX11_of g x1 x2 = some rr) : MT l E yX11_of cX11_of 3 (some .int) (L + 1) [.ref (aE E 28 0), .int x1, .int x2] (cellsM E g ++ wx) (cellsM E g ++ wx) (some (.int rr)) := by
  refine mt_of (by decide +kernel) (Nat.le_of_ble_eq_true rfl) ?_
  intro p e s m args below meth c C
  replace C : CX p s m args meth c cX11_of 3 RX11 (some .int) E := C
  unfold fX11_of at h
  refine vj_sub (lv' := [(0, .ref (aE E 28 0)), (1, .int x1), (2, .int x2)]) [0, 1, 2] rfl ?_
  refine v_aload_n C 0 (dk dcX11_of_0 0 rfl) rfl rfl ?_
  refine v_iload_n C 1 (dk dcX11_of_0 1 rfl) rfl rfl ?_
  obtain ⟨r_2, h_1, h⟩ := bnd1_s h
  refine v_callV1 C (mtX11_isPlace (L - 1) (by omega) h_1) wmX11_isPlace wd_1273 (by omega) (by decide) rfl _ (ce_Mo) rfl rfl (Nat.le_of_ble_eq_true rfl) (dk dcX11_of_0 2 rfl) ?_
  refine v_if_ne C 10 (dk dcX11_of_0 3 rfl) (by decide) (fun c_3 => ?_) (fun c_3 => ?_)
  · replace h := if_f c_3 h
    refine v_iload_n C 2 (dk dcX11_of_0 6 rfl) rfl rfl ?_
    by_cases c_4 : x2 = 0
    · replace h := if_t c_4 h
      refine v_tableIn C 36 (dk dcX11_of_0 7 rfl) (by rw [c_4]; decide) (by rw [c_4]; decide) (by rw [c_4]; rfl) (by decide) ?_
      refine v_aload_n C 0 (dk dcX11_of_0 8 rfl) rfl rfl ?_
      refine gt_Mo_kind C wd_1109 (dk dcX11_of_0 9 rfl) ?_
      refine v_iload_n C 1 (dk dcX11_of_0 10 rfl) rfl rfl ?_
      obtain ⟨b_5, h⟩ := gd_t h
      refine ld_m_kind C b_5 (dk dcX11_of_0 11 rfl) ?_
      cases h
      exact v_iret C rfl (dk dcX11_of_0 12 rfl)
    · replace h := if_f c_4 h
      by_cases c_5 : x2 = 1
      · replace h := if_t c_5 h
        refine v_tableIn C 43 (dk dcX11_of_0 7 rfl) (by rw [c_5]; decide) (by rw [c_5]; decide) (by rw [c_5]; rfl) (by decide) ?_
        refine v_aload_n C 0 (dk dcX11_of_0 13 rfl) rfl rfl ?_
        refine gt_Mo_number C wd_1110 (dk dcX11_of_0 14 rfl) ?_
        refine v_iload_n C 1 (dk dcX11_of_0 15 rfl) rfl rfl ?_
        obtain ⟨b_6, h⟩ := gd_t h
        refine ld_m_number C b_6 (dk dcX11_of_0 16 rfl) ?_
        cases h
        exact v_iret C rfl (dk dcX11_of_0 17 rfl)
      · replace h := if_f c_5 h
        by_cases c_6 : x2 = 2
        · replace h := if_t c_6 h
          refine v_tableIn C 50 (dk dcX11_of_0 7 rfl) (by rw [c_6]; decide) (by rw [c_6]; decide) (by rw [c_6]; rfl) (by decide) ?_
          refine v_aload_n C 0 (dk dcX11_of_0 18 rfl) rfl rfl ?_
          refine gt_Mo_thing C wd_1111 (dk dcX11_of_0 19 rfl) ?_
          refine v_iload_n C 1 (dk dcX11_of_0 20 rfl) rfl rfl ?_
          obtain ⟨b_7, h⟩ := gd_t h
          refine ld_m_thing C b_7 (dk dcX11_of_0 21 rfl) ?_
          cases h
          exact v_iret C rfl (dk dcX11_of_0 22 rfl)
        · replace h := if_f c_6 h
          have ec_4 := i32_ne (k := 0) c_4 (by decide)
          have ec_5 := i32_ne (k := 1) c_5 (by decide)
          have ec_6 := i32_ne (k := 2) c_6 (by decide)
          refine v_tableOut C 57 (dk dcX11_of_0 7 rfl) (by omega) (by decide) ?_
          refine v_iconst C (-1) (dk dcX11_of_0 23 rfl) ki_m1 ?_
          cases h
          exact v_iret C rfl (dk dcX11_of_0 24 rfl)
  · replace h := if_t c_3 h
    refine v_iconst C (-1) (dk dcX11_of_0 4 rfl) ki_m1 ?_
    cases h
    exact v_iret C rfl (dk dcX11_of_0 5 rfl)
set_option maxRecDepth 20000 in
set_option maxHeartbeats 4000000 in
theorem mtX11_nowOf {l : Launch} {E : WEt} {wx : va_W} (L : Nat) (hL : 3 ≤ L)  {g : STt} {x1 : Int32} {rr : Int32} (h : fX11_nowOf g x1 = some rr) : MT l E yX11_nowOf cX11_nowOf 2 (some .int) (L + 1) [.ref (aE E 28 0), .int x1] (cellsM E g ++ wx) (cellsM E g ++ wx) (some (.int rr)) := by
  refine mt_of (by decide +kernel) (Nat.le_of_ble_eq_true rfl) ?_
  intro p e s m args below meth c C
  replace C : CX p s m args meth c cX11_nowOf 2 RX11 (some .int) E := C
  unfold fX11_nowOf at h
  refine vj_sub (lv' := [(0, .ref (aE E 28 0)), (1, .int x1)]) [0, 1] rfl ?_
  refine v_iload_n C 1 (dk dcX11_nowOf_0 0 rfl) rfl rfl ?_
  refine v_bipush C 15 (dk dcX11_nowOf_0 1 rfl) kb_15 ?_
  refine v_icmp_ne C 13 (dk dcX11_nowOf_0 2 rfl) (by decide) (fun c_1 => ?_) (fun c_1 => ?_)
  · replace h := if_f c_1 h
    refine v_aload_n C 0 (dk dcX11_nowOf_0 6 rfl) rfl rfl ?_
    refine gt_Mo_is C wd_1112 (dk dcX11_nowOf_0 7 rfl) ?_
    refine v_iload_n C 1 (dk dcX11_nowOf_0 8 rfl) rfl rfl ?_
    obtain ⟨b_2, h⟩ := gd_t h
    refine ld_m_is C b_2 (dk dcX11_nowOf_0 9 rfl) ?_
    cases h
    exact v_iret C rfl (dk dcX11_nowOf_0 10 rfl)
  · replace h := if_t c_1 h
    refine v_aload_n C 0 (dk dcX11_nowOf_0 3 rfl) rfl rfl ?_
    obtain ⟨r_3, h_2, h⟩ := bnd1_s h
    refine v_callV1 C (mtX11_learnt (L - 1) (by omega) h_2) wmX11_learnt wd_1293 (by omega) (by decide) rfl _ (ce_Mo) rfl rfl (Nat.le_of_ble_eq_true rfl) (dk dcX11_nowOf_0 4 rfl) ?_
    refine v_goto C 19 (dk dcX11_nowOf_0 5 rfl) (by decide) ?_
    cases h
    exact v_iret C rfl (dk dcX11_nowOf_0 10 rfl)
set_option maxRecDepth 20000 in
set_option maxHeartbeats 4000000 in
theorem mtX11_now {l : Launch} {E : WEt} {wx : va_W} (L : Nat) (hL : 4 ≤ L)  {g : STt} {x1 : Int32} {rr : Int32} (h : fX11_now g x1 = some rr) : MT l E yX11_now cX11_now 2 (some .int) (L + 1) [.ref (aE E 28 0), .int x1] (cellsM E g ++ wx) (cellsM E g ++ wx) (some (.int rr)) := by
  refine mt_of (by decide +kernel) (Nat.le_of_ble_eq_true rfl) ?_
  intro p e s m args below meth c C
  replace C : CX p s m args meth c cX11_now 2 RX11 (some .int) E := C
  unfold fX11_now at h
  refine vj_sub (lv' := [(0, .ref (aE E 28 0)), (1, .int x1)]) [0, 1] rfl ?_
  refine v_iload_n C 1 (dk dcX11_now_0 0 rfl) rfl rfl ?_
  refine v_iconst C 0 (dk dcX11_now_0 1 rfl) ki_0 ?_
  refine v_bipush C 15 (dk dcX11_now_0 2 rfl) kb_15 ?_
  obtain ⟨r_2, h_1, h⟩ := bnd1_s h
  refine v_callS1 C (mtX11_in (L - 1) (by omega) h_1) wmX11_in wd_1266 (by omega) (by decide) rfl rfl (Nat.le_of_ble_eq_true rfl) (dk dcX11_now_0 3 rfl) ?_
  refine v_if_eq C 18 (dk dcX11_now_0 4 rfl) (by decide) (fun c_3 => ?_) (fun c_3 => ?_)
  · replace h := if_t c_3 h
    refine v_iconst C (-1) (dk dcX11_now_0 9 rfl) ki_m1 ?_
    cases h
    exact v_iret C rfl (dk dcX11_now_0 10 rfl)
  · replace h := if_f c_3 h
    refine v_aload_n C 0 (dk dcX11_now_0 5 rfl) rfl rfl ?_
    refine v_iload_n C 1 (dk dcX11_now_0 6 rfl) rfl rfl ?_
    obtain ⟨r_5, h_4, h⟩ := bnd1_s h
    refine v_callV1 C (mtX11_nowOf (L - 1) (by omega) h_4) wmX11_nowOf wd_1289 (by omega) (by decide) rfl _ (ce_Mo) rfl rfl (Nat.le_of_ble_eq_true rfl) (dk dcX11_now_0 7 rfl) ?_
    refine v_goto C 19 (dk dcX11_now_0 8 rfl) (by decide) ?_
    cases h
    exact v_iret C rfl (dk dcX11_now_0 10 rfl)
set_option maxRecDepth 20000 in
set_option maxHeartbeats 4000000 in
theorem mtX11_isHere {l : Launch} {E : WEt} {wx : va_W} (L : Nat) (hL : 2 ≤ L)  {g : STt} {x1 : Int32} {rr : Int32} (h : fX11_isHere g x1 = some rr) : MT l E yX11_isHere cX11_isHere 2 (some .boolean) (L + 1) [.ref (aE E 28 0), .int x1] (cellsM E g ++ wx) (cellsM E g ++ wx) (some (.int rr)) := by
  refine mt_of (by decide +kernel) (Nat.le_of_ble_eq_true rfl) ?_
  intro p e s m args below meth c C
  replace C : CX p s m args meth c cX11_isHere 2 RX11 (some .boolean) E := C
  unfold fX11_isHere at h
  refine vj_sub (lv' := [(0, .ref (aE E 28 0)), (1, .int x1)]) [0, 1] rfl ?_
  refine v_aload_n C 0 (dk dcX11_isHere_0 0 rfl) rfl rfl ?_
  refine gt_Mo_fault C wd_1127 (dk dcX11_isHere_0 1 rfl) ?_
  refine v_if_ge C 35 (dk dcX11_isHere_0 2 rfl) (by decide) (fun c_1 => ?_) (fun c_1 => ?_)
  · replace h := if_t c_1 h
    refine v_iconst C 0 (dk dcX11_isHere_0 17 rfl) ki_0 ?_
    cases h
    exact v_zret C (x := 0) rfl rfl (dk dcX11_isHere_0 18 rfl)
  · replace h := if_f c_1 h
    refine v_aload_n C 0 (dk dcX11_isHere_0 3 rfl) rfl rfl ?_
    refine gt_Mo_here C wd_1126 (dk dcX11_isHere_0 4 rfl) ?_
    refine v_aload_n C 0 (dk dcX11_isHere_0 5 rfl) rfl rfl ?_
    refine gt_Mo_taped C wd_1114 (dk dcX11_isHere_0 6 rfl) ?_
    refine v_icmp_ge C 35 (dk dcX11_isHere_0 7 rfl) (by decide) (fun c_2 => ?_) (fun c_2 => ?_)
    · replace h := if_t c_2 h
      refine v_iconst C 0 (dk dcX11_isHere_0 17 rfl) ki_0 ?_
      cases h
      exact v_zret C (x := 0) rfl rfl (dk dcX11_isHere_0 18 rfl)
    · replace h := if_f c_2 h
      refine v_aload_n C 0 (dk dcX11_isHere_0 8 rfl) rfl rfl ?_
      refine gt_Mo_tape C wd_1113 (dk dcX11_isHere_0 9 rfl) ?_
      refine v_aload_n C 0 (dk dcX11_isHere_0 10 rfl) rfl rfl ?_
      refine gt_Mo_here C wd_1126 (dk dcX11_isHere_0 11 rfl) ?_
      obtain ⟨b_3, h⟩ := gd_t h
      refine ld_m_tape C b_3 (dk dcX11_isHere_0 12 rfl) ?_
      refine v_iload_n C 1 (dk dcX11_isHere_0 13 rfl) rfl rfl ?_
      refine v_icmp_ne C 35 (dk dcX11_isHere_0 14 rfl) (by decide) (fun c_4 => ?_) (fun c_4 => ?_)
      · replace h := if_f c_4 h
        refine v_iconst C 0 (dk dcX11_isHere_0 17 rfl) ki_0 ?_
        cases h
        exact v_zret C (x := 0) rfl rfl (dk dcX11_isHere_0 18 rfl)
      · replace h := if_t c_4 h
        refine v_iconst C 1 (dk dcX11_isHere_0 15 rfl) ki_1 ?_
        refine v_goto C 36 (dk dcX11_isHere_0 16 rfl) (by decide) ?_
        cases h
        exact v_zret C (x := 1) rfl rfl (dk dcX11_isHere_0 18 rfl)
set_option maxRecDepth 20000 in
set_option maxHeartbeats 4000000 in
theorem mtX11_lay {l : Launch} {E : WEt} {wx : va_W} (L : Nat) (hL : 2 ≤ L)  {g : STt} {x1 : Int32} {g' : STt} (h : fX11_lay g x1 = some g') : MT l E yX11_lay cX11_lay 2 none (L + 1) [.ref (aE E 28 0), .int x1] (cellsM E g ++ wx) (cellsM E g' ++ wx) none := by
  refine mt_of (by decide +kernel) (Nat.le_of_ble_eq_true rfl) ?_
  intro p e s m args below meth c C
  replace C : CX p s m args meth c cX11_lay 2 RX11 none E := C
  unfold fX11_lay at h
  refine vj_sub (lv' := [(0, .ref (aE E 28 0)), (1, .int x1)]) [0, 1] rfl ?_
  refine v_aload_n C 0 (dk dcX11_lay_0 0 rfl) rfl rfl ?_
  refine gt_Mo_step C wd_1122 (dk dcX11_lay_0 1 rfl) ?_
  refine v_bipush C 100 (dk dcX11_lay_0 2 rfl) kb_100 ?_
  refine v_aload_n C 0 (dk dcX11_lay_0 3 rfl) rfl rfl ?_
  refine gt_Mo_laws C wd_1115 (dk dcX11_lay_0 4 rfl) ?_
  refine v_imul C (dk dcX11_lay_0 5 rfl) ?_
  refine v_aload_n C 0 (dk dcX11_lay_0 6 rfl) rfl rfl ?_
  refine gt_Mo_laid C wd_1128 (dk dcX11_lay_0 7 rfl) ?_
  refine v_iadd C (dk dcX11_lay_0 8 rfl) ?_
  refine v_iload_n C 1 (dk dcX11_lay_0 9 rfl) rfl rfl ?_
  obtain ⟨b_1, h⟩ := gd_t h
  refine st_m_step C b_1 (dk dcX11_lay_0 10 rfl) ?_
  refine v_aload_n C 0 (dk dcX11_lay_0 11 rfl) rfl rfl ?_
  refine v_dup C rfl (dk dcX11_lay_0 12 rfl) ?_
  refine gt_Mo_laid C wd_1128 (dk dcX11_lay_0 13 rfl) ?_
  refine v_iconst C 1 (dk dcX11_lay_0 14 rfl) ki_1 ?_
  refine v_iadd C (dk dcX11_lay_0 15 rfl) ?_
  refine pt_Mo_laid C wd_1128 (dk dcX11_lay_0 16 rfl) ?_
  cases h
  exact v_vret C rfl (dk dcX11_lay_0 17 rfl)
set_option maxRecDepth 20000 in
set_option maxHeartbeats 4000000 in
theorem mtX11_faulty {l : Launch} {E : WEt} {wx : va_W} (L : Nat) (hL : 2 ≤ L)  {g : STt} {g' : STt} (h : fX11_faulty g = some g') : MT l E yX11_faulty cX11_faulty 1 none (L + 1) [.ref (aE E 28 0)] (cellsM E g ++ wx) (cellsM E g' ++ wx) none := by
  refine mt_of (by decide +kernel) (Nat.le_of_ble_eq_true rfl) ?_
  intro p e s m args below meth c C
  replace C : CX p s m args meth c cX11_faulty 1 RX11 none E := C
  unfold fX11_faulty at h
  refine vj_sub (lv' := [(0, .ref (aE E 28 0))]) [0] rfl ?_
  refine v_aload_n C 0 (dk dcX11_faulty_0 0 rfl) rfl rfl ?_
  refine gt_Mo_fault C wd_1127 (dk dcX11_faulty_0 1 rfl) ?_
  refine v_if_ge C 15 (dk dcX11_faulty_0 2 rfl) (by decide) (fun c_1 => ?_) (fun c_1 => ?_)
  · replace h := if_t c_1 h
    cases h
    exact v_vret C rfl (dk dcX11_faulty_0 7 rfl)
  · replace h := if_f c_1 h
    refine v_aload_n C 0 (dk dcX11_faulty_0 3 rfl) rfl rfl ?_
    refine v_aload_n C 0 (dk dcX11_faulty_0 4 rfl) rfl rfl ?_
    refine gt_Mo_here C wd_1126 (dk dcX11_faulty_0 5 rfl) ?_
    refine pt_Mo_fault C wd_1127 (dk dcX11_faulty_0 6 rfl) ?_
    cases h
    exact v_vret C rfl (dk dcX11_faulty_0 7 rfl)
set_option maxRecDepth 20000 in
set_option maxHeartbeats 4000000 in
theorem vX11_isLetter_j84 {L : Nat} (hL : 2 ≤ L) (C : CX p s m args meth c cX11_isLetter 2 RX11 (some .boolean) E) {g : STt} (r : Int32) (h : fX11_isLetter_j84 g = some r) : VJ p l e (rmL (L + 1)) s m args below meth c (QE below E (cellsM E g ++ wx) (some (.int r)) args s) E 2 (cellsM E g ++ wx) [] [] 84 := by
  unfold fX11_isLetter_j84 at h
  refine v_iconst C 1 (dk dcX11_isLetter_0 43 rfl) ki_1 ?_
  refine v_goto C 89 (dk dcX11_isLetter_0 44 rfl) (by decide) ?_
  cases h
  exact v_zret C (x := 1) rfl rfl (dk dcX11_isLetter_0 46 rfl)
set_option maxRecDepth 20000 in
set_option maxHeartbeats 4000000 in
theorem mtX11_isLetter {l : Launch} {E : WEt} {wx : va_W} (L : Nat) (hL : 2 ≤ L)  {g : STt} {rr : Int32} (h : fX11_isLetter g = some rr) : MT l E yX11_isLetter cX11_isLetter 2 (some .boolean) (L + 1) [.ref (aE E 28 0)] (cellsM E g ++ wx) (cellsM E g ++ wx) (some (.int rr)) := by
  refine mt_of (by decide +kernel) (Nat.le_of_ble_eq_true rfl) ?_
  intro p e s m args below meth c C
  replace C : CX p s m args meth c cX11_isLetter 2 RX11 (some .boolean) E := C
  unfold fX11_isLetter at h
  refine vj_sub (lv' := [(0, .ref (aE E 28 0))]) [0] rfl ?_
  refine v_aload_n C 0 (dk dcX11_isLetter_0 0 rfl) rfl rfl ?_
  refine gt_Mo_fault C wd_1127 (dk dcX11_isLetter_0 1 rfl) ?_
  refine v_if_ge C 18 (dk dcX11_isLetter_0 2 rfl) (by decide) (fun c_1 => ?_) (fun c_1 => ?_)
  · replace h := if_t c_1 h
    refine v_iconst C 0 (dk dcX11_isLetter_0 8 rfl) ki_0 ?_
    cases h
    exact v_zret C (x := 0) rfl rfl (dk dcX11_isLetter_0 9 rfl)
  · replace h := if_f c_1 h
    refine v_aload_n C 0 (dk dcX11_isLetter_0 3 rfl) rfl rfl ?_
    refine gt_Mo_here C wd_1126 (dk dcX11_isLetter_0 4 rfl) ?_
    refine v_aload_n C 0 (dk dcX11_isLetter_0 5 rfl) rfl rfl ?_
    refine gt_Mo_taped C wd_1114 (dk dcX11_isLetter_0 6 rfl) ?_
    refine v_icmp_lt C 20 (dk dcX11_isLetter_0 7 rfl) (by decide) (fun c_2 => ?_) (fun c_2 => ?_)
    · replace h := if_t c_2 h
      refine v_aload_n C 0 (dk dcX11_isLetter_0 10 rfl) rfl rfl ?_
      refine gt_Mo_tape C wd_1113 (dk dcX11_isLetter_0 11 rfl) ?_
      refine v_aload_n C 0 (dk dcX11_isLetter_0 12 rfl) rfl rfl ?_
      refine gt_Mo_here C wd_1126 (dk dcX11_isLetter_0 13 rfl) ?_
      obtain ⟨b_3, h⟩ := gd_t h
      refine ld_m_tape C b_3 (dk dcX11_isLetter_0 14 rfl) ?_
      refine v_istore_n C (lv' := [(1, .int (g.2.1 58 0 (g.1 37 0).toNatClampNeg)), (0, .ref (aE E 28 0))]) (dk dcX11_isLetter_0 15 rfl) rfl (by decide) rfl ?_
      refine v_iload_n C 0 (dk dcX11_isLetter_0 16 rfl) rfl rfl ?_
      refine v_bipush C 102 (dk dcX11_isLetter_0 17 rfl) kb_102 ?_
      refine v_icmp_eq C 84 (dk dcX11_isLetter_0 18 rfl) (by decide) (fun c_4 => ?_) (fun c_4 => ?_)
      · replace h := if_t c_4 h
        exact vj_sub [] rfl (vX11_isLetter_j84 hL C _ h)
      · replace h := if_f c_4 h
        refine v_iload_n C 0 (dk dcX11_isLetter_0 19 rfl) rfl rfl ?_
        refine v_bipush C 104 (dk dcX11_isLetter_0 20 rfl) kb_104 ?_
        refine v_icmp_eq C 84 (dk dcX11_isLetter_0 21 rfl) (by decide) (fun c_5 => ?_) (fun c_5 => ?_)
        · replace h := if_t c_5 h
          exact vj_sub [] rfl (vX11_isLetter_j84 hL C _ h)
        · replace h := if_f c_5 h
          refine v_iload_n C 0 (dk dcX11_isLetter_0 22 rfl) rfl rfl ?_
          refine v_bipush C 112 (dk dcX11_isLetter_0 23 rfl) kb_112 ?_
          refine v_icmp_eq C 84 (dk dcX11_isLetter_0 24 rfl) (by decide) (fun c_6 => ?_) (fun c_6 => ?_)
          · replace h := if_t c_6 h
            exact vj_sub [] rfl (vX11_isLetter_j84 hL C _ h)
          · replace h := if_f c_6 h
            refine v_iload_n C 0 (dk dcX11_isLetter_0 25 rfl) rfl rfl ?_
            refine v_bipush C 119 (dk dcX11_isLetter_0 26 rfl) kb_119 ?_
            refine v_icmp_eq C 84 (dk dcX11_isLetter_0 27 rfl) (by decide) (fun c_7 => ?_) (fun c_7 => ?_)
            · replace h := if_t c_7 h
              exact vj_sub [] rfl (vX11_isLetter_j84 hL C _ h)
            · replace h := if_f c_7 h
              refine v_iload_n C 0 (dk dcX11_isLetter_0 28 rfl) rfl rfl ?_
              refine v_bipush C 108 (dk dcX11_isLetter_0 29 rfl) kb_108 ?_
              refine v_icmp_eq C 84 (dk dcX11_isLetter_0 30 rfl) (by decide) (fun c_8 => ?_) (fun c_8 => ?_)
              · replace h := if_t c_8 h
                exact vj_sub [] rfl (vX11_isLetter_j84 hL C _ h)
              · replace h := if_f c_8 h
                refine v_iload_n C 0 (dk dcX11_isLetter_0 31 rfl) rfl rfl ?_
                refine v_bipush C 115 (dk dcX11_isLetter_0 32 rfl) kb_115 ?_
                refine v_icmp_eq C 84 (dk dcX11_isLetter_0 33 rfl) (by decide) (fun c_9 => ?_) (fun c_9 => ?_)
                · replace h := if_t c_9 h
                  exact vj_sub [] rfl (vX11_isLetter_j84 hL C _ h)
                · replace h := if_f c_9 h
                  refine v_iload_n C 0 (dk dcX11_isLetter_0 34 rfl) rfl rfl ?_
                  refine v_bipush C 97 (dk dcX11_isLetter_0 35 rfl) kb_97 ?_
                  refine v_icmp_eq C 84 (dk dcX11_isLetter_0 36 rfl) (by decide) (fun c_10 => ?_) (fun c_10 => ?_)
                  · replace h := if_t c_10 h
                    exact vj_sub [] rfl (vX11_isLetter_j84 hL C _ h)
                  · replace h := if_f c_10 h
                    refine v_iload_n C 0 (dk dcX11_isLetter_0 37 rfl) rfl rfl ?_
                    refine v_bipush C 107 (dk dcX11_isLetter_0 38 rfl) kb_107 ?_
                    refine v_icmp_eq C 84 (dk dcX11_isLetter_0 39 rfl) (by decide) (fun c_11 => ?_) (fun c_11 => ?_)
                    · replace h := if_t c_11 h
                      exact vj_sub [] rfl (vX11_isLetter_j84 hL C _ h)
                    · replace h := if_f c_11 h
                      refine v_iload_n C 0 (dk dcX11_isLetter_0 40 rfl) rfl rfl ?_
                      refine v_bipush C 116 (dk dcX11_isLetter_0 41 rfl) kb_116 ?_
                      refine v_icmp_ne C 88 (dk dcX11_isLetter_0 42 rfl) (by decide) (fun c_12 => ?_) (fun c_12 => ?_)
                      · replace h := if_f c_12 h
                        refine v_iconst C 0 (dk dcX11_isLetter_0 45 rfl) ki_0 ?_
                        cases h
                        exact v_zret C (x := 0) rfl rfl (dk dcX11_isLetter_0 46 rfl)
                      · replace h := if_t c_12 h
                        exact vj_sub [] rfl (vX11_isLetter_j84 hL C _ h)
    · replace h := if_f c_2 h
      refine v_iconst C 0 (dk dcX11_isLetter_0 8 rfl) ki_0 ?_
      cases h
      exact v_zret C (x := 0) rfl rfl (dk dcX11_isLetter_0 9 rfl)
set_option maxRecDepth 20000 in
set_option maxHeartbeats 4000000 in
theorem mtX11_isDigit {l : Launch} {E : WEt} {wx : va_W} (L : Nat) (hL : 3 ≤ L)  {g : STt} {rr : Int32} (h : fX11_isDigit g = some rr) : MT l E yX11_isDigit cX11_isDigit 1 (some .boolean) (L + 1) [.ref (aE E 28 0)] (cellsM E g ++ wx) (cellsM E g ++ wx) (some (.int rr)) := by
  refine mt_of (by decide +kernel) (Nat.le_of_ble_eq_true rfl) ?_
  intro p e s m args below meth c C
  replace C : CX p s m args meth c cX11_isDigit 1 RX11 (some .boolean) E := C
  unfold fX11_isDigit at h
  refine vj_sub (lv' := [(0, .ref (aE E 28 0))]) [0] rfl ?_
  refine v_aload_n C 0 (dk dcX11_isDigit_0 0 rfl) rfl rfl ?_
  refine gt_Mo_fault C wd_1127 (dk dcX11_isDigit_0 1 rfl) ?_
  refine v_if_ge C 41 (dk dcX11_isDigit_0 2 rfl) (by decide) (fun c_1 => ?_) (fun c_1 => ?_)
  · replace h := if_t c_1 h
    refine v_iconst C 0 (dk dcX11_isDigit_0 19 rfl) ki_0 ?_
    cases h
    exact v_zret C (x := 0) rfl rfl (dk dcX11_isDigit_0 20 rfl)
  · replace h := if_f c_1 h
    refine v_aload_n C 0 (dk dcX11_isDigit_0 3 rfl) rfl rfl ?_
    refine gt_Mo_here C wd_1126 (dk dcX11_isDigit_0 4 rfl) ?_
    refine v_aload_n C 0 (dk dcX11_isDigit_0 5 rfl) rfl rfl ?_
    refine gt_Mo_taped C wd_1114 (dk dcX11_isDigit_0 6 rfl) ?_
    refine v_icmp_ge C 41 (dk dcX11_isDigit_0 7 rfl) (by decide) (fun c_2 => ?_) (fun c_2 => ?_)
    · replace h := if_t c_2 h
      refine v_iconst C 0 (dk dcX11_isDigit_0 19 rfl) ki_0 ?_
      cases h
      exact v_zret C (x := 0) rfl rfl (dk dcX11_isDigit_0 20 rfl)
    · replace h := if_f c_2 h
      refine v_aload_n C 0 (dk dcX11_isDigit_0 8 rfl) rfl rfl ?_
      refine gt_Mo_tape C wd_1113 (dk dcX11_isDigit_0 9 rfl) ?_
      refine v_aload_n C 0 (dk dcX11_isDigit_0 10 rfl) rfl rfl ?_
      refine gt_Mo_here C wd_1126 (dk dcX11_isDigit_0 11 rfl) ?_
      obtain ⟨b_3, h⟩ := gd_t h
      refine ld_m_tape C b_3 (dk dcX11_isDigit_0 12 rfl) ?_
      refine v_bipush C 48 (dk dcX11_isDigit_0 13 rfl) kb_48 ?_
      refine v_bipush C 57 (dk dcX11_isDigit_0 14 rfl) kb_57 ?_
      obtain ⟨r_5, h_4, h⟩ := bnd1_s h
      refine v_callS1 C (mtX11_in (L - 1) (by omega) h_4) wmX11_in wd_1266 (by omega) (by decide) rfl rfl (Nat.le_of_ble_eq_true rfl) (dk dcX11_isDigit_0 15 rfl) ?_
      refine v_if_eq C 41 (dk dcX11_isDigit_0 16 rfl) (by decide) (fun c_6 => ?_) (fun c_6 => ?_)
      · replace h := if_t c_6 h
        refine v_iconst C 0 (dk dcX11_isDigit_0 19 rfl) ki_0 ?_
        cases h
        exact v_zret C (x := 0) rfl rfl (dk dcX11_isDigit_0 20 rfl)
      · replace h := if_f c_6 h
        refine v_iconst C 1 (dk dcX11_isDigit_0 17 rfl) ki_1 ?_
        refine v_goto C 42 (dk dcX11_isDigit_0 18 rfl) (by decide) ?_
        cases h
        exact v_zret C (x := 1) rfl rfl (dk dcX11_isDigit_0 20 rfl)
set_option maxRecDepth 20000 in
set_option maxHeartbeats 4000000 in
theorem mtX11_readNumber {l : Launch} {E : WEt} {wx : va_W} (L : Nat) (hL : 4 ≤ L)  {g : STt} {g' : STt} {rr : Int32} (h : fX11_readNumber g = some (g', rr)) : MT l E yX11_readNumber cX11_readNumber 2 (some .int) (L + 1) [.ref (aE E 28 0)] (cellsM E g ++ wx) (cellsM E g' ++ wx) (some (.int rr)) := by
  refine mt_of (by decide +kernel) (Nat.le_of_ble_eq_true rfl) ?_
  intro p e s m args below meth c C
  replace C : CX p s m args meth c cX11_readNumber 2 RX11 (some .int) E := C
  unfold fX11_readNumber at h
  refine vj_sub (lv' := [(0, .ref (aE E 28 0))]) [0] rfl ?_
  refine v_aload_n C 0 (dk dcX11_readNumber_0 0 rfl) rfl rfl ?_
  obtain ⟨r_2, h_1, h⟩ := bnd1_s h
  refine v_callV1 C (mtX11_isDigit (L - 1) (by omega) h_1) wmX11_isDigit wd_1321 (by omega) (by decide) rfl _ (ce_Mo) rfl rfl (Nat.le_of_ble_eq_true rfl) (dk dcX11_readNumber_0 1 rfl) ?_
  refine v_if_ne C 13 (dk dcX11_readNumber_0 2 rfl) (by decide) (fun c_3 => ?_) (fun c_3 => ?_)
  · replace h := if_f c_3 h
    refine v_aload_n C 0 (dk dcX11_readNumber_0 7 rfl) rfl rfl ?_
    refine gt_Mo_tape C wd_1113 (dk dcX11_readNumber_0 8 rfl) ?_
    refine v_aload_n C 0 (dk dcX11_readNumber_0 9 rfl) rfl rfl ?_
    refine gt_Mo_here C wd_1126 (dk dcX11_readNumber_0 10 rfl) ?_
    obtain ⟨b_4, h⟩ := gd_t h
    refine ld_m_tape C b_4 (dk dcX11_readNumber_0 11 rfl) ?_
    refine v_bipush C 48 (dk dcX11_readNumber_0 12 rfl) kb_48 ?_
    refine v_isub C (dk dcX11_readNumber_0 13 rfl) ?_
    refine v_istore_n C (lv' := [(1, .int ((g.2.1 58 0 (g.1 37 0).toNatClampNeg) - 48)), (0, .ref (aE E 28 0))]) (dk dcX11_readNumber_0 14 rfl) rfl (by decide) rfl ?_
    refine v_aload_n C 1 (dk dcX11_readNumber_0 15 rfl) rfl rfl ?_
    refine v_dup C rfl (dk dcX11_readNumber_0 16 rfl) ?_
    refine gt_Mo_here C wd_1126 (dk dcX11_readNumber_0 17 rfl) ?_
    refine v_iconst C 1 (dk dcX11_readNumber_0 18 rfl) ki_1 ?_
    refine v_iadd C (dk dcX11_readNumber_0 19 rfl) ?_
    refine pt_Mo_here C wd_1126 (dk dcX11_readNumber_0 20 rfl) ?_
    refine v_aload_n C 1 (dk dcX11_readNumber_0 21 rfl) rfl rfl ?_
    obtain ⟨r_6, h_5, h⟩ := bnd1_s h
    refine v_callV1 C (mtX11_isDigit (L - 1) (by omega) h_5) wmX11_isDigit wd_1321 (by omega) (by decide) rfl _ (ce_Mo) rfl rfl (Nat.le_of_ble_eq_true rfl) (dk dcX11_readNumber_0 22 rfl) ?_
    refine v_if_ne C 45 (dk dcX11_readNumber_0 23 rfl) (by decide) (fun c_7 => ?_) (fun c_7 => ?_)
    · replace h := if_f c_7 h
      refine v_bipush C 10 (dk dcX11_readNumber_0 26 rfl) kb_10 ?_
      refine v_iload_n C 0 (dk dcX11_readNumber_0 27 rfl) rfl rfl ?_
      refine v_imul C (dk dcX11_readNumber_0 28 rfl) ?_
      refine v_aload_n C 1 (dk dcX11_readNumber_0 29 rfl) rfl rfl ?_
      refine gt_Mo_tape C wd_1113 (dk dcX11_readNumber_0 30 rfl) ?_
      refine v_aload_n C 1 (dk dcX11_readNumber_0 31 rfl) rfl rfl ?_
      refine gt_Mo_here C wd_1126 (dk dcX11_readNumber_0 32 rfl) ?_
      obtain ⟨b_8, h⟩ := gd_t h
      refine ld_m_tape C b_8 (dk dcX11_readNumber_0 33 rfl) ?_
      refine v_iadd C (dk dcX11_readNumber_0 34 rfl) ?_
      refine v_bipush C 48 (dk dcX11_readNumber_0 35 rfl) kb_48 ?_
      refine v_isub C (dk dcX11_readNumber_0 36 rfl) ?_
      refine v_istore_n C (lv' := [(1, .int (((10 * ((g.2.1 58 0 (g.1 37 0).toNatClampNeg) - 48)) + ((sS g 37 0 ((g.1 37 0) + 1)).2.1 58 0 ((sS g 37 0 ((g.1 37 0) + 1)).1 37 0).toNatClampNeg)) - 48)), (0, .ref (aE E 28 0))]) (dk dcX11_readNumber_0 37 rfl) rfl (by decide) rfl ?_
      refine v_aload_n C 1 (dk dcX11_readNumber_0 38 rfl) rfl rfl ?_
      refine v_dup C rfl (dk dcX11_readNumber_0 39 rfl) ?_
      refine gt_Mo_here C wd_1126 (dk dcX11_readNumber_0 40 rfl) ?_
      refine v_iconst C 1 (dk dcX11_readNumber_0 41 rfl) ki_1 ?_
      refine v_iadd C (dk dcX11_readNumber_0 42 rfl) ?_
      refine pt_Mo_here C wd_1126 (dk dcX11_readNumber_0 43 rfl) ?_
      refine v_iload_n C 0 (dk dcX11_readNumber_0 44 rfl) rfl rfl ?_
      cases h
      exact v_iret C rfl (dk dcX11_readNumber_0 45 rfl)
    · replace h := if_t c_7 h
      refine v_iload_n C 0 (dk dcX11_readNumber_0 24 rfl) rfl rfl ?_
      cases h
      exact v_iret C rfl (dk dcX11_readNumber_0 25 rfl)
  · replace h := if_t c_3 h
    refine v_aload_n C 0 (dk dcX11_readNumber_0 3 rfl) rfl rfl ?_
    obtain ⟨g_5, h_4, h⟩ := bnd1_s h
    refine v_callV0 C (mtX11_faulty (L - 1) (by omega) h_4) wmX11_faulty wd_1313 (by omega) (by decide) rfl _ (ce_Mo) rfl rfl (Nat.le_of_ble_eq_true rfl) (dk dcX11_readNumber_0 4 rfl) ?_
    refine v_iconst C 0 (dk dcX11_readNumber_0 5 rfl) ki_0 ?_
    cases h
    exact v_iret C rfl (dk dcX11_readNumber_0 6 rfl)
set_option maxRecDepth 20000 in
set_option maxHeartbeats 4000000 in
theorem mtX11_takes {l : Launch} {E : WEt} {wx : va_W} (L : Nat) (hL : 3 ≤ L)  {g : STt} {x1 : Int32} {g' : STt} (h : fX11_takes g x1 = some g') : MT l E yX11_takes cX11_takes 2 none (L + 1) [.ref (aE E 28 0), .int x1] (cellsM E g ++ wx) (cellsM E g' ++ wx) none := by
  refine mt_of (by decide +kernel) (Nat.le_of_ble_eq_true rfl) ?_
  intro p e s m args below meth c C
  replace C : CX p s m args meth c cX11_takes 2 RX11 none E := C
  unfold fX11_takes at h
  refine vj_sub (lv' := [(0, .ref (aE E 28 0)), (1, .int x1)]) [0, 1] rfl ?_
  refine v_aload_n C 0 (dk dcX11_takes_0 0 rfl) rfl rfl ?_
  refine v_iload_n C 1 (dk dcX11_takes_0 1 rfl) rfl rfl ?_
  obtain ⟨r_2, h_1, h⟩ := bnd1_s h
  refine v_callV1 C (mtX11_isHere (L - 1) (by omega) h_1) wmX11_isHere wd_1329 (by omega) (by decide) rfl _ (ce_Mo) rfl rfl (Nat.le_of_ble_eq_true rfl) (dk dcX11_takes_0 2 rfl) ?_
  refine v_if_eq C 21 (dk dcX11_takes_0 3 rfl) (by decide) (fun c_3 => ?_) (fun c_3 => ?_)
  · replace h := if_t c_3 h
    refine v_aload_n C 0 (dk dcX11_takes_0 11 rfl) rfl rfl ?_
    obtain ⟨g_5, h_4, h⟩ := bnd1_s h
    refine v_callV0 C (mtX11_faulty (L - 1) (by omega) h_4) wmX11_faulty wd_1313 (by omega) (by decide) rfl _ (ce_Mo) rfl rfl (Nat.le_of_ble_eq_true rfl) (dk dcX11_takes_0 12 rfl) ?_
    cases h
    exact v_vret C rfl (dk dcX11_takes_0 13 rfl)
  · replace h := if_f c_3 h
    refine v_aload_n C 0 (dk dcX11_takes_0 4 rfl) rfl rfl ?_
    refine v_dup C rfl (dk dcX11_takes_0 5 rfl) ?_
    refine gt_Mo_here C wd_1126 (dk dcX11_takes_0 6 rfl) ?_
    refine v_iconst C 1 (dk dcX11_takes_0 7 rfl) ki_1 ?_
    refine v_iadd C (dk dcX11_takes_0 8 rfl) ?_
    refine pt_Mo_here C wd_1126 (dk dcX11_takes_0 9 rfl) ?_
    refine v_goto C 25 (dk dcX11_takes_0 10 rfl) (by decide) ?_
    cases h
    exact v_vret C rfl (dk dcX11_takes_0 13 rfl)
set_option maxRecDepth 20000 in
set_option maxHeartbeats 4000000 in
theorem moX11_both {l : Launch} {E : WEt} {wx : va_W} (L : Nat) (hL : 5 ≤ L) {qX11_both : STt → Int32 → Option STt} {qX11_either : STt → Int32 → Option STt} {qX11_one : STt → Int32 → Option STt} (hcX11_both : ∀ {g : STt} {x1 : Int32} {g' : STt}, qX11_both g x1 = some g' → MT l E yX11_both cX11_both 2 none (L) [.ref (aE E 28 0), .int x1] (cellsM E g ++ wx) (cellsM E g' ++ wx) none) (hcX11_either : ∀ {g : STt} {x1 : Int32} {g' : STt}, qX11_either g x1 = some g' → MT l E yX11_either cX11_either 2 none (L) [.ref (aE E 28 0), .int x1] (cellsM E g ++ wx) (cellsM E g' ++ wx) none) (hcX11_one : ∀ {g : STt} {x1 : Int32} {g' : STt}, qX11_one g x1 = some g' → MT l E yX11_one cX11_one 3 none (L) [.ref (aE E 28 0), .int x1] (cellsM E g ++ wx) (cellsM E g' ++ wx) none)  {g : STt} {x1 : Int32} {g' : STt} (h : FX11_both qX11_both qX11_either qX11_one g x1 = some g') : MT l E yX11_both cX11_both 2 none (L + 1) [.ref (aE E 28 0), .int x1] (cellsM E g ++ wx) (cellsM E g' ++ wx) none := by
  refine mt_of (by decide +kernel) (Nat.le_of_ble_eq_true rfl) ?_
  intro p e s m args below meth c C
  replace C : CX p s m args meth c cX11_both 2 RX11 none E := C
  unfold FX11_both at h
  refine vj_sub (lv' := [(0, .ref (aE E 28 0)), (1, .int x1)]) [0, 1] rfl ?_
  refine v_aload_n C 0 (dk dcX11_both_0 0 rfl) rfl rfl ?_
  refine v_iload_n C 1 (dk dcX11_both_0 1 rfl) rfl rfl ?_
  obtain ⟨g_2, h_1, h⟩ := bnd1_s h
  refine v_callV0 C (hcX11_one h_1) wmX11_one wd_1341 (by omega) (by decide) rfl _ (ce_Mo) rfl rfl (Nat.le_of_ble_eq_true rfl) (dk dcX11_both_0 2 rfl) ?_
  refine v_aload_n C 0 (dk dcX11_both_0 3 rfl) rfl rfl ?_
  refine v_bipush C 38 (dk dcX11_both_0 4 rfl) kb_38 ?_
  obtain ⟨r_4, h_3, h⟩ := bnd1_s h
  refine v_callV1 C (mtX11_isHere (L - 1) (by omega) h_3) wmX11_isHere wd_1329 (by omega) (by decide) rfl _ (ce_Mo) rfl rfl (Nat.le_of_ble_eq_true rfl) (dk dcX11_both_0 5 rfl) ?_
  refine v_if_ne C 15 (dk dcX11_both_0 6 rfl) (by decide) (fun c_5 => ?_) (fun c_5 => ?_)
  · replace h := if_f c_5 h
    refine v_aload_n C 0 (dk dcX11_both_0 8 rfl) rfl rfl ?_
    refine v_dup C rfl (dk dcX11_both_0 9 rfl) ?_
    refine gt_Mo_here C wd_1126 (dk dcX11_both_0 10 rfl) ?_
    refine v_iconst C 1 (dk dcX11_both_0 11 rfl) ki_1 ?_
    refine v_iadd C (dk dcX11_both_0 12 rfl) ?_
    refine pt_Mo_here C wd_1126 (dk dcX11_both_0 13 rfl) ?_
    refine v_aload_n C 0 (dk dcX11_both_0 14 rfl) rfl rfl ?_
    refine v_iload_n C 1 (dk dcX11_both_0 15 rfl) rfl rfl ?_
    obtain ⟨g_7, h_6, h⟩ := bnd1_s h
    refine v_callV0 C (hcX11_both h_6) wmX11_both wd_1337 (by omega) (by decide) rfl _ (ce_Mo) rfl rfl (Nat.le_of_ble_eq_true rfl) (dk dcX11_both_0 16 rfl) ?_
    refine v_aload_n C 0 (dk dcX11_both_0 17 rfl) rfl rfl ?_
    refine v_iconst C 2 (dk dcX11_both_0 18 rfl) ki_2 ?_
    obtain ⟨g_9, h_8, h⟩ := bnd1_s h
    refine v_callV0 C (mtX11_lay (L - 1) (by omega) h_8) wmX11_lay wd_1345 (by omega) (by decide) rfl _ (ce_Mo) rfl rfl (Nat.le_of_ble_eq_true rfl) (dk dcX11_both_0 19 rfl) ?_
    cases h
    exact v_vret C rfl (dk dcX11_both_0 20 rfl)
  · replace h := if_t c_5 h
    cases h
    exact v_vret C rfl (dk dcX11_both_0 7 rfl)
set_option maxRecDepth 20000 in
set_option maxHeartbeats 4000000 in
theorem moX11_either {l : Launch} {E : WEt} {wx : va_W} (L : Nat) (hL : 5 ≤ L) {qX11_both : STt → Int32 → Option STt} {qX11_either : STt → Int32 → Option STt} {qX11_one : STt → Int32 → Option STt} (hcX11_both : ∀ {g : STt} {x1 : Int32} {g' : STt}, qX11_both g x1 = some g' → MT l E yX11_both cX11_both 2 none (L) [.ref (aE E 28 0), .int x1] (cellsM E g ++ wx) (cellsM E g' ++ wx) none) (hcX11_either : ∀ {g : STt} {x1 : Int32} {g' : STt}, qX11_either g x1 = some g' → MT l E yX11_either cX11_either 2 none (L) [.ref (aE E 28 0), .int x1] (cellsM E g ++ wx) (cellsM E g' ++ wx) none) (hcX11_one : ∀ {g : STt} {x1 : Int32} {g' : STt}, qX11_one g x1 = some g' → MT l E yX11_one cX11_one 3 none (L) [.ref (aE E 28 0), .int x1] (cellsM E g ++ wx) (cellsM E g' ++ wx) none)  {g : STt} {x1 : Int32} {g' : STt} (h : FX11_either qX11_both qX11_either qX11_one g x1 = some g') : MT l E yX11_either cX11_either 2 none (L + 1) [.ref (aE E 28 0), .int x1] (cellsM E g ++ wx) (cellsM E g' ++ wx) none := by
  refine mt_of (by decide +kernel) (Nat.le_of_ble_eq_true rfl) ?_
  intro p e s m args below meth c C
  replace C : CX p s m args meth c cX11_either 2 RX11 none E := C
  unfold FX11_either at h
  refine vj_sub (lv' := [(0, .ref (aE E 28 0)), (1, .int x1)]) [0, 1] rfl ?_
  refine v_aload_n C 0 (dk dcX11_either_0 0 rfl) rfl rfl ?_
  refine v_iload_n C 1 (dk dcX11_either_0 1 rfl) rfl rfl ?_
  obtain ⟨g_2, h_1, h⟩ := bnd1_s h
  refine v_callV0 C (hcX11_both h_1) wmX11_both wd_1337 (by omega) (by decide) rfl _ (ce_Mo) rfl rfl (Nat.le_of_ble_eq_true rfl) (dk dcX11_either_0 2 rfl) ?_
  refine v_aload_n C 0 (dk dcX11_either_0 3 rfl) rfl rfl ?_
  refine v_bipush C 124 (dk dcX11_either_0 4 rfl) kb_124 ?_
  obtain ⟨r_4, h_3, h⟩ := bnd1_s h
  refine v_callV1 C (mtX11_isHere (L - 1) (by omega) h_3) wmX11_isHere wd_1329 (by omega) (by decide) rfl _ (ce_Mo) rfl rfl (Nat.le_of_ble_eq_true rfl) (dk dcX11_either_0 5 rfl) ?_
  refine v_if_ne C 15 (dk dcX11_either_0 6 rfl) (by decide) (fun c_5 => ?_) (fun c_5 => ?_)
  · replace h := if_f c_5 h
    refine v_aload_n C 0 (dk dcX11_either_0 8 rfl) rfl rfl ?_
    refine v_dup C rfl (dk dcX11_either_0 9 rfl) ?_
    refine gt_Mo_here C wd_1126 (dk dcX11_either_0 10 rfl) ?_
    refine v_iconst C 1 (dk dcX11_either_0 11 rfl) ki_1 ?_
    refine v_iadd C (dk dcX11_either_0 12 rfl) ?_
    refine pt_Mo_here C wd_1126 (dk dcX11_either_0 13 rfl) ?_
    refine v_aload_n C 0 (dk dcX11_either_0 14 rfl) rfl rfl ?_
    refine v_iload_n C 1 (dk dcX11_either_0 15 rfl) rfl rfl ?_
    obtain ⟨g_7, h_6, h⟩ := bnd1_s h
    refine v_callV0 C (hcX11_either h_6) wmX11_either wd_1333 (by omega) (by decide) rfl _ (ce_Mo) rfl rfl (Nat.le_of_ble_eq_true rfl) (dk dcX11_either_0 16 rfl) ?_
    refine v_aload_n C 0 (dk dcX11_either_0 17 rfl) rfl rfl ?_
    refine v_iconst C 3 (dk dcX11_either_0 18 rfl) ki_3 ?_
    obtain ⟨g_9, h_8, h⟩ := bnd1_s h
    refine v_callV0 C (mtX11_lay (L - 1) (by omega) h_8) wmX11_lay wd_1345 (by omega) (by decide) rfl _ (ce_Mo) rfl rfl (Nat.le_of_ble_eq_true rfl) (dk dcX11_either_0 19 rfl) ?_
    cases h
    exact v_vret C rfl (dk dcX11_either_0 20 rfl)
  · replace h := if_t c_5 h
    cases h
    exact v_vret C rfl (dk dcX11_either_0 7 rfl)
set_option maxRecDepth 20000 in
set_option maxHeartbeats 4000000 in
theorem vX11_one_j206 {L : Nat} (hL : 5 ≤ L) {qX11_both : STt → Int32 → Option STt} {qX11_either : STt → Int32 → Option STt} {qX11_one : STt → Int32 → Option STt} (hcX11_both : ∀ {g : STt} {x1 : Int32} {g' : STt}, qX11_both g x1 = some g' → MT l E yX11_both cX11_both 2 none (L) [.ref (aE E 28 0), .int x1] (cellsM E g ++ wx) (cellsM E g' ++ wx) none) (hcX11_either : ∀ {g : STt} {x1 : Int32} {g' : STt}, qX11_either g x1 = some g' → MT l E yX11_either cX11_either 2 none (L) [.ref (aE E 28 0), .int x1] (cellsM E g ++ wx) (cellsM E g' ++ wx) none) (hcX11_one : ∀ {g : STt} {x1 : Int32} {g' : STt}, qX11_one g x1 = some g' → MT l E yX11_one cX11_one 3 none (L) [.ref (aE E 28 0), .int x1] (cellsM E g ++ wx) (cellsM E g' ++ wx) none) (C : CX p s m args meth c cX11_one 3 RX11 none E) {g : STt} {l2 : Int32} (r : STt) (h : fX11_one_j206 qX11_both qX11_either qX11_one g l2 = some r) : VJ p l e (rmL (L + 1)) s m args below meth c (QE below E (cellsM E r ++ wx) (none) args s) E 3 (cellsM E g ++ wx) [(0, .ref (aE E 28 0)), (2, .int l2)] [] 206 := by
  unfold fX11_one_j206 at h
  refine v_aload_n C 0 (dk dcX11_one_2 15 rfl) rfl rfl ?_
  refine gt_Mo_value C wd_1125 (dk dcX11_one_2 16 rfl) ?_
  refine v_iload_n C 1 (dk dcX11_one_2 17 rfl) rfl rfl ?_
  refine v_aload_n C 0 (dk dcX11_one_2 18 rfl) rfl rfl ?_
  obtain ⟨g_2, r_3, h_1, h⟩ := bnd_s h
  refine v_callV1 C (mtX11_readNumber (L - 1) (by omega) h_1) wmX11_readNumber wd_1317 (by omega) (by decide) rfl _ (ce_Mo) rfl rfl (Nat.le_of_ble_eq_true rfl) (dk dcX11_one_2 19 rfl) ?_
  obtain ⟨b_4, h⟩ := gd_t h
  refine st_m_value C b_4 (dk dcX11_one_2 20 rfl) ?_
  refine v_aload_n C 0 (dk dcX11_one_2 21 rfl) rfl rfl ?_
  refine v_iconst C 0 (dk dcX11_one_2 22 rfl) ki_0 ?_
  obtain ⟨g_6, h_5, h⟩ := bnd1_s h
  refine v_callV0 C (mtX11_lay (L - 1) (by omega) h_5) wmX11_lay wd_1345 (by omega) (by decide) rfl _ (ce_Mo) rfl rfl (Nat.le_of_ble_eq_true rfl) (dk dcX11_one_2 23 rfl) ?_
  refine v_goto C 228 (dk dcX11_one_2 24 rfl) (by decide) ?_
  cases h
  exact v_vret C rfl (dk dcX11_one_2 27 rfl)
set_option maxRecDepth 20000 in
set_option maxHeartbeats 4000000 in
theorem vX11_one_j189 {L : Nat} (hL : 5 ≤ L) {qX11_both : STt → Int32 → Option STt} {qX11_either : STt → Int32 → Option STt} {qX11_one : STt → Int32 → Option STt} (hcX11_both : ∀ {g : STt} {x1 : Int32} {g' : STt}, qX11_both g x1 = some g' → MT l E yX11_both cX11_both 2 none (L) [.ref (aE E 28 0), .int x1] (cellsM E g ++ wx) (cellsM E g' ++ wx) none) (hcX11_either : ∀ {g : STt} {x1 : Int32} {g' : STt}, qX11_either g x1 = some g' → MT l E yX11_either cX11_either 2 none (L) [.ref (aE E 28 0), .int x1] (cellsM E g ++ wx) (cellsM E g' ++ wx) none) (hcX11_one : ∀ {g : STt} {x1 : Int32} {g' : STt}, qX11_one g x1 = some g' → MT l E yX11_one cX11_one 3 none (L) [.ref (aE E 28 0), .int x1] (cellsM E g ++ wx) (cellsM E g' ++ wx) none) (C : CX p s m args meth c cX11_one 3 RX11 none E) {g : STt} {l2 : Int32} (r : STt) (h : fX11_one_j189 qX11_both qX11_either qX11_one g l2 = some r) : VJ p l e (rmL (L + 1)) s m args below meth c (QE below E (cellsM E r ++ wx) (none) args s) E 3 (cellsM E g ++ wx) [(0, .ref (aE E 28 0)), (2, .int l2)] [] 189 := by
  unfold fX11_one_j189 at h
  refine v_aload_n C 0 (dk dcX11_one_2 6 rfl) rfl rfl ?_
  refine v_dup C rfl (dk dcX11_one_2 7 rfl) ?_
  refine gt_Mo_here C wd_1126 (dk dcX11_one_2 8 rfl) ?_
  refine v_iconst C 1 (dk dcX11_one_2 9 rfl) ki_1 ?_
  refine v_iadd C (dk dcX11_one_2 10 rfl) ?_
  refine pt_Mo_here C wd_1126 (dk dcX11_one_2 11 rfl) ?_
  refine v_goto C 206 (dk dcX11_one_2 12 rfl) (by decide) ?_
  exact vj_sub [0, 1] rfl (vX11_one_j206 hL hcX11_both hcX11_either hcX11_one C _ h)
set_option maxRecDepth 20000 in
set_option maxHeartbeats 4000000 in
theorem vX11_one_j161 {L : Nat} (hL : 5 ≤ L) {qX11_both : STt → Int32 → Option STt} {qX11_either : STt → Int32 → Option STt} {qX11_one : STt → Int32 → Option STt} (hcX11_both : ∀ {g : STt} {x1 : Int32} {g' : STt}, qX11_both g x1 = some g' → MT l E yX11_both cX11_both 2 none (L) [.ref (aE E 28 0), .int x1] (cellsM E g ++ wx) (cellsM E g' ++ wx) none) (hcX11_either : ∀ {g : STt} {x1 : Int32} {g' : STt}, qX11_either g x1 = some g' → MT l E yX11_either cX11_either 2 none (L) [.ref (aE E 28 0), .int x1] (cellsM E g ++ wx) (cellsM E g' ++ wx) none) (hcX11_one : ∀ {g : STt} {x1 : Int32} {g' : STt}, qX11_one g x1 = some g' → MT l E yX11_one cX11_one 3 none (L) [.ref (aE E 28 0), .int x1] (cellsM E g ++ wx) (cellsM E g' ++ wx) none) (C : CX p s m args meth c cX11_one 3 RX11 none E) {g : STt} {l2 : Int32} {s0 : Int32} {s1 : Int32} (r : STt) (h : fX11_one_j161 qX11_both qX11_either qX11_one g l2 s0 s1 = some r) : VJ p l e (rmL (L + 1)) s m args below meth c (QE below E (cellsM E r ++ wx) (none) args s) E 3 (cellsM E g ++ wx) [(0, .ref (aE E 28 0)), (2, .int l2)] [.int s0, .int s1, .ref (aE E 41 0)] 161 := by
  unfold fX11_one_j161 at h
  obtain ⟨b_1, h⟩ := gd_t h
  refine st_m_sign C b_1 (dk dcX11_one_1 41 rfl) ?_
  refine v_aload_n C 0 (dk dcX11_one_1 42 rfl) rfl rfl ?_
  refine v_bipush C 60 (dk dcX11_one_1 43 rfl) kb_60 ?_
  obtain ⟨r_3, h_2, h⟩ := bnd1_s h
  refine v_callV1 C (mtX11_isHere (L - 1) (by omega) h_2) wmX11_isHere wd_1329 (by omega) (by decide) rfl _ (ce_Mo) rfl rfl (Nat.le_of_ble_eq_true rfl) (dk dcX11_one_1 44 rfl) ?_
  refine v_if_ne C 189 (dk dcX11_one_1 45 rfl) (by decide) (fun c_4 => ?_) (fun c_4 => ?_)
  · replace h := if_f c_4 h
    exact vj_sub [0, 1] rfl (vX11_one_j189 hL hcX11_both hcX11_either hcX11_one C _ h)
  · replace h := if_t c_4 h
    refine v_aload_n C 0 (dk dcX11_one_1 46 rfl) rfl rfl ?_
    refine v_bipush C 61 (dk dcX11_one_1 47 rfl) kb_61 ?_
    obtain ⟨r_6, h_5, h⟩ := bnd1_s h
    refine v_callV1 C (mtX11_isHere (L - 1) (by omega) h_5) wmX11_isHere wd_1329 (by omega) (by decide) rfl _ (ce_Mo) rfl rfl (Nat.le_of_ble_eq_true rfl) (dk dcX11_one_2 0 rfl) ?_
    refine v_if_ne C 189 (dk dcX11_one_2 1 rfl) (by decide) (fun c_7 => ?_) (fun c_7 => ?_)
    · replace h := if_f c_7 h
      exact vj_sub [0, 1] rfl (vX11_one_j189 hL hcX11_both hcX11_either hcX11_one C _ h)
    · replace h := if_t c_7 h
      refine v_aload_n C 0 (dk dcX11_one_2 2 rfl) rfl rfl ?_
      refine v_bipush C 62 (dk dcX11_one_2 3 rfl) kb_62 ?_
      obtain ⟨r_9, h_8, h⟩ := bnd1_s h
      refine v_callV1 C (mtX11_isHere (L - 1) (by omega) h_8) wmX11_isHere wd_1329 (by omega) (by decide) rfl _ (ce_Mo) rfl rfl (Nat.le_of_ble_eq_true rfl) (dk dcX11_one_2 4 rfl) ?_
      refine v_if_eq C 202 (dk dcX11_one_2 5 rfl) (by decide) (fun c_10 => ?_) (fun c_10 => ?_)
      · replace h := if_t c_10 h
        refine v_aload_n C 0 (dk dcX11_one_2 13 rfl) rfl rfl ?_
        obtain ⟨g_12, h_11, h⟩ := bnd1_s h
        refine v_callV0 C (mtX11_faulty (L - 1) (by omega) h_11) wmX11_faulty wd_1313 (by omega) (by decide) rfl _ (ce_Mo) rfl rfl (Nat.le_of_ble_eq_true rfl) (dk dcX11_one_2 14 rfl) ?_
        exact vj_sub [0, 1] rfl (vX11_one_j206 hL hcX11_both hcX11_either hcX11_one C _ h)
      · replace h := if_f c_10 h
        exact vj_sub [0, 1] rfl (vX11_one_j189 hL hcX11_both hcX11_either hcX11_one C _ h)
set_option maxRecDepth 20000 in
set_option maxHeartbeats 4000000 in
theorem vX11_one_j87 {L : Nat} (hL : 5 ≤ L) {qX11_both : STt → Int32 → Option STt} {qX11_either : STt → Int32 → Option STt} {qX11_one : STt → Int32 → Option STt} (hcX11_both : ∀ {g : STt} {x1 : Int32} {g' : STt}, qX11_both g x1 = some g' → MT l E yX11_both cX11_both 2 none (L) [.ref (aE E 28 0), .int x1] (cellsM E g ++ wx) (cellsM E g' ++ wx) none) (hcX11_either : ∀ {g : STt} {x1 : Int32} {g' : STt}, qX11_either g x1 = some g' → MT l E yX11_either cX11_either 2 none (L) [.ref (aE E 28 0), .int x1] (cellsM E g ++ wx) (cellsM E g' ++ wx) none) (hcX11_one : ∀ {g : STt} {x1 : Int32} {g' : STt}, qX11_one g x1 = some g' → MT l E yX11_one cX11_one 3 none (L) [.ref (aE E 28 0), .int x1] (cellsM E g ++ wx) (cellsM E g' ++ wx) none) (C : CX p s m args meth c cX11_one 3 RX11 none E) {g : STt} (r : STt) (h : fX11_one_j87 qX11_both qX11_either qX11_one g = some r) : VJ p l e (rmL (L + 1)) s m args below meth c (QE below E (cellsM E r ++ wx) (none) args s) E 3 (cellsM E g ++ wx) [(0, .ref (aE E 28 0))] [] 87 := by
  unfold fX11_one_j87 at h
  refine v_aload_n C 0 (dk dcX11_one_1 0 rfl) rfl rfl ?_
  obtain ⟨r_2, h_1, h⟩ := bnd1_s h
  refine v_callV1 C (mtX11_isLetter (L - 1) (by omega) h_1) wmX11_isLetter wd_1349 (by omega) (by decide) rfl _ (ce_Mo) rfl rfl (Nat.le_of_ble_eq_true rfl) (dk dcX11_one_1 1 rfl) ?_
  refine v_if_eq C 224 (dk dcX11_one_1 2 rfl) (by decide) (fun c_3 => ?_) (fun c_3 => ?_)
  · replace h := if_t c_3 h
    refine v_aload_n C 0 (dk dcX11_one_2 25 rfl) rfl rfl ?_
    obtain ⟨g_5, h_4, h⟩ := bnd1_s h
    refine v_callV0 C (mtX11_faulty (L - 1) (by omega) h_4) wmX11_faulty wd_1313 (by omega) (by decide) rfl _ (ce_Mo) rfl rfl (Nat.le_of_ble_eq_true rfl) (dk dcX11_one_2 26 rfl) ?_
    cases h
    exact v_vret C rfl (dk dcX11_one_2 27 rfl)
  · replace h := if_f c_3 h
    refine v_bipush C 100 (dk dcX11_one_1 3 rfl) kb_100 ?_
    refine v_aload_n C 0 (dk dcX11_one_1 4 rfl) rfl rfl ?_
    refine gt_Mo_laws C wd_1115 (dk dcX11_one_1 5 rfl) ?_
    refine v_imul C (dk dcX11_one_1 6 rfl) ?_
    refine v_aload_n C 0 (dk dcX11_one_1 7 rfl) rfl rfl ?_
    refine gt_Mo_laid C wd_1128 (dk dcX11_one_1 8 rfl) ?_
    refine v_iadd C (dk dcX11_one_1 9 rfl) ?_
    refine v_istore_n C (lv' := [(2, .int ((100 * (g.1 35 0)) + (g.1 39 0))), (0, .ref (aE E 28 0))]) (dk dcX11_one_1 10 rfl) rfl (by decide) rfl ?_
    refine v_aload_n C 1 (dk dcX11_one_1 11 rfl) rfl rfl ?_
    refine gt_Mo_letter C wd_1123 (dk dcX11_one_1 12 rfl) ?_
    refine v_iload_n C 0 (dk dcX11_one_1 13 rfl) rfl rfl ?_
    refine v_aload_n C 1 (dk dcX11_one_1 14 rfl) rfl rfl ?_
    refine gt_Mo_tape C wd_1113 (dk dcX11_one_1 15 rfl) ?_
    refine v_aload_n C 1 (dk dcX11_one_1 16 rfl) rfl rfl ?_
    refine gt_Mo_here C wd_1126 (dk dcX11_one_1 17 rfl) ?_
    obtain ⟨b_4, h⟩ := gd_t h
    refine ld_m_tape C b_4 (dk dcX11_one_1 18 rfl) ?_
    obtain ⟨b_5, h⟩ := gd_t h
    refine st_m_letter C b_5 (dk dcX11_one_1 19 rfl) ?_
    refine v_aload_n C 1 (dk dcX11_one_1 20 rfl) rfl rfl ?_
    refine v_dup C rfl (dk dcX11_one_1 21 rfl) ?_
    refine gt_Mo_here C wd_1126 (dk dcX11_one_1 22 rfl) ?_
    refine v_iconst C 1 (dk dcX11_one_1 23 rfl) ki_1 ?_
    refine v_iadd C (dk dcX11_one_1 24 rfl) ?_
    refine pt_Mo_here C wd_1126 (dk dcX11_one_1 25 rfl) ?_
    refine v_aload_n C 1 (dk dcX11_one_1 26 rfl) rfl rfl ?_
    refine gt_Mo_sign C wd_1124 (dk dcX11_one_1 27 rfl) ?_
    refine v_iload_n C 0 (dk dcX11_one_1 28 rfl) rfl rfl ?_
    refine v_aload_n C 1 (dk dcX11_one_1 29 rfl) rfl rfl ?_
    refine gt_Mo_here C wd_1126 (dk dcX11_one_1 30 rfl) ?_
    refine v_aload_n C 1 (dk dcX11_one_1 31 rfl) rfl rfl ?_
    refine gt_Mo_taped C wd_1114 (dk dcX11_one_1 32 rfl) ?_
    refine v_icmp_ge C 160 (dk dcX11_one_1 33 rfl) (by decide) (fun c_6 => ?_) (fun c_6 => ?_)
    · replace h := if_t c_6 h
      refine v_iconst C 0 (dk dcX11_one_1 40 rfl) ki_0 ?_
      exact vj_sub [1, 0] rfl (vX11_one_j161 hL hcX11_both hcX11_either hcX11_one C _ h)
    · replace h := if_f c_6 h
      refine v_aload_n C 1 (dk dcX11_one_1 34 rfl) rfl rfl ?_
      refine gt_Mo_tape C wd_1113 (dk dcX11_one_1 35 rfl) ?_
      refine v_aload_n C 1 (dk dcX11_one_1 36 rfl) rfl rfl ?_
      refine gt_Mo_here C wd_1126 (dk dcX11_one_1 37 rfl) ?_
      obtain ⟨b_7, h⟩ := gd_t h
      refine ld_m_tape C b_7 (dk dcX11_one_1 38 rfl) ?_
      refine v_goto C 161 (dk dcX11_one_1 39 rfl) (by decide) ?_
      exact vj_sub [1, 0] rfl (vX11_one_j161 hL hcX11_both hcX11_either hcX11_one C _ h)
set_option maxRecDepth 20000 in
set_option maxHeartbeats 4000000 in
theorem vX11_one_j47 {L : Nat} (hL : 5 ≤ L) {qX11_both : STt → Int32 → Option STt} {qX11_either : STt → Int32 → Option STt} {qX11_one : STt → Int32 → Option STt} (hcX11_both : ∀ {g : STt} {x1 : Int32} {g' : STt}, qX11_both g x1 = some g' → MT l E yX11_both cX11_both 2 none (L) [.ref (aE E 28 0), .int x1] (cellsM E g ++ wx) (cellsM E g' ++ wx) none) (hcX11_either : ∀ {g : STt} {x1 : Int32} {g' : STt}, qX11_either g x1 = some g' → MT l E yX11_either cX11_either 2 none (L) [.ref (aE E 28 0), .int x1] (cellsM E g ++ wx) (cellsM E g' ++ wx) none) (hcX11_one : ∀ {g : STt} {x1 : Int32} {g' : STt}, qX11_one g x1 = some g' → MT l E yX11_one cX11_one 3 none (L) [.ref (aE E 28 0), .int x1] (cellsM E g ++ wx) (cellsM E g' ++ wx) none) (C : CX p s m args meth c cX11_one 3 RX11 none E) {g : STt} {l1 : Int32} (r : STt) (h : fX11_one_j47 qX11_both qX11_either qX11_one g l1 = some r) : VJ p l e (rmL (L + 1)) s m args below meth c (QE below E (cellsM E r ++ wx) (none) args s) E 3 (cellsM E g ++ wx) [(0, .ref (aE E 28 0)), (1, .int l1)] [] 47 := by
  unfold fX11_one_j47 at h
  refine v_iload_n C 1 (dk dcX11_one_0 26 rfl) rfl rfl ?_
  refine v_iconst C 4 (dk dcX11_one_0 27 rfl) ki_4 ?_
  refine v_icmp_ge C 87 (dk dcX11_one_0 28 rfl) (by decide) (fun c_1 => ?_) (fun c_1 => ?_)
  · replace h := if_t c_1 h
    exact vj_sub [0] rfl (vX11_one_j87 hL hcX11_both hcX11_either hcX11_one C _ h)
  · replace h := if_f c_1 h
    refine v_aload_n C 0 (dk dcX11_one_0 29 rfl) rfl rfl ?_
    refine v_bipush C 40 (dk dcX11_one_0 30 rfl) kb_40 ?_
    obtain ⟨r_3, h_2, h⟩ := bnd1_s h
    refine v_callV1 C (mtX11_isHere (L - 1) (by omega) h_2) wmX11_isHere wd_1329 (by omega) (by decide) rfl _ (ce_Mo) rfl rfl (Nat.le_of_ble_eq_true rfl) (dk dcX11_one_0 31 rfl) ?_
    refine v_if_eq C 87 (dk dcX11_one_0 32 rfl) (by decide) (fun c_4 => ?_) (fun c_4 => ?_)
    · replace h := if_t c_4 h
      exact vj_sub [0] rfl (vX11_one_j87 hL hcX11_both hcX11_either hcX11_one C _ h)
    · replace h := if_f c_4 h
      refine v_aload_n C 0 (dk dcX11_one_0 33 rfl) rfl rfl ?_
      refine v_dup C rfl (dk dcX11_one_0 34 rfl) ?_
      refine gt_Mo_here C wd_1126 (dk dcX11_one_0 35 rfl) ?_
      refine v_iconst C 1 (dk dcX11_one_0 36 rfl) ki_1 ?_
      refine v_iadd C (dk dcX11_one_0 37 rfl) ?_
      refine pt_Mo_here C wd_1126 (dk dcX11_one_0 38 rfl) ?_
      refine v_aload_n C 0 (dk dcX11_one_0 39 rfl) rfl rfl ?_
      refine v_iload_n C 1 (dk dcX11_one_0 40 rfl) rfl rfl ?_
      refine v_iconst C 1 (dk dcX11_one_0 41 rfl) ki_1 ?_
      refine v_iadd C (dk dcX11_one_0 42 rfl) ?_
      obtain ⟨g_6, h_5, h⟩ := bnd1_s h
      refine v_callV0 C (hcX11_either h_5) wmX11_either wd_1333 (by omega) (by decide) rfl _ (ce_Mo) rfl rfl (Nat.le_of_ble_eq_true rfl) (dk dcX11_one_0 43 rfl) ?_
      refine v_aload_n C 0 (dk dcX11_one_0 44 rfl) rfl rfl ?_
      refine v_bipush C 41 (dk dcX11_one_0 45 rfl) kb_41 ?_
      obtain ⟨g_8, h_7, h⟩ := bnd1_s h
      refine v_callV0 C (mtX11_takes (L - 1) (by omega) h_7) wmX11_takes wd_1325 (by omega) (by decide) rfl _ (ce_Mo) rfl rfl (Nat.le_of_ble_eq_true rfl) (dk dcX11_one_0 46 rfl) ?_
      refine v_goto C 228 (dk dcX11_one_0 47 rfl) (by decide) ?_
      cases h
      exact v_vret C rfl (dk dcX11_one_2 27 rfl)
set_option maxRecDepth 20000 in
set_option maxHeartbeats 4000000 in
theorem moX11_one {l : Launch} {E : WEt} {wx : va_W} (L : Nat) (hL : 5 ≤ L) {qX11_both : STt → Int32 → Option STt} {qX11_either : STt → Int32 → Option STt} {qX11_one : STt → Int32 → Option STt} (hcX11_both : ∀ {g : STt} {x1 : Int32} {g' : STt}, qX11_both g x1 = some g' → MT l E yX11_both cX11_both 2 none (L) [.ref (aE E 28 0), .int x1] (cellsM E g ++ wx) (cellsM E g' ++ wx) none) (hcX11_either : ∀ {g : STt} {x1 : Int32} {g' : STt}, qX11_either g x1 = some g' → MT l E yX11_either cX11_either 2 none (L) [.ref (aE E 28 0), .int x1] (cellsM E g ++ wx) (cellsM E g' ++ wx) none) (hcX11_one : ∀ {g : STt} {x1 : Int32} {g' : STt}, qX11_one g x1 = some g' → MT l E yX11_one cX11_one 3 none (L) [.ref (aE E 28 0), .int x1] (cellsM E g ++ wx) (cellsM E g' ++ wx) none)  {g : STt} {x1 : Int32} {g' : STt} (h : FX11_one qX11_both qX11_either qX11_one g x1 = some g') : MT l E yX11_one cX11_one 3 none (L + 1) [.ref (aE E 28 0), .int x1] (cellsM E g ++ wx) (cellsM E g' ++ wx) none := by
  refine mt_of (by decide +kernel) (Nat.le_of_ble_eq_true rfl) ?_
  intro p e s m args below meth c C
  replace C : CX p s m args meth c cX11_one 3 RX11 none E := C
  unfold FX11_one at h
  refine vj_sub (lv' := [(0, .ref (aE E 28 0)), (1, .int x1)]) [0, 1] rfl ?_
  refine v_aload_n C 0 (dk dcX11_one_0 0 rfl) rfl rfl ?_
  refine gt_Mo_fault C wd_1127 (dk dcX11_one_0 1 rfl) ?_
  refine v_if_lt C 8 (dk dcX11_one_0 2 rfl) (by decide) (fun c_1 => ?_) (fun c_1 => ?_)
  · replace h := if_t c_1 h
    refine v_iload_n C 1 (dk dcX11_one_0 4 rfl) rfl rfl ?_
    refine v_iconst C 4 (dk dcX11_one_0 5 rfl) ki_4 ?_
    refine v_icmp_ge C 47 (dk dcX11_one_0 6 rfl) (by decide) (fun c_2 => ?_) (fun c_2 => ?_)
    · replace h := if_t c_2 h
      exact vj_sub [0, 1] rfl (vX11_one_j47 hL hcX11_both hcX11_either hcX11_one C _ h)
    · replace h := if_f c_2 h
      refine v_aload_n C 0 (dk dcX11_one_0 7 rfl) rfl rfl ?_
      refine v_bipush C 33 (dk dcX11_one_0 8 rfl) kb_33 ?_
      obtain ⟨r_4, h_3, h⟩ := bnd1_s h
      refine v_callV1 C (mtX11_isHere (L - 1) (by omega) h_3) wmX11_isHere wd_1329 (by omega) (by decide) rfl _ (ce_Mo) rfl rfl (Nat.le_of_ble_eq_true rfl) (dk dcX11_one_0 9 rfl) ?_
      refine v_if_eq C 47 (dk dcX11_one_0 10 rfl) (by decide) (fun c_5 => ?_) (fun c_5 => ?_)
      · replace h := if_t c_5 h
        exact vj_sub [0, 1] rfl (vX11_one_j47 hL hcX11_both hcX11_either hcX11_one C _ h)
      · replace h := if_f c_5 h
        refine v_aload_n C 0 (dk dcX11_one_0 11 rfl) rfl rfl ?_
        refine v_dup C rfl (dk dcX11_one_0 12 rfl) ?_
        refine gt_Mo_here C wd_1126 (dk dcX11_one_0 13 rfl) ?_
        refine v_iconst C 1 (dk dcX11_one_0 14 rfl) ki_1 ?_
        refine v_iadd C (dk dcX11_one_0 15 rfl) ?_
        refine pt_Mo_here C wd_1126 (dk dcX11_one_0 16 rfl) ?_
        refine v_aload_n C 0 (dk dcX11_one_0 17 rfl) rfl rfl ?_
        refine v_iload_n C 1 (dk dcX11_one_0 18 rfl) rfl rfl ?_
        refine v_iconst C 1 (dk dcX11_one_0 19 rfl) ki_1 ?_
        refine v_iadd C (dk dcX11_one_0 20 rfl) ?_
        obtain ⟨g_7, h_6, h⟩ := bnd1_s h
        refine v_callV0 C (hcX11_one h_6) wmX11_one wd_1341 (by omega) (by decide) rfl _ (ce_Mo) rfl rfl (Nat.le_of_ble_eq_true rfl) (dk dcX11_one_0 21 rfl) ?_
        refine v_aload_n C 0 (dk dcX11_one_0 22 rfl) rfl rfl ?_
        refine v_iconst C 1 (dk dcX11_one_0 23 rfl) ki_1 ?_
        obtain ⟨g_9, h_8, h⟩ := bnd1_s h
        refine v_callV0 C (mtX11_lay (L - 1) (by omega) h_8) wmX11_lay wd_1345 (by omega) (by decide) rfl _ (ce_Mo) rfl rfl (Nat.le_of_ble_eq_true rfl) (dk dcX11_one_0 24 rfl) ?_
        refine v_goto C 228 (dk dcX11_one_0 25 rfl) (by decide) ?_
        cases h
        exact v_vret C rfl (dk dcX11_one_2 27 rfl)
  · replace h := if_f c_1 h
    cases h
    exact v_vret C rfl (dk dcX11_one_0 3 rfl)
set_option maxRecDepth 20000 in
set_option maxHeartbeats 4000000 in
theorem mgX11_both {l : Launch} {E : WEt} {wx : va_W} : ∀ (n L : Nat), 5 ≤ L → (∀ {g : STt} {x1 : Int32} {g' : STt}, (RGX11_both n).1 g x1 = some g' → MT l E yX11_both cX11_both 2 none (L + n) [.ref (aE E 28 0), .int x1] (cellsM E g ++ wx) (cellsM E g' ++ wx) none) ∧ (∀ {g : STt} {x1 : Int32} {g' : STt}, (RGX11_both n).2.1 g x1 = some g' → MT l E yX11_either cX11_either 2 none (L + n) [.ref (aE E 28 0), .int x1] (cellsM E g ++ wx) (cellsM E g' ++ wx) none) ∧ (∀ {g : STt} {x1 : Int32} {g' : STt}, (RGX11_both n).2.2 g x1 = some g' → MT l E yX11_one cX11_one 3 none (L + n) [.ref (aE E 28 0), .int x1] (cellsM E g ++ wx) (cellsM E g' ++ wx) none) := by
  intro n
  induction n with
  | zero => intro L hL; exact ⟨(by intros; rename_i h; cases h), (by intros; rename_i h; cases h), (by intros; rename_i h; cases h)⟩
  | succ n ih =>
    intro L hL
    obtain ⟨i0, i1, i2⟩ := ih L hL
    exact ⟨fun {_} {_} {_} h => moX11_both (L + n) (by omega) i0 i1 i2 h, fun {_} {_} {_} h => moX11_either (L + n) (by omega) i0 i1 i2 h, fun {_} {_} {_} h => moX11_one (L + n) (by omega) i0 i1 i2 h⟩
set_option maxRecDepth 20000 in
set_option maxHeartbeats 4000000 in
theorem mtX11_both {l : Launch} {E : WEt} {wx : va_W} (L : Nat) (hL : 325 ≤ L) {g : STt} {x1 : Int32} {g' : STt} (h : fX11_both fuelX11_both g x1 = some g') : MT l E yX11_both cX11_both 2 none (L + 1) [.ref (aE E 28 0), .int x1] (cellsM E g ++ wx) (cellsM E g' ++ wx) none := by
  have e : L + 1 = (L + 1 - fuelX11_both) + fuelX11_both := by show L + 1 = (L + 1 - 320) + 320; omega
  rw [e]
  exact (mgX11_both fuelX11_both (L + 1 - fuelX11_both) (by show 5 ≤ L + 1 - 320; omega)).1  h
set_option maxRecDepth 20000 in
set_option maxHeartbeats 4000000 in
theorem mtX11_either {l : Launch} {E : WEt} {wx : va_W} (L : Nat) (hL : 325 ≤ L) {g : STt} {x1 : Int32} {g' : STt} (h : fX11_either fuelX11_both g x1 = some g') : MT l E yX11_either cX11_either 2 none (L + 1) [.ref (aE E 28 0), .int x1] (cellsM E g ++ wx) (cellsM E g' ++ wx) none := by
  have e : L + 1 = (L + 1 - fuelX11_both) + fuelX11_both := by show L + 1 = (L + 1 - 320) + 320; omega
  rw [e]
  exact (mgX11_both fuelX11_both (L + 1 - fuelX11_both) (by show 5 ≤ L + 1 - 320; omega)).2.1  h
set_option maxRecDepth 20000 in
set_option maxHeartbeats 4000000 in
theorem mtX11_one {l : Launch} {E : WEt} {wx : va_W} (L : Nat) (hL : 325 ≤ L) {g : STt} {x1 : Int32} {g' : STt} (h : fX11_one fuelX11_both g x1 = some g') : MT l E yX11_one cX11_one 3 none (L + 1) [.ref (aE E 28 0), .int x1] (cellsM E g ++ wx) (cellsM E g' ++ wx) none := by
  have e : L + 1 = (L + 1 - fuelX11_both) + fuelX11_both := by show L + 1 = (L + 1 - 320) + 320; omega
  rw [e]
  exact (mgX11_both fuelX11_both (L + 1 - fuelX11_both) (by show 5 ≤ L + 1 - 320; omega)).2.2  h
set_option maxRecDepth 20000 in
set_option maxHeartbeats 4000000 in
theorem vX11_readWord_j117 {L : Nat} (hL : 3 ≤ L) (C : CX p s m args meth c cX11_readWord 7 RX11 (some .int) E) {g : STt} {l1 : Int32} {l2 : Int32} {l3 : Int32} {K9 : (Int32 × Int32 × Int32) → Option (STt × Int32)} (hK9 : ∀ {l1 : Int32} {l2 : Int32} {l3 : Int32} (r : STt × Int32), K9 (l1, l2, l3) = some r → VJ p l e (rmL (L + 1)) s m args below meth c (QE below E (cellsM E r.1 ++ wx) (some (.int r.2)) args s) E 7 (cellsM E g ++ wx) [(0, .ref (aE E 28 0)), (1, .int l1), (2, .int l2), (3, .int l3)] [] 9) (r : STt × Int32) (h : fX11_readWord_j117 K9 g l1 l2 l3 = some r) : VJ p l e (rmL (L + 1)) s m args below meth c (QE below E (cellsM E r.1 ++ wx) (some (.int r.2)) args s) E 7 (cellsM E g ++ wx) [(0, .ref (aE E 28 0)), (1, .int l1), (2, .int l2), (3, .int l3)] [] 117 := by
  unfold fX11_readWord_j117 at h
  refine v_iinc C (lv' := [(3, .int (l3 + 1)), (0, .ref (aE E 28 0)), (1, .int l1), (2, .int l2)]) (l3 + 1) 3 (dk dcX11_readWord_1 14 rfl) rfl (congrArg (fun z => l3 + z) ki_1) (by decide) rfl ?_
  refine v_goto C 9 (dk dcX11_readWord_1 15 rfl) (by decide) ?_
  exact vj_sub [1, 2, 3, 0] rfl (hK9 _ h)
set_option maxRecDepth 20000 in
set_option maxHeartbeats 4000000 in
theorem vX11_readWord_j87 {L : Nat} (hL : 3 ≤ L) (C : CX p s m args meth c cX11_readWord 7 RX11 (some .int) E) {g : STt} {l1 : Int32} {l2 : Int32} {l3 : Int32} {l4 : Int32} {l5 : Int32} {s0 : Int32} {K9 : (Int32 × Int32 × Int32) → Option (STt × Int32)} (hK9 : ∀ {l1 : Int32} {l2 : Int32} {l3 : Int32} (r : STt × Int32), K9 (l1, l2, l3) = some r → VJ p l e (rmL (L + 1)) s m args below meth c (QE below E (cellsM E r.1 ++ wx) (some (.int r.2)) args s) E 7 (cellsM E g ++ wx) [(0, .ref (aE E 28 0)), (1, .int l1), (2, .int l2), (3, .int l3)] [] 9) {K27 : (Int32 × Int32 × Int32 × Int32) → Option (STt × Int32)} (hK27 : ∀ {l1 : Int32} {l4 : Int32} {l5 : Int32} {l6 : Int32} (r : STt × Int32), K27 (l1, l4, l5, l6) = some r → VJ p l e (rmL (L + 1)) s m args below meth c (QE below E (cellsM E r.1 ++ wx) (some (.int r.2)) args s) E 7 (cellsM E g ++ wx) [(0, .ref (aE E 28 0)), (1, .int l1), (2, .int l2), (3, .int l3), (4, .int l4), (5, .int l5), (6, .int l6)] [] 27) (r : STt × Int32) (h : fX11_readWord_j87 K9 K27 g l1 l2 l3 l4 l5 s0 = some r) : VJ p l e (rmL (L + 1)) s m args below meth c (QE below E (cellsM E r.1 ++ wx) (some (.int r.2)) args s) E 7 (cellsM E g ++ wx) [(0, .ref (aE E 28 0)), (1, .int l1), (2, .int l2), (3, .int l3), (4, .int l4), (5, .int l5)] [.int s0] 87 := by
  unfold fX11_readWord_j87 at h
  refine v_istore C (lv' := [(6, .int s0), (0, .ref (aE E 28 0)), (1, .int l1), (2, .int l2), (3, .int l3), (4, .int l4), (5, .int l5)]) (dk dcX11_readWord_0 47 rfl) (by decide) rfl ?_
  refine v_iinc C (lv' := [(1, .int (l1 + 1)), (6, .int s0), (0, .ref (aE E 28 0)), (2, .int l2), (3, .int l3), (4, .int l4), (5, .int l5)]) (l1 + 1) 2 (dk dcX11_readWord_1 0 rfl) rfl (congrArg (fun z => l1 + z) ki_1) (by decide) rfl ?_
  refine v_goto C 27 (dk dcX11_readWord_1 1 rfl) (by decide) ?_
  exact vj_sub [2, 0, 3, 4, 5, 6, 1] rfl (hK27 _ h)
set_option maxRecDepth 20000 in
set_option maxHeartbeats 4000000 in
theorem vX11_readWord_j71 {L : Nat} (hL : 3 ≤ L) (C : CX p s m args meth c cX11_readWord 7 RX11 (some .int) E) {g : STt} {l1 : Int32} {l2 : Int32} {l3 : Int32} {l4 : Int32} {l5 : Int32} {K9 : (Int32 × Int32 × Int32) → Option (STt × Int32)} (hK9 : ∀ {l1 : Int32} {l2 : Int32} {l3 : Int32} (r : STt × Int32), K9 (l1, l2, l3) = some r → VJ p l e (rmL (L + 1)) s m args below meth c (QE below E (cellsM E r.1 ++ wx) (some (.int r.2)) args s) E 7 (cellsM E g ++ wx) [(0, .ref (aE E 28 0)), (1, .int l1), (2, .int l2), (3, .int l3)] [] 9) {K27 : (Int32 × Int32 × Int32 × Int32) → Option (STt × Int32)} (hK27 : ∀ {l1 : Int32} {l4 : Int32} {l5 : Int32} {l6 : Int32} (r : STt × Int32), K27 (l1, l4, l5, l6) = some r → VJ p l e (rmL (L + 1)) s m args below meth c (QE below E (cellsM E r.1 ++ wx) (some (.int r.2)) args s) E 7 (cellsM E g ++ wx) [(0, .ref (aE E 28 0)), (1, .int l1), (2, .int l2), (3, .int l3), (4, .int l4), (5, .int l5), (6, .int l6)] [] 27) (r : STt × Int32) (h : fX11_readWord_j71 K9 K27 g l1 l2 l3 l4 l5 = some r) : VJ p l e (rmL (L + 1)) s m args below meth c (QE below E (cellsM E r.1 ++ wx) (some (.int r.2)) args s) E 7 (cellsM E g ++ wx) [(0, .ref (aE E 28 0)), (1, .int l1), (2, .int l2), (3, .int l3), (4, .int l4), (5, .int l5)] [] 71 := by
  unfold fX11_readWord_j71 at h
  refine v_aload_n C 0 (dk dcX11_readWord_0 38 rfl) rfl rfl ?_
  refine gt_Mo_words C wd_1129 (dk dcX11_readWord_0 39 rfl) ?_
  refine v_iload_n C 1 (dk dcX11_readWord_0 40 rfl) rfl rfl ?_
  obtain ⟨b_1, h⟩ := gd_t h
  refine ld_m_words C b_1 (dk dcX11_readWord_0 41 rfl) ?_
  refine v_bipush C 32 (dk dcX11_readWord_0 42 rfl) kb_32 ?_
  refine v_icmp_eq C 86 (dk dcX11_readWord_0 43 rfl) (by decide) (fun c_2 => ?_) (fun c_2 => ?_)
  · replace h := if_t c_2 h
    refine v_iconst C 0 (dk dcX11_readWord_0 46 rfl) ki_0 ?_
    exact vj_sub [0, 1, 2, 3, 4, 5] rfl (vX11_readWord_j87 hL C hK9 hK27 _ h)
  · replace h := if_f c_2 h
    refine v_iconst C 1 (dk dcX11_readWord_0 44 rfl) ki_1 ?_
    refine v_goto C 87 (dk dcX11_readWord_0 45 rfl) (by decide) ?_
    exact vj_sub [0, 1, 2, 3, 4, 5] rfl (vX11_readWord_j87 hL C hK9 hK27 _ h)
set_option maxRecDepth 20000 in
set_option maxHeartbeats 4000000 in
theorem vX11_readWord_j68 {L : Nat} (hL : 3 ≤ L) (C : CX p s m args meth c cX11_readWord 7 RX11 (some .int) E) {g : STt} {l1 : Int32} {l2 : Int32} {l3 : Int32} {l4 : Int32} {K9 : (Int32 × Int32 × Int32) → Option (STt × Int32)} (hK9 : ∀ {l1 : Int32} {l2 : Int32} {l3 : Int32} (r : STt × Int32), K9 (l1, l2, l3) = some r → VJ p l e (rmL (L + 1)) s m args below meth c (QE below E (cellsM E r.1 ++ wx) (some (.int r.2)) args s) E 7 (cellsM E g ++ wx) [(0, .ref (aE E 28 0)), (1, .int l1), (2, .int l2), (3, .int l3)] [] 9) {K27 : (Int32 × Int32 × Int32 × Int32) → Option (STt × Int32)} (hK27 : ∀ {l1 : Int32} {l4 : Int32} {l5 : Int32} {l6 : Int32} (r : STt × Int32), K27 (l1, l4, l5, l6) = some r → VJ p l e (rmL (L + 1)) s m args below meth c (QE below E (cellsM E r.1 ++ wx) (some (.int r.2)) args s) E 7 (cellsM E g ++ wx) [(0, .ref (aE E 28 0)), (1, .int l1), (2, .int l2), (3, .int l3), (4, .int l4), (5, .int l5), (6, .int l6)] [] 27) (r : STt × Int32) (h : fX11_readWord_j68 K9 K27 g l1 l2 l3 l4 = some r) : VJ p l e (rmL (L + 1)) s m args below meth c (QE below E (cellsM E r.1 ++ wx) (some (.int r.2)) args s) E 7 (cellsM E g ++ wx) [(0, .ref (aE E 28 0)), (1, .int l1), (2, .int l2), (3, .int l3), (4, .int l4)] [] 68 := by
  unfold fX11_readWord_j68 at h
  refine v_iconst C 0 (dk dcX11_readWord_0 36 rfl) ki_0 ?_
  refine v_istore C (lv' := [(5, .int 0), (0, .ref (aE E 28 0)), (1, .int l1), (2, .int l2), (3, .int l3), (4, .int l4)]) (dk dcX11_readWord_0 37 rfl) (by decide) rfl ?_
  exact vj_sub [1, 2, 3, 4, 5, 0] rfl (vX11_readWord_j71 hL C hK9 hK27 _ h)
set_option maxRecDepth 20000 in
set_option maxHeartbeats 4000000 in
theorem vX11_readWord_l27c {L : Nat} (hL : 3 ≤ L) (C : CX p s m args meth c cX11_readWord 7 RX11 (some .int) E) {g : STt} {l2 : Int32} {l3 : Int32} {K9 : (Int32 × Int32 × Int32) → Option (STt × Int32)} (hK9 : ∀ {l1 : Int32} {l2 : Int32} {l3 : Int32} (r : STt × Int32), K9 (l1, l2, l3) = some r → VJ p l e (rmL (L + 1)) s m args below meth c (QE below E (cellsM E r.1 ++ wx) (some (.int r.2)) args s) E 7 (cellsM E g ++ wx) [(0, .ref (aE E 28 0)), (1, .int l1), (2, .int l2), (3, .int l3)] [] 9) {K27 : (Int32 × Int32 × Int32 × Int32) → Option (STt × Int32)} (hK27 : ∀ {l1 : Int32} {l4 : Int32} {l5 : Int32} {l6 : Int32} (r : STt × Int32), K27 (l1, l4, l5, l6) = some r → VJ p l e (rmL (L + 1)) s m args below meth c (QE below E (cellsM E r.1 ++ wx) (some (.int r.2)) args s) E 7 (cellsM E g ++ wx) [(0, .ref (aE E 28 0)), (1, .int l1), (2, .int l2), (3, .int l3), (4, .int l4), (5, .int l5), (6, .int l6)] [] 27) {l1 : Int32} {l4 : Int32} {l5 : Int32} {l6 : Int32} (r : STt × Int32) (h : fX11_readWord_l27c K9 K27 g l2 l3 l1 l4 l5 l6 = some r) : VJ p l e (rmL (L + 1)) s m args below meth c (QE below E (cellsM E r.1 ++ wx) (some (.int r.2)) args s) E 7 (cellsM E g ++ wx) [(0, .ref (aE E 28 0)), (1, .int l1), (2, .int l2), (3, .int l3), (4, .int l4), (5, .int l5), (6, .int l6)] [] 27 := by
  unfold fX11_readWord_l27c at h
  refine v_iload C 6 (dk dcX11_readWord_0 17 rfl) rfl ?_
  refine v_if_eq C 95 (dk dcX11_readWord_0 18 rfl) (by decide) (fun c_1 => ?_) (fun c_1 => ?_)
  · replace h := if_t c_1 h
    refine v_iload C 5 (dk dcX11_readWord_1 2 rfl) rfl ?_
    refine v_if_eq C 108 (dk dcX11_readWord_1 3 rfl) (by decide) (fun c_2 => ?_) (fun c_2 => ?_)
    · replace h := if_t c_2 h
      refine v_iload C 4 (dk dcX11_readWord_1 9 rfl) rfl ?_
      refine v_iload_n C 2 (dk dcX11_readWord_1 10 rfl) rfl rfl ?_
      refine v_icmp_le C 117 (dk dcX11_readWord_1 11 rfl) (by decide) (fun c_3 => ?_) (fun c_3 => ?_)
      · replace h := if_t c_3 h
        exact vj_sub [0, 1, 2, 3] rfl (vX11_readWord_j117 hL C hK9 _ h)
      · replace h := if_f c_3 h
        refine v_iload C 4 (dk dcX11_readWord_1 12 rfl) rfl ?_
        refine v_istore_n C (lv' := [(2, .int l4), (0, .ref (aE E 28 0)), (1, .int l1), (3, .int l3), (4, .int l4), (5, .int l5), (6, .int l6)]) (dk dcX11_readWord_1 13 rfl) rfl (by decide) rfl ?_
        exact vj_sub [1, 2, 0, 3] rfl (vX11_readWord_j117 hL C hK9 _ h)
    · replace h := if_f c_2 h
      refine v_aload_n C 0 (dk dcX11_readWord_1 4 rfl) rfl rfl ?_
      refine v_iload C 4 (dk dcX11_readWord_1 5 rfl) rfl ?_
      refine pt_Mo_here C wd_1126 (dk dcX11_readWord_1 6 rfl) ?_
      refine v_iload_n C 3 (dk dcX11_readWord_1 7 rfl) rfl rfl ?_
      cases h
      exact v_iret C rfl (dk dcX11_readWord_1 8 rfl)
  · replace h := if_f c_1 h
    refine v_iload C 5 (dk dcX11_readWord_0 19 rfl) rfl ?_
    refine v_if_eq C 68 (dk dcX11_readWord_0 20 rfl) (by decide) (fun c_2 => ?_) (fun c_2 => ?_)
    · replace h := if_t c_2 h
      exact vj_sub [0, 1, 2, 3, 4] rfl (vX11_readWord_j68 hL C hK9 hK27 _ h)
    · replace h := if_f c_2 h
      refine v_iload C 4 (dk dcX11_readWord_0 21 rfl) rfl ?_
      refine v_aload_n C 0 (dk dcX11_readWord_0 22 rfl) rfl rfl ?_
      refine gt_Mo_taped C wd_1114 (dk dcX11_readWord_0 23 rfl) ?_
      refine v_icmp_ge C 68 (dk dcX11_readWord_0 24 rfl) (by decide) (fun c_3 => ?_) (fun c_3 => ?_)
      · replace h := if_t c_3 h
        exact vj_sub [0, 1, 2, 3, 4] rfl (vX11_readWord_j68 hL C hK9 hK27 _ h)
      · replace h := if_f c_3 h
        refine v_aload_n C 0 (dk dcX11_readWord_0 25 rfl) rfl rfl ?_
        refine gt_Mo_tape C wd_1113 (dk dcX11_readWord_0 26 rfl) ?_
        refine v_iload C 4 (dk dcX11_readWord_0 27 rfl) rfl ?_
        obtain ⟨b_4, h⟩ := gd_t h
        refine ld_m_tape C b_4 (dk dcX11_readWord_0 28 rfl) ?_
        refine v_aload_n C 0 (dk dcX11_readWord_0 29 rfl) rfl rfl ?_
        refine gt_Mo_words C wd_1129 (dk dcX11_readWord_0 30 rfl) ?_
        refine v_iload_n C 1 (dk dcX11_readWord_0 31 rfl) rfl rfl ?_
        obtain ⟨b_5, h⟩ := gd_t h
        refine ld_m_words C b_5 (dk dcX11_readWord_0 32 rfl) ?_
        refine v_icmp_ne C 68 (dk dcX11_readWord_0 33 rfl) (by decide) (fun c_6 => ?_) (fun c_6 => ?_)
        · replace h := if_f c_6 h
          exact vj_sub [0, 1, 2, 3, 4] rfl (vX11_readWord_j68 hL C hK9 hK27 _ h)
        · replace h := if_t c_6 h
          refine v_iinc C (lv' := [(4, .int (l4 + 1)), (0, .ref (aE E 28 0)), (1, .int l1), (2, .int l2), (3, .int l3), (5, .int l5), (6, .int l6)]) (l4 + 1) 4 (dk dcX11_readWord_0 34 rfl) rfl (congrArg (fun z => l4 + z) ki_1) (by decide) rfl ?_
          refine v_goto C 71 (dk dcX11_readWord_0 35 rfl) (by decide) ?_
          exact vj_sub [1, 2, 3, 4, 0, 5] rfl (vX11_readWord_j71 hL C hK9 hK27 _ h)
set_option maxRecDepth 20000 in
set_option maxHeartbeats 4000000 in
theorem vX11_readWord_l27 {L : Nat} (hL : 3 ≤ L) (C : CX p s m args meth c cX11_readWord 7 RX11 (some .int) E) {g : STt} {l2 : Int32} {l3 : Int32} {K9 : (Int32 × Int32 × Int32) → Option (STt × Int32)} (hK9 : ∀ {l1 : Int32} {l2 : Int32} {l3 : Int32} (r : STt × Int32), K9 (l1, l2, l3) = some r → VJ p l e (rmL (L + 1)) s m args below meth c (QE below E (cellsM E r.1 ++ wx) (some (.int r.2)) args s) E 7 (cellsM E g ++ wx) [(0, .ref (aE E 28 0)), (1, .int l1), (2, .int l2), (3, .int l3)] [] 9) {l1 : Int32} {l4 : Int32} {l5 : Int32} {l6 : Int32} (r : STt × Int32) (h : fX11_readWord_l27 K9 g l2 l3 l1 l4 l5 l6 = some r) : VJ p l e (rmL (L + 1)) s m args below meth c (QE below E (cellsM E r.1 ++ wx) (some (.int r.2)) args s) E 7 (cellsM E g ++ wx) [(0, .ref (aE E 28 0)), (1, .int l1), (2, .int l2), (3, .int l3), (4, .int l4), (5, .int l5), (6, .int l6)] [] 27 :=
  iterO_ind (F := fun K z => fX11_readWord_l27c K9 K g l2 l3 z.1 z.2.1 z.2.2.1 z.2.2.2) (fun z r => VJ p l e (rmL (L + 1)) s m args below meth c (QE below E (cellsM E r.1 ++ wx) (some (.int r.2)) args s) E 7 (cellsM E g ++ wx) [(0, .ref (aE E 28 0)), (1, .int z.1), (2, .int l2), (3, .int l3), (4, .int z.2.1), (5, .int z.2.2.1), (6, .int z.2.2.2)] [] 27) (fun K hK z r h => vX11_readWord_l27c hL C hK9 (fun {l1} {l4} {l5} {l6} r h => hK (l1, l4, l5, l6) r h) r h) fuelN (l1, l4, l5, l6) r h
set_option maxRecDepth 20000 in
set_option maxHeartbeats 4000000 in
theorem vX11_readWord_l9c {L : Nat} (hL : 3 ≤ L) (C : CX p s m args meth c cX11_readWord 7 RX11 (some .int) E) {g : STt} {K9 : (Int32 × Int32 × Int32) → Option (STt × Int32)} (hK9 : ∀ {l1 : Int32} {l2 : Int32} {l3 : Int32} (r : STt × Int32), K9 (l1, l2, l3) = some r → VJ p l e (rmL (L + 1)) s m args below meth c (QE below E (cellsM E r.1 ++ wx) (some (.int r.2)) args s) E 7 (cellsM E g ++ wx) [(0, .ref (aE E 28 0)), (1, .int l1), (2, .int l2), (3, .int l3)] [] 9) {l1 : Int32} {l2 : Int32} {l3 : Int32} (r : STt × Int32) (h : fX11_readWord_l9c K9 g l1 l2 l3 = some r) : VJ p l e (rmL (L + 1)) s m args below meth c (QE below E (cellsM E r.1 ++ wx) (some (.int r.2)) args s) E 7 (cellsM E g ++ wx) [(0, .ref (aE E 28 0)), (1, .int l1), (2, .int l2), (3, .int l3)] [] 9 := by
  unfold fX11_readWord_l9c at h
  refine v_iload_n C 3 (dk dcX11_readWord_0 7 rfl) rfl rfl ?_
  refine v_bipush C 6 (dk dcX11_readWord_0 8 rfl) kb_6 ?_
  refine v_icmp_gt C 123 (dk dcX11_readWord_0 9 rfl) (by decide) (fun c_1 => ?_) (fun c_1 => ?_)
  · replace h := if_t c_1 h
    refine v_aload_n C 0 (dk dcX11_readWord_1 16 rfl) rfl rfl ?_
    refine v_iload_n C 2 (dk dcX11_readWord_1 17 rfl) rfl rfl ?_
    refine pt_Mo_here C wd_1126 (dk dcX11_readWord_1 18 rfl) ?_
    refine v_aload_n C 0 (dk dcX11_readWord_1 19 rfl) rfl rfl ?_
    obtain ⟨g_3, h_2, h⟩ := bnd1_s h
    refine v_callV0 C (mtX11_faulty (L - 1) (by omega) h_2) wmX11_faulty wd_1313 (by omega) (by decide) rfl _ (ce_Mo) rfl rfl (Nat.le_of_ble_eq_true rfl) (dk dcX11_readWord_1 20 rfl) ?_
    refine v_iconst C (-1) (dk dcX11_readWord_1 21 rfl) ki_m1 ?_
    cases h
    exact v_iret C rfl (dk dcX11_readWord_1 22 rfl)
  · replace h := if_f c_1 h
    refine v_aload_n C 0 (dk dcX11_readWord_0 10 rfl) rfl rfl ?_
    refine gt_Mo_here C wd_1126 (dk dcX11_readWord_0 11 rfl) ?_
    refine v_istore C (lv' := [(4, .int (g.1 37 0)), (0, .ref (aE E 28 0)), (1, .int l1), (2, .int l2), (3, .int l3)]) (dk dcX11_readWord_0 12 rfl) (by decide) rfl ?_
    refine v_iconst C 1 (dk dcX11_readWord_0 13 rfl) ki_1 ?_
    refine v_istore C (lv' := [(5, .int 1), (4, .int (g.1 37 0)), (0, .ref (aE E 28 0)), (1, .int l1), (2, .int l2), (3, .int l3)]) (dk dcX11_readWord_0 14 rfl) (by decide) rfl ?_
    refine v_iconst C 1 (dk dcX11_readWord_0 15 rfl) ki_1 ?_
    refine v_istore C (lv' := [(6, .int 1), (5, .int 1), (4, .int (g.1 37 0)), (0, .ref (aE E 28 0)), (1, .int l1), (2, .int l2), (3, .int l3)]) (dk dcX11_readWord_0 16 rfl) (by decide) rfl ?_
    exact vj_sub [3, 4, 5, 6, 2, 1, 0] rfl (vX11_readWord_l27 hL C hK9 _ h)
set_option maxRecDepth 20000 in
set_option maxHeartbeats 4000000 in
theorem vX11_readWord_l9 {L : Nat} (hL : 3 ≤ L) (C : CX p s m args meth c cX11_readWord 7 RX11 (some .int) E) {g : STt} {l1 : Int32} {l2 : Int32} {l3 : Int32} (r : STt × Int32) (h : fX11_readWord_l9 g l1 l2 l3 = some r) : VJ p l e (rmL (L + 1)) s m args below meth c (QE below E (cellsM E r.1 ++ wx) (some (.int r.2)) args s) E 7 (cellsM E g ++ wx) [(0, .ref (aE E 28 0)), (1, .int l1), (2, .int l2), (3, .int l3)] [] 9 :=
  iterO_ind (F := fun K z => fX11_readWord_l9c K g z.1 z.2.1 z.2.2) (fun z r => VJ p l e (rmL (L + 1)) s m args below meth c (QE below E (cellsM E r.1 ++ wx) (some (.int r.2)) args s) E 7 (cellsM E g ++ wx) [(0, .ref (aE E 28 0)), (1, .int z.1), (2, .int z.2.1), (3, .int z.2.2)] [] 9) (fun K hK z r h => vX11_readWord_l9c hL C (fun {l1} {l2} {l3} r h => hK (l1, l2, l3) r h) r h) fuelN (l1, l2, l3) r h
set_option maxRecDepth 20000 in
set_option maxHeartbeats 4000000 in
theorem mtX11_readWord {l : Launch} {E : WEt} {wx : va_W} (L : Nat) (hL : 3 ≤ L)  {g : STt} {g' : STt} {rr : Int32} (h : fX11_readWord g = some (g', rr)) : MT l E yX11_readWord cX11_readWord 7 (some .int) (L + 1) [.ref (aE E 28 0)] (cellsM E g ++ wx) (cellsM E g' ++ wx) (some (.int rr)) := by
  refine mt_of (by decide +kernel) (Nat.le_of_ble_eq_true rfl) ?_
  intro p e s m args below meth c C
  replace C : CX p s m args meth c cX11_readWord 7 RX11 (some .int) E := C
  unfold fX11_readWord at h
  refine vj_sub (lv' := [(0, .ref (aE E 28 0))]) [0] rfl ?_
  refine v_iconst C 0 (dk dcX11_readWord_0 0 rfl) ki_0 ?_
  refine v_istore_n C (lv' := [(1, .int 0), (0, .ref (aE E 28 0))]) (dk dcX11_readWord_0 1 rfl) rfl (by decide) rfl ?_
  refine v_aload_n C 1 (dk dcX11_readWord_0 2 rfl) rfl rfl ?_
  refine gt_Mo_here C wd_1126 (dk dcX11_readWord_0 3 rfl) ?_
  refine v_istore_n C (lv' := [(2, .int (g.1 37 0)), (1, .int 0), (0, .ref (aE E 28 0))]) (dk dcX11_readWord_0 4 rfl) rfl (by decide) rfl ?_
  refine v_iconst C 0 (dk dcX11_readWord_0 5 rfl) ki_0 ?_
  refine v_istore_n C (lv' := [(3, .int 0), (2, .int (g.1 37 0)), (1, .int 0), (0, .ref (aE E 28 0))]) (dk dcX11_readWord_0 6 rfl) rfl (by decide) rfl ?_
  exact vj_sub [3, 2, 1, 0] rfl (vX11_readWord_l9 hL C _ h)
set_option maxRecDepth 20000 in
set_option maxHeartbeats 4000000 in
theorem vX11_clause_j87 {L : Nat} (hL : 326 ≤ L) (C : CX p s m args meth c cX11_clause 2 RX11 none E) {g : STt} {l1 : Int32} (r : STt) (h : fX11_clause_j87 g l1 = some r) : VJ p l e (rmL (L + 1)) s m args below meth c (QE below E (cellsM E r ++ wx) (none) args s) E 2 (cellsM E g ++ wx) [(0, .ref (aE E 28 0)), (1, .int l1)] [] 87 := by
  unfold fX11_clause_j87 at h
  refine v_aload_n C 0 (dk dcX11_clause_1 1 rfl) rfl rfl ?_
  refine gt_Mo_clauseTo C wd_1121 (dk dcX11_clause_1 2 rfl) ?_
  refine v_iload_n C 1 (dk dcX11_clause_1 3 rfl) rfl rfl ?_
  refine v_aload_n C 0 (dk dcX11_clause_1 4 rfl) rfl rfl ?_
  refine gt_Mo_laid C wd_1128 (dk dcX11_clause_1 5 rfl) ?_
  obtain ⟨b_1, h⟩ := gd_t h
  refine st_m_clauseTo C b_1 (dk dcX11_clause_1 6 rfl) ?_
  refine v_aload_n C 0 (dk dcX11_clause_1 7 rfl) rfl rfl ?_
  refine gt_Mo_clauseMany C wd_1117 (dk dcX11_clause_1 8 rfl) ?_
  refine v_aload_n C 0 (dk dcX11_clause_1 9 rfl) rfl rfl ?_
  refine gt_Mo_laws C wd_1115 (dk dcX11_clause_1 10 rfl) ?_
  refine v_dup2 C rfl rfl (dk dcX11_clause_1 11 rfl) ?_
  obtain ⟨b_2, h⟩ := gd_t h
  refine ld_m_clauseMany C b_2 (dk dcX11_clause_1 12 rfl) ?_
  refine v_iconst C 1 (dk dcX11_clause_1 13 rfl) ki_1 ?_
  refine v_iadd C (dk dcX11_clause_1 14 rfl) ?_
  obtain ⟨b_3, h⟩ := gd_t h
  refine st_m_clauseMany C b_3 (dk dcX11_clause_1 15 rfl) ?_
  cases h
  exact v_vret C rfl (dk dcX11_clause_1 16 rfl)
set_option maxRecDepth 20000 in
set_option maxHeartbeats 4000000 in
theorem vX11_clause_j48 {L : Nat} (hL : 326 ≤ L) (C : CX p s m args meth c cX11_clause 2 RX11 none E) {g : STt} {l1 : Int32} {s0 : Int32} {s1 : Int32} (r : STt) (h : fX11_clause_j48 g l1 s0 s1 = some r) : VJ p l e (rmL (L + 1)) s m args below meth c (QE below E (cellsM E r ++ wx) (none) args s) E 2 (cellsM E g ++ wx) [(0, .ref (aE E 28 0)), (1, .int l1)] [.int s0, .int s1, .ref (aE E 36 0)] 48 := by
  unfold fX11_clause_j48 at h
  obtain ⟨b_1, h⟩ := gd_t h
  refine st_m_clauseN C b_1 (dk dcX11_clause_0 27 rfl) ?_
  refine v_aload_n C 0 (dk dcX11_clause_0 28 rfl) rfl rfl ?_
  refine gt_Mo_clauseFrom C wd_1120 (dk dcX11_clause_0 29 rfl) ?_
  refine v_iload_n C 1 (dk dcX11_clause_0 30 rfl) rfl rfl ?_
  refine v_aload_n C 0 (dk dcX11_clause_0 31 rfl) rfl rfl ?_
  refine gt_Mo_laid C wd_1128 (dk dcX11_clause_0 32 rfl) ?_
  obtain ⟨b_2, h⟩ := gd_t h
  refine st_m_clauseFrom C b_2 (dk dcX11_clause_0 33 rfl) ?_
  refine v_aload_n C 0 (dk dcX11_clause_0 34 rfl) rfl rfl ?_
  refine gt_Mo_fault C wd_1127 (dk dcX11_clause_0 35 rfl) ?_
  refine v_if_ge C 87 (dk dcX11_clause_0 36 rfl) (by decide) (fun c_3 => ?_) (fun c_3 => ?_)
  · replace h := if_t c_3 h
    exact vj_sub [0, 1] rfl (vX11_clause_j87 hL C _ h)
  · replace h := if_f c_3 h
    refine v_aload_n C 0 (dk dcX11_clause_0 37 rfl) rfl rfl ?_
    refine gt_Mo_clauseIs C wd_1118 (dk dcX11_clause_0 38 rfl) ?_
    refine v_iload_n C 1 (dk dcX11_clause_0 39 rfl) rfl rfl ?_
    obtain ⟨b_4, h⟩ := gd_t h
    refine ld_m_clauseIs C b_4 (dk dcX11_clause_0 40 rfl) ?_
    refine v_iconst C 2 (dk dcX11_clause_0 41 rfl) ki_2 ?_
    refine v_icmp_gt C 87 (dk dcX11_clause_0 42 rfl) (by decide) (fun c_5 => ?_) (fun c_5 => ?_)
    · replace h := if_t c_5 h
      exact vj_sub [0, 1] rfl (vX11_clause_j87 hL C _ h)
    · replace h := if_f c_5 h
      refine v_aload_n C 0 (dk dcX11_clause_0 43 rfl) rfl rfl ?_
      refine v_bipush C 32 (dk dcX11_clause_0 44 rfl) kb_32 ?_
      obtain ⟨g_7, h_6, h⟩ := bnd1_s h
      refine v_callV0 C (mtX11_takes (L - 1) (by omega) h_6) wmX11_takes wd_1325 (by omega) (by decide) rfl _ (ce_Mo) rfl rfl (Nat.le_of_ble_eq_true rfl) (dk dcX11_clause_0 45 rfl) ?_
      refine v_aload_n C 0 (dk dcX11_clause_0 46 rfl) rfl rfl ?_
      refine v_iconst C 0 (dk dcX11_clause_0 47 rfl) ki_0 ?_
      obtain ⟨g_9, h_8, h⟩ := bnd1_s h
      refine v_callV0 C (mtX11_either (L - 1) (by omega) h_8) wmX11_either wd_1333 (by omega) (by decide) rfl _ (ce_Mo) rfl rfl (Nat.le_of_ble_eq_true rfl) (dk dcX11_clause_1 0 rfl) ?_
      exact vj_sub [0, 1] rfl (vX11_clause_j87 hL C _ h)
set_option maxRecDepth 20000 in
set_option maxHeartbeats 4000000 in
theorem mtX11_clause {l : Launch} {E : WEt} {wx : va_W} (L : Nat) (hL : 326 ≤ L)  {g : STt} {g' : STt} (h : fX11_clause g = some g') : MT l E yX11_clause cX11_clause 2 none (L + 1) [.ref (aE E 28 0)] (cellsM E g ++ wx) (cellsM E g' ++ wx) none := by
  refine mt_of (by decide +kernel) (Nat.le_of_ble_eq_true rfl) ?_
  intro p e s m args below meth c C
  replace C : CX p s m args meth c cX11_clause 2 RX11 none E := C
  unfold fX11_clause at h
  refine vj_sub (lv' := [(0, .ref (aE E 28 0))]) [0] rfl ?_
  refine v_bipush C 10 (dk dcX11_clause_0 0 rfl) kb_10 ?_
  refine v_aload_n C 0 (dk dcX11_clause_0 1 rfl) rfl rfl ?_
  refine gt_Mo_laws C wd_1115 (dk dcX11_clause_0 2 rfl) ?_
  refine v_imul C (dk dcX11_clause_0 3 rfl) ?_
  refine v_aload_n C 0 (dk dcX11_clause_0 4 rfl) rfl rfl ?_
  refine gt_Mo_clauseMany C wd_1117 (dk dcX11_clause_0 5 rfl) ?_
  refine v_aload_n C 0 (dk dcX11_clause_0 6 rfl) rfl rfl ?_
  refine gt_Mo_laws C wd_1115 (dk dcX11_clause_0 7 rfl) ?_
  obtain ⟨b_1, h⟩ := gd_t h
  refine ld_m_clauseMany C b_1 (dk dcX11_clause_0 8 rfl) ?_
  refine v_iadd C (dk dcX11_clause_0 9 rfl) ?_
  refine v_istore_n C (lv' := [(1, .int ((10 * (g.1 35 0)) + (g.2.1 59 0 (g.1 35 0).toNatClampNeg))), (0, .ref (aE E 28 0))]) (dk dcX11_clause_0 10 rfl) rfl (by decide) rfl ?_
  refine v_aload_n C 1 (dk dcX11_clause_0 11 rfl) rfl rfl ?_
  refine gt_Mo_clauseIs C wd_1118 (dk dcX11_clause_0 12 rfl) ?_
  refine v_iload_n C 0 (dk dcX11_clause_0 13 rfl) rfl rfl ?_
  refine v_aload_n C 1 (dk dcX11_clause_0 14 rfl) rfl rfl ?_
  obtain ⟨g_3, r_4, h_2, h⟩ := bnd_s h
  refine v_callV1 C (mtX11_readWord (L - 1) (by omega) h_2) wmX11_readWord wd_1309 (by omega) (by decide) rfl _ (ce_Mo) rfl rfl (Nat.le_of_ble_eq_true rfl) (dk dcX11_clause_0 15 rfl) ?_
  obtain ⟨b_5, h⟩ := gd_t h
  refine st_m_clauseIs C b_5 (dk dcX11_clause_0 16 rfl) ?_
  refine v_aload_n C 1 (dk dcX11_clause_0 17 rfl) rfl rfl ?_
  refine gt_Mo_clauseN C wd_1119 (dk dcX11_clause_0 18 rfl) ?_
  refine v_iload_n C 0 (dk dcX11_clause_0 19 rfl) rfl rfl ?_
  refine v_aload_n C 1 (dk dcX11_clause_0 20 rfl) rfl rfl ?_
  refine gt_Mo_fault C wd_1127 (dk dcX11_clause_0 21 rfl) ?_
  refine v_if_ge C 47 (dk dcX11_clause_0 22 rfl) (by decide) (fun c_6 => ?_) (fun c_6 => ?_)
  · replace h := if_t c_6 h
    refine v_iconst C 0 (dk dcX11_clause_0 26 rfl) ki_0 ?_
    exact vj_sub [1, 0] rfl (vX11_clause_j48 hL C _ h)
  · replace h := if_f c_6 h
    refine v_aload_n C 1 (dk dcX11_clause_0 23 rfl) rfl rfl ?_
    obtain ⟨g_8, r_9, h_7, h⟩ := bnd_s h
    refine v_callV1 C (mtX11_readNumber (L - 1) (by omega) h_7) wmX11_readNumber wd_1317 (by omega) (by decide) rfl _ (ce_Mo) rfl rfl (Nat.le_of_ble_eq_true rfl) (dk dcX11_clause_0 24 rfl) ?_
    refine v_goto C 48 (dk dcX11_clause_0 25 rfl) (by decide) ?_
    exact vj_sub [1, 0] rfl (vX11_clause_j48 hL C _ h)
set_option maxRecDepth 20000 in
set_option maxHeartbeats 4000000 in
theorem vX11_law_j96 {L : Nat} (hL : 327 ≤ L) (C : CX p s m args meth c cX11_law 1 RX11 (some .int) E) {g : STt} (r : STt × Int32) (h : fX11_law_j96 g = some r) : VJ p l e (rmL (L + 1)) s m args below meth c (QE below E (cellsM E r.1 ++ wx) (some (.int r.2)) args s) E 1 (cellsM E g ++ wx) [(0, .ref (aE E 28 0))] [] 96 := by
  unfold fX11_law_j96 at h
  refine v_aload_n C 0 (dk dcX11_law_1 2 rfl) rfl rfl ?_
  refine v_iconst C 0 (dk dcX11_law_1 3 rfl) ki_0 ?_
  refine pt_Mo_taped C wd_1114 (dk dcX11_law_1 4 rfl) ?_
  refine v_aload_n C 0 (dk dcX11_law_1 5 rfl) rfl rfl ?_
  refine gt_Mo_fault C wd_1127 (dk dcX11_law_1 6 rfl) ?_
  refine v_if_lt C 116 (dk dcX11_law_1 7 rfl) (by decide) (fun c_1 => ?_) (fun c_1 => ?_)
  · replace h := if_t c_1 h
    refine v_aload_n C 0 (dk dcX11_law_1 13 rfl) rfl rfl ?_
    refine v_aload_n C 0 (dk dcX11_law_1 14 rfl) rfl rfl ?_
    refine gt_Mo_laws C wd_1115 (dk dcX11_law_1 15 rfl) ?_
    refine pt_Mo_holds C wd_1116 (dk dcX11_law_1 16 rfl) ?_
    refine v_aload_n C 0 (dk dcX11_law_1 17 rfl) rfl rfl ?_
    refine v_dup C rfl (dk dcX11_law_1 18 rfl) ?_
    refine gt_Mo_laws C wd_1115 (dk dcX11_law_1 19 rfl) ?_
    refine v_iconst C 1 (dk dcX11_law_1 20 rfl) ki_1 ?_
    refine v_iadd C (dk dcX11_law_1 21 rfl) ?_
    refine pt_Mo_laws C wd_1115 (dk dcX11_law_1 22 rfl) ?_
    refine v_aload_n C 0 (dk dcX11_law_1 23 rfl) rfl rfl ?_
    refine gt_Mo_laws C wd_1115 (dk dcX11_law_1 24 rfl) ?_
    refine v_iconst C 1 (dk dcX11_law_1 25 rfl) ki_1 ?_
    refine v_isub C (dk dcX11_law_1 26 rfl) ?_
    cases h
    exact v_iret C rfl (dk dcX11_law_1 27 rfl)
  · replace h := if_f c_1 h
    refine v_bipush C (-10) (dk dcX11_law_1 8 rfl) kb_m10 ?_
    refine v_aload_n C 0 (dk dcX11_law_1 9 rfl) rfl rfl ?_
    refine gt_Mo_fault C wd_1127 (dk dcX11_law_1 10 rfl) ?_
    refine v_isub C (dk dcX11_law_1 11 rfl) ?_
    cases h
    exact v_iret C rfl (dk dcX11_law_1 12 rfl)
set_option maxRecDepth 20000 in
set_option maxHeartbeats 4000000 in
theorem vX11_law_j81 {L : Nat} (hL : 327 ≤ L) (C : CX p s m args meth c cX11_law 1 RX11 (some .int) E) {g : STt} (r : STt × Int32) (h : fX11_law_j81 g = some r) : VJ p l e (rmL (L + 1)) s m args below meth c (QE below E (cellsM E r.1 ++ wx) (some (.int r.2)) args s) E 1 (cellsM E g ++ wx) [(0, .ref (aE E 28 0))] [] 81 := by
  unfold fX11_law_j81 at h
  refine v_aload_n C 0 (dk dcX11_law_0 43 rfl) rfl rfl ?_
  refine gt_Mo_here C wd_1126 (dk dcX11_law_0 44 rfl) ?_
  refine v_aload_n C 0 (dk dcX11_law_0 45 rfl) rfl rfl ?_
  refine gt_Mo_taped C wd_1114 (dk dcX11_law_0 46 rfl) ?_
  refine v_icmp_ge C 96 (dk dcX11_law_0 47 rfl) (by decide) (fun c_1 => ?_) (fun c_1 => ?_)
  · replace h := if_t c_1 h
    exact vj_sub [0] rfl (vX11_law_j96 hL C _ h)
  · replace h := if_f c_1 h
    refine v_aload_n C 0 (dk dcX11_law_1 0 rfl) rfl rfl ?_
    obtain ⟨g_3, h_2, h⟩ := bnd1_s h
    refine v_callV0 C (mtX11_faulty (L - 1) (by omega) h_2) wmX11_faulty wd_1313 (by omega) (by decide) rfl _ (ce_Mo) rfl rfl (Nat.le_of_ble_eq_true rfl) (dk dcX11_law_1 1 rfl) ?_
    exact vj_sub [0] rfl (vX11_law_j96 hL C _ h)
set_option maxRecDepth 20000 in
set_option maxHeartbeats 4000000 in
theorem vX11_law_l41c {L : Nat} (hL : 327 ≤ L) (C : CX p s m args meth c cX11_law 1 RX11 (some .int) E) {K41 : STt → Option (STt × Int32)} (hK41 : ∀ {g : STt} (r : STt × Int32), K41 (g) = some r → VJ p l e (rmL (L + 1)) s m args below meth c (QE below E (cellsM E r.1 ++ wx) (some (.int r.2)) args s) E 1 (cellsM E g ++ wx) [(0, .ref (aE E 28 0))] [] 41) {g : STt} (r : STt × Int32) (h : fX11_law_l41c K41 g = some r) : VJ p l e (rmL (L + 1)) s m args below meth c (QE below E (cellsM E r.1 ++ wx) (some (.int r.2)) args s) E 1 (cellsM E g ++ wx) [(0, .ref (aE E 28 0))] [] 41 := by
  unfold fX11_law_l41c at h
  refine v_aload_n C 0 (dk dcX11_law_0 23 rfl) rfl rfl ?_
  refine v_bipush C 59 (dk dcX11_law_0 24 rfl) kb_59 ?_
  obtain ⟨r_2, h_1, h⟩ := bnd1_s h
  refine v_callV1 C (mtX11_isHere (L - 1) (by omega) h_1) wmX11_isHere wd_1329 (by omega) (by decide) rfl _ (ce_Mo) rfl rfl (Nat.le_of_ble_eq_true rfl) (dk dcX11_law_0 25 rfl) ?_
  refine v_if_eq C 81 (dk dcX11_law_0 26 rfl) (by decide) (fun c_3 => ?_) (fun c_3 => ?_)
  · replace h := if_t c_3 h
    exact vj_sub [0] rfl (vX11_law_j81 hL C _ h)
  · replace h := if_f c_3 h
    refine v_aload_n C 0 (dk dcX11_law_0 27 rfl) rfl rfl ?_
    refine gt_Mo_clauseMany C wd_1117 (dk dcX11_law_0 28 rfl) ?_
    refine v_aload_n C 0 (dk dcX11_law_0 29 rfl) rfl rfl ?_
    refine gt_Mo_laws C wd_1115 (dk dcX11_law_0 30 rfl) ?_
    obtain ⟨b_4, h⟩ := gd_t h
    refine ld_m_clauseMany C b_4 (dk dcX11_law_0 31 rfl) ?_
    refine v_bipush C 10 (dk dcX11_law_0 32 rfl) kb_10 ?_
    refine v_icmp_ge C 81 (dk dcX11_law_0 33 rfl) (by decide) (fun c_5 => ?_) (fun c_5 => ?_)
    · replace h := if_t c_5 h
      exact vj_sub [0] rfl (vX11_law_j81 hL C _ h)
    · replace h := if_f c_5 h
      refine v_aload_n C 0 (dk dcX11_law_0 34 rfl) rfl rfl ?_
      refine v_dup C rfl (dk dcX11_law_0 35 rfl) ?_
      refine gt_Mo_here C wd_1126 (dk dcX11_law_0 36 rfl) ?_
      refine v_iconst C 1 (dk dcX11_law_0 37 rfl) ki_1 ?_
      refine v_iadd C (dk dcX11_law_0 38 rfl) ?_
      refine pt_Mo_here C wd_1126 (dk dcX11_law_0 39 rfl) ?_
      refine v_aload_n C 0 (dk dcX11_law_0 40 rfl) rfl rfl ?_
      obtain ⟨g_7, h_6, h⟩ := bnd1_s h
      refine v_callV0 C (mtX11_clause (L - 1) (by omega) h_6) wmX11_clause wd_1305 (by omega) (by decide) rfl _ (ce_Mo) rfl rfl (Nat.le_of_ble_eq_true rfl) (dk dcX11_law_0 41 rfl) ?_
      refine v_goto C 41 (dk dcX11_law_0 42 rfl) (by decide) ?_
      exact vj_sub [0] rfl (hK41 _ h)
set_option maxRecDepth 20000 in
set_option maxHeartbeats 4000000 in
theorem vX11_law_l41 {L : Nat} (hL : 327 ≤ L) (C : CX p s m args meth c cX11_law 1 RX11 (some .int) E) {g : STt} (r : STt × Int32) (h : fX11_law_l41 g = some r) : VJ p l e (rmL (L + 1)) s m args below meth c (QE below E (cellsM E r.1 ++ wx) (some (.int r.2)) args s) E 1 (cellsM E g ++ wx) [(0, .ref (aE E 28 0))] [] 41 :=
  iterO_ind (F := fun K z => fX11_law_l41c K z) (fun z r => VJ p l e (rmL (L + 1)) s m args below meth c (QE below E (cellsM E r.1 ++ wx) (some (.int r.2)) args s) E 1 (cellsM E z ++ wx) [(0, .ref (aE E 28 0))] [] 41) (fun K hK z r h => vX11_law_l41c hL C (fun {g} r h => hK (g) r h) r h) fuelN (g) r h
set_option maxRecDepth 20000 in
set_option maxHeartbeats 4000000 in
theorem mtX11_law {l : Launch} {E : WEt} {wx : va_W} (L : Nat) (hL : 327 ≤ L)  {g : STt} {g' : STt} {rr : Int32} (h : fX11_law g = some (g', rr)) : MT l E yX11_law cX11_law 1 (some .int) (L + 1) [.ref (aE E 28 0)] (cellsM E g ++ wx) (cellsM E g' ++ wx) (some (.int rr)) := by
  refine mt_of (by decide +kernel) (Nat.le_of_ble_eq_true rfl) ?_
  intro p e s m args below meth c C
  replace C : CX p s m args meth c cX11_law 1 RX11 (some .int) E := C
  unfold fX11_law at h
  refine vj_sub (lv' := [(0, .ref (aE E 28 0))]) [0] rfl ?_
  refine v_aload_n C 0 (dk dcX11_law_0 0 rfl) rfl rfl ?_
  refine gt_Mo_laws C wd_1115 (dk dcX11_law_0 1 rfl) ?_
  refine v_bipush C 6 (dk dcX11_law_0 2 rfl) kb_6 ?_
  refine v_icmp_ne C 12 (dk dcX11_law_0 3 rfl) (by decide) (fun c_1 => ?_) (fun c_1 => ?_)
  · replace h := if_f c_1 h
    refine v_aload_n C 0 (dk dcX11_law_0 6 rfl) rfl rfl ?_
    refine v_iconst C 0 (dk dcX11_law_0 7 rfl) ki_0 ?_
    refine pt_Mo_here C wd_1126 (dk dcX11_law_0 8 rfl) ?_
    refine v_aload_n C 0 (dk dcX11_law_0 9 rfl) rfl rfl ?_
    refine v_iconst C (-1) (dk dcX11_law_0 10 rfl) ki_m1 ?_
    refine pt_Mo_fault C wd_1127 (dk dcX11_law_0 11 rfl) ?_
    refine v_aload_n C 0 (dk dcX11_law_0 12 rfl) rfl rfl ?_
    refine v_iconst C 0 (dk dcX11_law_0 13 rfl) ki_0 ?_
    refine pt_Mo_laid C wd_1128 (dk dcX11_law_0 14 rfl) ?_
    refine v_aload_n C 0 (dk dcX11_law_0 15 rfl) rfl rfl ?_
    refine gt_Mo_clauseMany C wd_1117 (dk dcX11_law_0 16 rfl) ?_
    refine v_aload_n C 0 (dk dcX11_law_0 17 rfl) rfl rfl ?_
    refine gt_Mo_laws C wd_1115 (dk dcX11_law_0 18 rfl) ?_
    refine v_iconst C 0 (dk dcX11_law_0 19 rfl) ki_0 ?_
    obtain ⟨b_2, h⟩ := gd_t h
    refine st_m_clauseMany C b_2 (dk dcX11_law_0 20 rfl) ?_
    refine v_aload_n C 0 (dk dcX11_law_0 21 rfl) rfl rfl ?_
    obtain ⟨g_4, h_3, h⟩ := bnd1_s h
    refine v_callV0 C (mtX11_clause (L - 1) (by omega) h_3) wmX11_clause wd_1305 (by omega) (by decide) rfl _ (ce_Mo) rfl rfl (Nat.le_of_ble_eq_true rfl) (dk dcX11_law_0 22 rfl) ?_
    exact vj_sub [0] rfl (vX11_law_l41 hL C _ h)
  · replace h := if_t c_1 h
    refine v_bipush C (-4) (dk dcX11_law_0 4 rfl) kb_m4 ?_
    cases h
    exact v_iret C rfl (dk dcX11_law_0 5 rfl)
set_option maxRecDepth 20000 in
set_option maxHeartbeats 4000000 in
theorem vX11_judge_j143 {L : Nat} (hL : 10 ≤ L) (C : CX p s m args meth c cX11_judge 5 RX11 (some .int) E) {g : STt} {l3 : Int32} (r : STt × Int32) (h : fX11_judge_j143 g l3 = some r) : VJ p l e (rmL (L + 1)) s m args below meth c (QE below E (cellsM E r.1 ++ wx) (some (.int r.2)) args s) E 5 (cellsM E g ++ wx) [(0, .ref (aE E 28 0)), (3, .int l3)] [] 143 := by
  unfold fX11_judge_j143 at h
  refine v_aload_n C 0 (dk dcX11_judge_1 35 rfl) rfl rfl ?_
  obtain ⟨g_2, h_1, h⟩ := bnd1_s h
  refine v_callV0 C (mtX11_layBack (L - 1) (by omega) h_1) wmX11_layBack wd_1447 (by omega) (by decide) rfl _ (ce_Mo) rfl rfl (Nat.le_of_ble_eq_true rfl) (dk dcX11_judge_1 36 rfl) ?_
  refine v_iload_n C 1 (dk dcX11_judge_1 37 rfl) rfl rfl ?_
  cases h
  exact v_iret C rfl (dk dcX11_judge_1 38 rfl)
set_option maxRecDepth 20000 in
set_option maxHeartbeats 4000000 in
theorem vX11_judge_j137 {L : Nat} (hL : 10 ≤ L) (C : CX p s m args meth c cX11_judge 5 RX11 (some .int) E) {g : STt} {l1 : Int32} {l2 : Int32} {l3 : Int32} {l4 : Int32} {K57 : (STt × Int32 × Int32) → Option (STt × Int32)} (hK57 : ∀ {g : STt} {l3 : Int32} {l4 : Int32} (r : STt × Int32), K57 (g, l3, l4) = some r → VJ p l e (rmL (L + 1)) s m args below meth c (QE below E (cellsM E r.1 ++ wx) (some (.int r.2)) args s) E 5 (cellsM E g ++ wx) [(0, .ref (aE E 28 0)), (1, .int l1), (2, .int l2), (3, .int l3), (4, .int l4)] [] 57) (r : STt × Int32) (h : fX11_judge_j137 K57 g l1 l2 l3 l4 = some r) : VJ p l e (rmL (L + 1)) s m args below meth c (QE below E (cellsM E r.1 ++ wx) (some (.int r.2)) args s) E 5 (cellsM E g ++ wx) [(0, .ref (aE E 28 0)), (1, .int l1), (2, .int l2), (3, .int l3), (4, .int l4)] [] 137 := by
  unfold fX11_judge_j137 at h
  refine v_iinc C (lv' := [(4, .int (l4 + 1)), (0, .ref (aE E 28 0)), (1, .int l1), (2, .int l2), (3, .int l3)]) (l4 + 1) 4 (dk dcX11_judge_1 33 rfl) rfl (congrArg (fun z => l4 + z) ki_1) (by decide) rfl ?_
  refine v_goto C 57 (dk dcX11_judge_1 34 rfl) (by decide) ?_
  exact vj_sub [1, 2, 3, 4, 0] rfl (hK57 _ h)
set_option maxRecDepth 20000 in
set_option maxHeartbeats 4000000 in
theorem vX11_judge_l57c {L : Nat} (hL : 10 ≤ L) (C : CX p s m args meth c cX11_judge 5 RX11 (some .int) E) {l1 : Int32} {l2 : Int32} {K57 : (STt × Int32 × Int32) → Option (STt × Int32)} (hK57 : ∀ {g : STt} {l3 : Int32} {l4 : Int32} (r : STt × Int32), K57 (g, l3, l4) = some r → VJ p l e (rmL (L + 1)) s m args below meth c (QE below E (cellsM E r.1 ++ wx) (some (.int r.2)) args s) E 5 (cellsM E g ++ wx) [(0, .ref (aE E 28 0)), (1, .int l1), (2, .int l2), (3, .int l3), (4, .int l4)] [] 57) {g : STt} {l3 : Int32} {l4 : Int32} (r : STt × Int32) (h : fX11_judge_l57c K57 l1 l2 g l3 l4 = some r) : VJ p l e (rmL (L + 1)) s m args below meth c (QE below E (cellsM E r.1 ++ wx) (some (.int r.2)) args s) E 5 (cellsM E g ++ wx) [(0, .ref (aE E 28 0)), (1, .int l1), (2, .int l2), (3, .int l3), (4, .int l4)] [] 57 := by
  unfold fX11_judge_l57c at h
  refine v_iload C 4 (dk dcX11_judge_0 32 rfl) rfl ?_
  refine v_aload_n C 0 (dk dcX11_judge_0 33 rfl) rfl rfl ?_
  refine gt_Mo_rowMany C wd_1133 (dk dcX11_judge_0 34 rfl) ?_
  refine v_icmp_ge C 143 (dk dcX11_judge_0 35 rfl) (by decide) (fun c_1 => ?_) (fun c_1 => ?_)
  · replace h := if_t c_1 h
    exact vj_sub [0, 3] rfl (vX11_judge_j143 hL C _ h)
  · replace h := if_f c_1 h
    refine v_iload_n C 3 (dk dcX11_judge_0 36 rfl) rfl rfl ?_
    refine v_if_ge C 143 (dk dcX11_judge_0 37 rfl) (by decide) (fun c_2 => ?_) (fun c_2 => ?_)
    · replace h := if_t c_2 h
      exact vj_sub [0, 3] rfl (vX11_judge_j143 hL C _ h)
    · replace h := if_f c_2 h
      refine v_iload_n C 2 (dk dcX11_judge_0 38 rfl) rfl rfl ?_
      refine v_i2l C (dk dcX11_judge_0 39 rfl) ?_
      refine v_iload C 4 (dk dcX11_judge_0 40 rfl) rfl ?_
      refine v_i2l C (dk dcX11_judge_0 41 rfl) ?_
      refine v_ladd C (dk dcX11_judge_0 42 rfl) ?_
      refine v_aload_n C 0 (dk dcX11_judge_0 43 rfl) rfl rfl ?_
      refine gt_Mo_tapeSize C wd_1143 (dk dcX11_judge_0 44 rfl) ?_
      refine v_iload_n C 1 (dk dcX11_judge_0 45 rfl) rfl rfl ?_
      obtain ⟨b_3, h⟩ := gd_t h
      refine ld_m_tapeSize C b_3 (dk dcX11_judge_0 46 rfl) ?_
      refine v_i2l C (dk dcX11_judge_0 47 rfl) ?_
      refine v_lcmp C (dk dcX11_judge_1 0 rfl) ?_
      refine v_if_lt C 96 (dk dcX11_judge_1 1 rfl) (by decide) (fun c_4 => ?_) (fun c_4 => ?_)
      · replace h := if_t c_4 h
        refine v_aload_n C 0 (dk dcX11_judge_1 7 rfl) rfl rfl ?_
        refine v_aload_n C 0 (dk dcX11_judge_1 8 rfl) rfl rfl ?_
        refine gt_Mo_row C wd_1134 (dk dcX11_judge_1 9 rfl) ?_
        refine v_iload C 4 (dk dcX11_judge_1 10 rfl) rfl ?_
        obtain ⟨b_5, h⟩ := gd_t h
        refine ld_m_row C b_5 (dk dcX11_judge_1 11 rfl) ?_
        obtain ⟨g_7, r_8, h_6, h⟩ := bnd_s h
        refine v_callV1 C (mtX11_does (L - 1) (by omega) h_6) wmX11_does wd_1423 (by omega) (by decide) rfl _ (ce_Mo) rfl rfl (Nat.le_of_ble_eq_true rfl) (dk dcX11_judge_1 12 rfl) ?_
        refine v_pop C rfl (dk dcX11_judge_1 13 rfl) ?_
        refine v_aload_n C 0 (dk dcX11_judge_1 14 rfl) rfl rfl ?_
        refine gt_Mo_items C wd_1144 (dk dcX11_judge_1 15 rfl) ?_
        refine v_bipush C 60 (dk dcX11_judge_1 16 rfl) kb_60 ?_
        refine v_iload_n C 1 (dk dcX11_judge_1 17 rfl) rfl rfl ?_
        refine v_imul C (dk dcX11_judge_1 18 rfl) ?_
        refine v_iload_n C 2 (dk dcX11_judge_1 19 rfl) rfl rfl ?_
        refine v_iadd C (dk dcX11_judge_1 20 rfl) ?_
        refine v_iload C 4 (dk dcX11_judge_1 21 rfl) rfl ?_
        refine v_iadd C (dk dcX11_judge_1 22 rfl) ?_
        obtain ⟨b_9, h⟩ := gd_t h
        refine ld_m_items C b_9 (dk dcX11_judge_1 23 rfl) ?_
        refine v_aload_n C 0 (dk dcX11_judge_1 24 rfl) rfl rfl ?_
        refine gt_Mo_is C wd_1112 (dk dcX11_judge_1 25 rfl) ?_
        refine v_bipush C 12 (dk dcX11_judge_1 26 rfl) kb_12 ?_
        obtain ⟨b_10, h⟩ := gd_t h
        refine ld_m_is C b_10 (dk dcX11_judge_1 27 rfl) ?_
        refine v_i2l C (dk dcX11_judge_1 28 rfl) ?_
        refine v_lcmp C (dk dcX11_judge_1 29 rfl) ?_
        refine v_if_eq C 137 (dk dcX11_judge_1 30 rfl) (by decide) (fun c_11 => ?_) (fun c_11 => ?_)
        · replace h := if_t c_11 h
          exact vj_sub [0, 1, 2, 3, 4] rfl (vX11_judge_j137 hL C hK57 _ h)
        · replace h := if_f c_11 h
          refine v_iload C 4 (dk dcX11_judge_1 31 rfl) rfl ?_
          refine v_istore_n C (lv' := [(3, .int l4), (0, .ref (aE E 28 0)), (1, .int l1), (2, .int l2), (4, .int l4)]) (dk dcX11_judge_1 32 rfl) rfl (by decide) rfl ?_
          exact vj_sub [1, 2, 3, 0, 4] rfl (vX11_judge_j137 hL C hK57 _ h)
      · replace h := if_f c_4 h
        refine v_bipush C 100 (dk dcX11_judge_1 2 rfl) kb_100 ?_
        refine v_iload C 4 (dk dcX11_judge_1 3 rfl) rfl ?_
        refine v_iadd C (dk dcX11_judge_1 4 rfl) ?_
        refine v_istore_n C (lv' := [(3, .int (100 + l4)), (0, .ref (aE E 28 0)), (1, .int l1), (2, .int l2), (4, .int l4)]) (dk dcX11_judge_1 5 rfl) rfl (by decide) rfl ?_
        refine v_goto C 137 (dk dcX11_judge_1 6 rfl) (by decide) ?_
        exact vj_sub [1, 2, 3, 0, 4] rfl (vX11_judge_j137 hL C hK57 _ h)
set_option maxRecDepth 20000 in
set_option maxHeartbeats 4000000 in
theorem vX11_judge_l57 {L : Nat} (hL : 10 ≤ L) (C : CX p s m args meth c cX11_judge 5 RX11 (some .int) E) {l1 : Int32} {l2 : Int32} {g : STt} {l3 : Int32} {l4 : Int32} (r : STt × Int32) (h : fX11_judge_l57 l1 l2 g l3 l4 = some r) : VJ p l e (rmL (L + 1)) s m args below meth c (QE below E (cellsM E r.1 ++ wx) (some (.int r.2)) args s) E 5 (cellsM E g ++ wx) [(0, .ref (aE E 28 0)), (1, .int l1), (2, .int l2), (3, .int l3), (4, .int l4)] [] 57 :=
  iterO_ind (F := fun K z => fX11_judge_l57c K l1 l2 z.1 z.2.1 z.2.2) (fun z r => VJ p l e (rmL (L + 1)) s m args below meth c (QE below E (cellsM E r.1 ++ wx) (some (.int r.2)) args s) E 5 (cellsM E z.1 ++ wx) [(0, .ref (aE E 28 0)), (1, .int l1), (2, .int l2), (3, .int z.2.1), (4, .int z.2.2)] [] 57) (fun K hK z r h => vX11_judge_l57c hL C (fun {g} {l3} {l4} r h => hK (g, l3, l4) r h) r h) fuelN (g, l3, l4) r h
set_option maxRecDepth 20000 in
set_option maxHeartbeats 4000000 in
theorem mtX11_judge {l : Launch} {E : WEt} {wx : va_W} (L : Nat) (hL : 10 ≤ L)  {g : STt} {x1 : Int32} {x2 : Int32} {g' : STt} {rr : Int32} (h : fX11_judge g x1 x2 = some (g', rr)) : MT l E yX11_judge cX11_judge 5 (some .int) (L + 1) [.ref (aE E 28 0), .int x1, .int x2] (cellsM E g ++ wx) (cellsM E g' ++ wx) (some (.int rr)) := by
  refine mt_of (by decide +kernel) (Nat.le_of_ble_eq_true rfl) ?_
  intro p e s m args below meth c C
  replace C : CX p s m args meth c cX11_judge 5 RX11 (some .int) E := C
  unfold fX11_judge at h
  refine vj_sub (lv' := [(0, .ref (aE E 28 0)), (1, .int x1), (2, .int x2)]) [0, 1, 2] rfl ?_
  refine v_iload_n C 1 (dk dcX11_judge_0 0 rfl) rfl rfl ?_
  obtain ⟨r_2, h_1, h⟩ := bnd1_s h
  refine v_callS1 C (mtX11_isTape (L - 1) (by omega) h_1) wmX11_isTape wd_1526 (by omega) (by decide) rfl rfl (Nat.le_of_ble_eq_true rfl) (dk dcX11_judge_0 1 rfl) ?_
  refine v_if_ne C 9 (dk dcX11_judge_0 2 rfl) (by decide) (fun c_3 => ?_) (fun c_3 => ?_)
  · replace h := if_f c_3 h
    refine v_aload_n C 0 (dk dcX11_judge_0 5 rfl) rfl rfl ?_
    refine gt_Mo_tapeSort C wd_1142 (dk dcX11_judge_0 6 rfl) ?_
    refine v_iload_n C 1 (dk dcX11_judge_0 7 rfl) rfl rfl ?_
    obtain ⟨b_4, h⟩ := gd_t h
    refine ld_m_tapeSort C b_4 (dk dcX11_judge_0 8 rfl) ?_
    refine v_if_le C 21 (dk dcX11_judge_0 9 rfl) (by decide) (fun c_5 => ?_) (fun c_5 => ?_)
    · replace h := if_t c_5 h
      refine v_aload_n C 0 (dk dcX11_judge_0 12 rfl) rfl rfl ?_
      refine gt_Mo_rowMany C wd_1133 (dk dcX11_judge_0 13 rfl) ?_
      refine v_if_ne C 31 (dk dcX11_judge_0 14 rfl) (by decide) (fun c_6 => ?_) (fun c_6 => ?_)
      · replace h := if_f c_6 h
        refine v_aload_n C 0 (dk dcX11_judge_0 17 rfl) rfl rfl ?_
        refine gt_Mo_tapeSort C wd_1142 (dk dcX11_judge_0 18 rfl) ?_
        refine v_iload_n C 1 (dk dcX11_judge_0 19 rfl) rfl rfl ?_
        obtain ⟨b_7, h⟩ := gd_t h
        refine ld_m_tapeSort C b_7 (dk dcX11_judge_0 20 rfl) ?_
        refine v_if_lt C 44 (dk dcX11_judge_0 21 rfl) (by decide) (fun c_8 => ?_) (fun c_8 => ?_)
        · replace h := if_t c_8 h
          refine v_bipush C 100 (dk dcX11_judge_0 24 rfl) kb_100 ?_
          cases h
          exact v_iret C rfl (dk dcX11_judge_0 25 rfl)
        · replace h := if_f c_8 h
          refine v_iload_n C 2 (dk dcX11_judge_0 22 rfl) rfl rfl ?_
          refine v_if_ge C 47 (dk dcX11_judge_0 23 rfl) (by decide) (fun c_9 => ?_) (fun c_9 => ?_)
          · replace h := if_t c_9 h
            refine v_aload_n C 0 (dk dcX11_judge_0 26 rfl) rfl rfl ?_
            obtain ⟨g_11, h_10, h⟩ := bnd1_s h
            refine v_callV0 C (mtX11_keepNow (L - 1) (by omega) h_10) wmX11_keepNow wd_1443 (by omega) (by decide) rfl _ (ce_Mo) rfl rfl (Nat.le_of_ble_eq_true rfl) (dk dcX11_judge_0 27 rfl) ?_
            refine v_bipush C (-5) (dk dcX11_judge_0 28 rfl) kb_m5 ?_
            refine v_istore_n C (lv' := [(3, .int (-5)), (0, .ref (aE E 28 0)), (1, .int x1), (2, .int x2)]) (dk dcX11_judge_0 29 rfl) rfl (by decide) rfl ?_
            refine v_iconst C 0 (dk dcX11_judge_0 30 rfl) ki_0 ?_
            refine v_istore C (lv' := [(4, .int 0), (3, .int (-5)), (0, .ref (aE E 28 0)), (1, .int x1), (2, .int x2)]) (dk dcX11_judge_0 31 rfl) (by decide) rfl ?_
            exact vj_sub [2, 3, 4, 1, 0] rfl (vX11_judge_l57 hL C _ h)
          · replace h := if_f c_9 h
            refine v_bipush C 100 (dk dcX11_judge_0 24 rfl) kb_100 ?_
            cases h
            exact v_iret C rfl (dk dcX11_judge_0 25 rfl)
      · replace h := if_t c_6 h
        refine v_bipush C (-5) (dk dcX11_judge_0 15 rfl) kb_m5 ?_
        cases h
        exact v_iret C rfl (dk dcX11_judge_0 16 rfl)
    · replace h := if_f c_5 h
      refine v_bipush C (-12) (dk dcX11_judge_0 10 rfl) kb_m12 ?_
      cases h
      exact v_iret C rfl (dk dcX11_judge_0 11 rfl)
  · replace h := if_t c_3 h
    refine v_iconst C (-1) (dk dcX11_judge_0 3 rfl) ki_m1 ?_
    cases h
    exact v_iret C rfl (dk dcX11_judge_0 4 rfl)
set_option maxRecDepth 20000 in
set_option maxHeartbeats 4000000 in
theorem mtX11_as {l : Launch} {E : WEt} {wx : va_W} (L : Nat) (hL : 2 ≤ L)  {g : STt} {x0 : Int32} {x1 : Int64} {rr : Int64} (h : fX11_as g x0 x1 = some rr) : MT l E yX11_as cX11_as 3 (some .long) (L + 1) [.int x0, .long x1] (cellsM E g ++ wx) (cellsM E g ++ wx) (some (.long rr)) := by
  refine mt_of (by decide +kernel) (Nat.le_of_ble_eq_true rfl) ?_
  intro p e s m args below meth c C
  replace C : CX p s m args meth c cX11_as 3 RX11 (some .long) E := C
  unfold fX11_as at h
  refine vj_sub (lv' := [(0, .int x0), (1, .long x1)]) [0, 1] rfl ?_
  refine v_iload_n C 0 (dk dcX11_as_0 0 rfl) rfl rfl ?_
  by_cases c_1 : x0 = 0
  · replace h := if_t c_1 h
    refine v_tableIn C 32 (dk dcX11_as_0 1 rfl) (by rw [c_1]; decide) (by rw [c_1]; decide) (by rw [c_1]; rfl) (by decide) ?_
    refine v_lload_n C 1 (dk dcX11_as_0 2 rfl) rfl rfl ?_
    refine v_l2i C (dk dcX11_as_0 3 rfl) ?_
    refine v_i2b C (dk dcX11_as_0 4 rfl) ?_
    refine v_i2l C (dk dcX11_as_0 5 rfl) ?_
    cases h
    exact v_lret C rfl (dk dcX11_as_0 6 rfl)
  · replace h := if_f c_1 h
    by_cases c_2 : x0 = 1
    · replace h := if_t c_2 h
      refine v_tableIn C 37 (dk dcX11_as_0 1 rfl) (by rw [c_2]; decide) (by rw [c_2]; decide) (by rw [c_2]; rfl) (by decide) ?_
      refine v_lload_n C 1 (dk dcX11_as_0 7 rfl) rfl rfl ?_
      refine v_l2i C (dk dcX11_as_0 8 rfl) ?_
      refine v_i2s C (dk dcX11_as_0 9 rfl) ?_
      refine v_i2l C (dk dcX11_as_0 10 rfl) ?_
      cases h
      exact v_lret C rfl (dk dcX11_as_0 11 rfl)
    · replace h := if_f c_2 h
      by_cases c_3 : x0 = 2
      · replace h := if_t c_3 h
        refine v_tableIn C 42 (dk dcX11_as_0 1 rfl) (by rw [c_3]; decide) (by rw [c_3]; decide) (by rw [c_3]; rfl) (by decide) ?_
        refine v_lload_n C 1 (dk dcX11_as_0 12 rfl) rfl rfl ?_
        refine v_l2i C (dk dcX11_as_0 13 rfl) ?_
        refine v_i2l C (dk dcX11_as_0 14 rfl) ?_
        cases h
        exact v_lret C rfl (dk dcX11_as_0 15 rfl)
      · replace h := if_f c_3 h
        by_cases c_4 : x0 = 3
        · replace h := if_t c_4 h
          refine v_tableIn C 46 (dk dcX11_as_0 1 rfl) (by rw [c_4]; decide) (by rw [c_4]; decide) (by rw [c_4]; rfl) (by decide) ?_
          refine v_lload_n C 1 (dk dcX11_as_0 16 rfl) rfl rfl ?_
          cases h
          exact v_lret C rfl (dk dcX11_as_0 17 rfl)
        · replace h := if_f c_4 h
          have ec_1 := i32_ne (k := 0) c_1 (by decide)
          have ec_2 := i32_ne (k := 1) c_2 (by decide)
          have ec_3 := i32_ne (k := 2) c_3 (by decide)
          have ec_4 := i32_ne (k := 3) c_4 (by decide)
          refine v_tableOut C 48 (dk dcX11_as_0 1 rfl) (by omega) (by decide) ?_
          refine v_lload_n C 1 (dk dcX11_as_0 18 rfl) rfl rfl ?_
          refine v_lconst C 0 (dk dcX11_as_0 19 rfl) rfl ?_
          refine v_lcmp C (dk dcX11_as_0 20 rfl) ?_
          refine v_if_ne C 58 (dk dcX11_as_0 21 rfl) (by decide) (fun c_5 => ?_) (fun c_5 => ?_)
          · replace h := if_f c_5 h
            refine v_lconst C 1 (dk dcX11_as_0 24 rfl) rfl ?_
            cases h
            exact v_lret C rfl (dk dcX11_as_0 25 rfl)
          · replace h := if_t c_5 h
            refine v_lconst C 0 (dk dcX11_as_0 22 rfl) rfl ?_
            refine v_goto C 59 (dk dcX11_as_0 23 rfl) (by decide) ?_
            cases h
            exact v_lret C rfl (dk dcX11_as_0 25 rfl)
set_option maxRecDepth 20000 in
set_option maxHeartbeats 4000000 in
theorem mtX11_item {l : Launch} {E : WEt} {wx : va_W} (L : Nat) (hL : 4 ≤ L)  {g : STt} {x1 : Int32} {x2 : Int32} {x3 : Int64} {g' : STt} {rr : Int32} (h : fX11_item g x1 x2 x3 = some (g', rr)) : MT l E yX11_item cX11_item 5 (some .int) (L + 1) [.ref (aE E 28 0), .int x1, .int x2, .long x3] (cellsM E g ++ wx) (cellsM E g' ++ wx) (some (.int rr)) := by
  refine mt_of (by decide +kernel) (Nat.le_of_ble_eq_true rfl) ?_
  intro p e s m args below meth c C
  replace C : CX p s m args meth c cX11_item 5 RX11 (some .int) E := C
  unfold fX11_item at h
  refine vj_sub (lv' := [(0, .ref (aE E 28 0)), (1, .int x1), (2, .int x2), (3, .long x3)]) [0, 1, 2, 3] rfl ?_
  refine v_iload_n C 1 (dk dcX11_item_0 0 rfl) rfl rfl ?_
  obtain ⟨r_2, h_1, h⟩ := bnd1_s h
  refine v_callS1 C (mtX11_isTape (L - 1) (by omega) h_1) wmX11_isTape wd_1526 (by omega) (by decide) rfl rfl (Nat.le_of_ble_eq_true rfl) (dk dcX11_item_0 1 rfl) ?_
  refine v_if_ne C 9 (dk dcX11_item_0 2 rfl) (by decide) (fun c_3 => ?_) (fun c_3 => ?_)
  · replace h := if_f c_3 h
    refine v_aload_n C 0 (dk dcX11_item_0 5 rfl) rfl rfl ?_
    refine gt_Mo_tapeSort C wd_1142 (dk dcX11_item_0 6 rfl) ?_
    refine v_iload_n C 1 (dk dcX11_item_0 7 rfl) rfl rfl ?_
    obtain ⟨b_4, h⟩ := gd_t h
    refine ld_m_tapeSort C b_4 (dk dcX11_item_0 8 rfl) ?_
    refine v_if_ge C 21 (dk dcX11_item_0 9 rfl) (by decide) (fun c_5 => ?_) (fun c_5 => ?_)
    · replace h := if_t c_5 h
      refine v_iload_n C 2 (dk dcX11_item_0 12 rfl) rfl rfl ?_
      refine v_iconst C 0 (dk dcX11_item_0 13 rfl) ki_0 ?_
      refine v_aload_n C 0 (dk dcX11_item_0 14 rfl) rfl rfl ?_
      refine gt_Mo_tapeSize C wd_1143 (dk dcX11_item_0 15 rfl) ?_
      refine v_iload_n C 1 (dk dcX11_item_0 16 rfl) rfl rfl ?_
      obtain ⟨b_6, h⟩ := gd_t h
      refine ld_m_tapeSize C b_6 (dk dcX11_item_0 17 rfl) ?_
      refine v_iconst C 1 (dk dcX11_item_0 18 rfl) ki_1 ?_
      refine v_isub C (dk dcX11_item_0 19 rfl) ?_
      obtain ⟨r_8, h_7, h⟩ := bnd1_s h
      refine v_callS1 C (mtX11_in (L - 1) (by omega) h_7) wmX11_in wd_1266 (by omega) (by decide) rfl rfl (Nat.le_of_ble_eq_true rfl) (dk dcX11_item_0 20 rfl) ?_
      refine v_if_ne C 40 (dk dcX11_item_0 21 rfl) (by decide) (fun c_9 => ?_) (fun c_9 => ?_)
      · replace h := if_f c_9 h
        refine v_aload_n C 0 (dk dcX11_item_0 24 rfl) rfl rfl ?_
        refine gt_Mo_items C wd_1144 (dk dcX11_item_0 25 rfl) ?_
        refine v_bipush C 60 (dk dcX11_item_0 26 rfl) kb_60 ?_
        refine v_iload_n C 1 (dk dcX11_item_0 27 rfl) rfl rfl ?_
        refine v_imul C (dk dcX11_item_0 28 rfl) ?_
        refine v_iload_n C 2 (dk dcX11_item_0 29 rfl) rfl rfl ?_
        refine v_iadd C (dk dcX11_item_0 30 rfl) ?_
        refine v_aload_n C 0 (dk dcX11_item_0 31 rfl) rfl rfl ?_
        refine gt_Mo_tapeSort C wd_1142 (dk dcX11_item_0 32 rfl) ?_
        refine v_iload_n C 1 (dk dcX11_item_0 33 rfl) rfl rfl ?_
        obtain ⟨b_10, h⟩ := gd_t h
        refine ld_m_tapeSort C b_10 (dk dcX11_item_0 34 rfl) ?_
        refine v_lload_n C 3 (dk dcX11_item_0 35 rfl) rfl rfl ?_
        obtain ⟨r_12, h_11, h⟩ := bnd1_s h
        refine v_callS1 C (mtX11_as (L - 1) (by omega) h_11) wmX11_as wd_1604 (by omega) (by decide) rfl rfl (Nat.le_of_ble_eq_true rfl) (dk dcX11_item_0 36 rfl) ?_
        obtain ⟨b_13, h⟩ := gd_t h
        refine st_m_items C b_13 (dk dcX11_item_0 37 rfl) ?_
        refine v_iconst C 1 (dk dcX11_item_0 38 rfl) ki_1 ?_
        cases h
        exact v_iret C rfl (dk dcX11_item_0 39 rfl)
      · replace h := if_t c_9 h
        refine v_bipush C (-13) (dk dcX11_item_0 22 rfl) kb_m13 ?_
        cases h
        exact v_iret C rfl (dk dcX11_item_0 23 rfl)
    · replace h := if_f c_5 h
      refine v_bipush C (-11) (dk dcX11_item_0 10 rfl) kb_m11 ?_
      cases h
      exact v_iret C rfl (dk dcX11_item_0 11 rfl)
  · replace h := if_t c_3 h
    refine v_iconst C (-1) (dk dcX11_item_0 3 rfl) ki_m1 ?_
    cases h
    exact v_iret C rfl (dk dcX11_item_0 4 rfl)
set_option maxRecDepth 20000 in
set_option maxHeartbeats 4000000 in
theorem vX11_image_l111c {L : Nat} (hL : 2 ≤ L) (C : CX p s m args meth c cX11_image 2 RX11 (some .int) E) {K111 : (STt × Int32) → Option (STt × Int32)} (hK111 : ∀ {g : STt} {l1 : Int32} (r : STt × Int32), K111 (g, l1) = some r → VJ p l e (rmL (L + 1)) s m args below meth c (QE below E (cellsM E r.1 ++ wx) (some (.int r.2)) args s) E 2 (cellsM E g ++ wx) [(0, .ref (aE E 28 0)), (1, .int l1)] [] 111) {g : STt} {l1 : Int32} (r : STt × Int32) (h : fX11_image_l111c K111 g l1 = some r) : VJ p l e (rmL (L + 1)) s m args below meth c (QE below E (cellsM E r.1 ++ wx) (some (.int r.2)) args s) E 2 (cellsM E g ++ wx) [(0, .ref (aE E 28 0)), (1, .int l1)] [] 111 := by
  unfold fX11_image_l111c at h
  refine v_iload_n C 1 (dk dcX11_image_1 15 rfl) rfl rfl ?_
  refine v_iconst C 4 (dk dcX11_image_1 16 rfl) ki_4 ?_
  refine v_icmp_ge C 134 (dk dcX11_image_1 17 rfl) (by decide) (fun c_1 => ?_) (fun c_1 => ?_)
  · replace h := if_t c_1 h
    refine v_aload_n C 0 (dk dcX11_image_1 28 rfl) rfl rfl ?_
    refine gt_Mo_is C wd_1112 (dk dcX11_image_1 29 rfl) ?_
    refine v_bipush C 12 (dk dcX11_image_1 30 rfl) kb_12 ?_
    obtain ⟨b_2, h⟩ := gd_t h
    refine ld_m_is C b_2 (dk dcX11_image_1 31 rfl) ?_
    cases h
    exact v_iret C rfl (dk dcX11_image_1 32 rfl)
  · replace h := if_f c_1 h
    refine v_aload_n C 0 (dk dcX11_image_1 18 rfl) rfl rfl ?_
    refine gt_Mo_keptFear C wd_1155 (dk dcX11_image_1 19 rfl) ?_
    refine v_iload_n C 1 (dk dcX11_image_1 20 rfl) rfl rfl ?_
    refine v_aload_n C 0 (dk dcX11_image_1 21 rfl) rfl rfl ?_
    refine gt_Mo_beastFear C wd_1139 (dk dcX11_image_1 22 rfl) ?_
    refine v_iload_n C 1 (dk dcX11_image_1 23 rfl) rfl rfl ?_
    obtain ⟨b_2, h⟩ := gd_t h
    refine ld_m_beastFear C b_2 (dk dcX11_image_1 24 rfl) ?_
    obtain ⟨b_3, h⟩ := gd_t h
    refine st_m_keptFear C b_3 (dk dcX11_image_1 25 rfl) ?_
    refine v_iinc C (lv' := [(1, .int (l1 + 1)), (0, .ref (aE E 28 0))]) (l1 + 1) 1 (dk dcX11_image_1 26 rfl) rfl (congrArg (fun z => l1 + z) ki_1) (by decide) rfl ?_
    refine v_goto C 111 (dk dcX11_image_1 27 rfl) (by decide) ?_
    exact vj_sub [1, 0] rfl (hK111 _ h)
set_option maxRecDepth 20000 in
set_option maxHeartbeats 4000000 in
theorem vX11_image_l111 {L : Nat} (hL : 2 ≤ L) (C : CX p s m args meth c cX11_image 2 RX11 (some .int) E) {g : STt} {l1 : Int32} (r : STt × Int32) (h : fX11_image_l111 g l1 = some r) : VJ p l e (rmL (L + 1)) s m args below meth c (QE below E (cellsM E r.1 ++ wx) (some (.int r.2)) args s) E 2 (cellsM E g ++ wx) [(0, .ref (aE E 28 0)), (1, .int l1)] [] 111 :=
  iterO_ind (F := fun K z => fX11_image_l111c K z.1 z.2) (fun z r => VJ p l e (rmL (L + 1)) s m args below meth c (QE below E (cellsM E r.1 ++ wx) (some (.int r.2)) args s) E 2 (cellsM E z.1 ++ wx) [(0, .ref (aE E 28 0)), (1, .int z.2)] [] 111) (fun K hK z r h => vX11_image_l111c hL C (fun {g} {l1} r h => hK (g, l1) r h) r h) fuelN (g, l1) r h
set_option maxRecDepth 20000 in
set_option maxHeartbeats 4000000 in
theorem vX11_image_l73c {L : Nat} (hL : 2 ≤ L) (C : CX p s m args meth c cX11_image 2 RX11 (some .int) E) {K73 : (STt × Int32) → Option (STt × Int32)} (hK73 : ∀ {g : STt} {l1 : Int32} (r : STt × Int32), K73 (g, l1) = some r → VJ p l e (rmL (L + 1)) s m args below meth c (QE below E (cellsM E r.1 ++ wx) (some (.int r.2)) args s) E 2 (cellsM E g ++ wx) [(0, .ref (aE E 28 0)), (1, .int l1)] [] 73) {g : STt} {l1 : Int32} (r : STt × Int32) (h : fX11_image_l73c K73 g l1 = some r) : VJ p l e (rmL (L + 1)) s m args below meth c (QE below E (cellsM E r.1 ++ wx) (some (.int r.2)) args s) E 2 (cellsM E g ++ wx) [(0, .ref (aE E 28 0)), (1, .int l1)] [] 73 := by
  unfold fX11_image_l73c at h
  refine v_iload_n C 1 (dk dcX11_image_0 40 rfl) rfl rfl ?_
  refine v_bipush C 12 (dk dcX11_image_0 41 rfl) kb_12 ?_
  refine v_icmp_ge C 109 (dk dcX11_image_0 42 rfl) (by decide) (fun c_1 => ?_) (fun c_1 => ?_)
  · replace h := if_t c_1 h
    refine v_iconst C 0 (dk dcX11_image_1 13 rfl) ki_0 ?_
    refine v_istore_n C (lv' := [(1, .int 0), (0, .ref (aE E 28 0))]) (dk dcX11_image_1 14 rfl) rfl (by decide) rfl ?_
    exact vj_sub [1, 0] rfl (vX11_image_l111 hL C _ h)
  · replace h := if_f c_1 h
    refine v_aload_n C 0 (dk dcX11_image_0 43 rfl) rfl rfl ?_
    refine gt_Mo_keptRow C wd_1153 (dk dcX11_image_0 44 rfl) ?_
    refine v_iload_n C 1 (dk dcX11_image_0 45 rfl) rfl rfl ?_
    refine v_aload_n C 0 (dk dcX11_image_0 46 rfl) rfl rfl ?_
    refine gt_Mo_row C wd_1134 (dk dcX11_image_0 47 rfl) ?_
    refine v_iload_n C 1 (dk dcX11_image_1 0 rfl) rfl rfl ?_
    obtain ⟨b_2, h⟩ := gd_t h
    refine ld_m_row C b_2 (dk dcX11_image_1 1 rfl) ?_
    obtain ⟨b_3, h⟩ := gd_t h
    refine st_m_keptRow C b_3 (dk dcX11_image_1 2 rfl) ?_
    refine v_aload_n C 0 (dk dcX11_image_1 3 rfl) rfl rfl ?_
    refine gt_Mo_keptFilm C wd_1154 (dk dcX11_image_1 4 rfl) ?_
    refine v_iload_n C 1 (dk dcX11_image_1 5 rfl) rfl rfl ?_
    refine v_aload_n C 0 (dk dcX11_image_1 6 rfl) rfl rfl ?_
    refine gt_Mo_film C wd_1141 (dk dcX11_image_1 7 rfl) ?_
    refine v_iload_n C 1 (dk dcX11_image_1 8 rfl) rfl rfl ?_
    obtain ⟨b_4, h⟩ := gd_t h
    refine ld_m_film C b_4 (dk dcX11_image_1 9 rfl) ?_
    obtain ⟨b_5, h⟩ := gd_t h
    refine st_m_keptFilm C b_5 (dk dcX11_image_1 10 rfl) ?_
    refine v_iinc C (lv' := [(1, .int (l1 + 1)), (0, .ref (aE E 28 0))]) (l1 + 1) 1 (dk dcX11_image_1 11 rfl) rfl (congrArg (fun z => l1 + z) ki_1) (by decide) rfl ?_
    refine v_goto C 73 (dk dcX11_image_1 12 rfl) (by decide) ?_
    exact vj_sub [1, 0] rfl (hK73 _ h)
set_option maxRecDepth 20000 in
set_option maxHeartbeats 4000000 in
theorem vX11_image_l73 {L : Nat} (hL : 2 ≤ L) (C : CX p s m args meth c cX11_image 2 RX11 (some .int) E) {g : STt} {l1 : Int32} (r : STt × Int32) (h : fX11_image_l73 g l1 = some r) : VJ p l e (rmL (L + 1)) s m args below meth c (QE below E (cellsM E r.1 ++ wx) (some (.int r.2)) args s) E 2 (cellsM E g ++ wx) [(0, .ref (aE E 28 0)), (1, .int l1)] [] 73 :=
  iterO_ind (F := fun K z => fX11_image_l73c K z.1 z.2) (fun z r => VJ p l e (rmL (L + 1)) s m args below meth c (QE below E (cellsM E r.1 ++ wx) (some (.int r.2)) args s) E 2 (cellsM E z.1 ++ wx) [(0, .ref (aE E 28 0)), (1, .int z.2)] [] 73) (fun K hK z r h => vX11_image_l73c hL C (fun {g} {l1} r h => hK (g, l1) r h) r h) fuelN (g, l1) r h
set_option maxRecDepth 20000 in
set_option maxHeartbeats 4000000 in
theorem vX11_image_l47c {L : Nat} (hL : 2 ≤ L) (C : CX p s m args meth c cX11_image 2 RX11 (some .int) E) {K47 : (STt × Int32) → Option (STt × Int32)} (hK47 : ∀ {g : STt} {l1 : Int32} (r : STt × Int32), K47 (g, l1) = some r → VJ p l e (rmL (L + 1)) s m args below meth c (QE below E (cellsM E r.1 ++ wx) (some (.int r.2)) args s) E 2 (cellsM E g ++ wx) [(0, .ref (aE E 28 0)), (1, .int l1)] [] 47) {g : STt} {l1 : Int32} (r : STt × Int32) (h : fX11_image_l47c K47 g l1 = some r) : VJ p l e (rmL (L + 1)) s m args below meth c (QE below E (cellsM E r.1 ++ wx) (some (.int r.2)) args s) E 2 (cellsM E g ++ wx) [(0, .ref (aE E 28 0)), (1, .int l1)] [] 47 := by
  unfold fX11_image_l47c at h
  refine v_iload_n C 1 (dk dcX11_image_0 25 rfl) rfl rfl ?_
  refine v_bipush C 15 (dk dcX11_image_0 26 rfl) kb_15 ?_
  refine v_icmp_ge C 71 (dk dcX11_image_0 27 rfl) (by decide) (fun c_1 => ?_) (fun c_1 => ?_)
  · replace h := if_t c_1 h
    refine v_iconst C 0 (dk dcX11_image_0 38 rfl) ki_0 ?_
    refine v_istore_n C (lv' := [(1, .int 0), (0, .ref (aE E 28 0))]) (dk dcX11_image_0 39 rfl) rfl (by decide) rfl ?_
    exact vj_sub [1, 0] rfl (vX11_image_l73 hL C _ h)
  · replace h := if_f c_1 h
    refine v_aload_n C 0 (dk dcX11_image_0 28 rfl) rfl rfl ?_
    refine gt_Mo_keptIs C wd_1152 (dk dcX11_image_0 29 rfl) ?_
    refine v_iload_n C 1 (dk dcX11_image_0 30 rfl) rfl rfl ?_
    refine v_aload_n C 0 (dk dcX11_image_0 31 rfl) rfl rfl ?_
    refine gt_Mo_is C wd_1112 (dk dcX11_image_0 32 rfl) ?_
    refine v_iload_n C 1 (dk dcX11_image_0 33 rfl) rfl rfl ?_
    obtain ⟨b_2, h⟩ := gd_t h
    refine ld_m_is C b_2 (dk dcX11_image_0 34 rfl) ?_
    obtain ⟨b_3, h⟩ := gd_t h
    refine st_m_keptIs C b_3 (dk dcX11_image_0 35 rfl) ?_
    refine v_iinc C (lv' := [(1, .int (l1 + 1)), (0, .ref (aE E 28 0))]) (l1 + 1) 1 (dk dcX11_image_0 36 rfl) rfl (congrArg (fun z => l1 + z) ki_1) (by decide) rfl ?_
    refine v_goto C 47 (dk dcX11_image_0 37 rfl) (by decide) ?_
    exact vj_sub [1, 0] rfl (hK47 _ h)
set_option maxRecDepth 20000 in
set_option maxHeartbeats 4000000 in
theorem vX11_image_l47 {L : Nat} (hL : 2 ≤ L) (C : CX p s m args meth c cX11_image 2 RX11 (some .int) E) {g : STt} {l1 : Int32} (r : STt × Int32) (h : fX11_image_l47 g l1 = some r) : VJ p l e (rmL (L + 1)) s m args below meth c (QE below E (cellsM E r.1 ++ wx) (some (.int r.2)) args s) E 2 (cellsM E g ++ wx) [(0, .ref (aE E 28 0)), (1, .int l1)] [] 47 :=
  iterO_ind (F := fun K z => fX11_image_l47c K z.1 z.2) (fun z r => VJ p l e (rmL (L + 1)) s m args below meth c (QE below E (cellsM E r.1 ++ wx) (some (.int r.2)) args s) E 2 (cellsM E z.1 ++ wx) [(0, .ref (aE E 28 0)), (1, .int z.2)] [] 47) (fun K hK z r h => vX11_image_l47c hL C (fun {g} {l1} r h => hK (g, l1) r h) r h) fuelN (g, l1) r h
set_option maxRecDepth 20000 in
set_option maxHeartbeats 4000000 in
theorem mtX11_image {l : Launch} {E : WEt} {wx : va_W} (L : Nat) (hL : 2 ≤ L)  {g : STt} {g' : STt} {rr : Int32} (h : fX11_image g = some (g', rr)) : MT l E yX11_image cX11_image 2 (some .int) (L + 1) [.ref (aE E 28 0)] (cellsM E g ++ wx) (cellsM E g' ++ wx) (some (.int rr)) := by
  refine mt_of (by decide +kernel) (Nat.le_of_ble_eq_true rfl) ?_
  intro p e s m args below meth c C
  replace C : CX p s m args meth c cX11_image 2 RX11 (some .int) E := C
  unfold fX11_image at h
  refine vj_sub (lv' := [(0, .ref (aE E 28 0))]) [0] rfl ?_
  refine v_aload_n C 0 (dk dcX11_image_0 0 rfl) rfl rfl ?_
  refine v_iconst C 1 (dk dcX11_image_0 1 rfl) ki_1 ?_
  refine pt_Mo_hasImage C rfl rfl wd_1146 (dk dcX11_image_0 2 rfl) ?_
  refine v_aload_n C 0 (dk dcX11_image_0 3 rfl) rfl rfl ?_
  refine v_aload_n C 0 (dk dcX11_image_0 4 rfl) rfl rfl ?_
  refine gt_Mo_holds C wd_1116 (dk dcX11_image_0 5 rfl) ?_
  refine pt_Mo_keptHolds C wd_1147 (dk dcX11_image_0 6 rfl) ?_
  refine v_aload_n C 0 (dk dcX11_image_0 7 rfl) rfl rfl ?_
  refine v_aload_n C 0 (dk dcX11_image_0 8 rfl) rfl rfl ?_
  refine gt_Mo_odds C wd_1137 (dk dcX11_image_0 9 rfl) ?_
  refine pt_Mo_keptOdds C wd_1148 (dk dcX11_image_0 10 rfl) ?_
  refine v_aload_n C 0 (dk dcX11_image_0 11 rfl) rfl rfl ?_
  refine v_aload_n C 0 (dk dcX11_image_0 12 rfl) rfl rfl ?_
  refine gt_Mo_rowMany C wd_1133 (dk dcX11_image_0 13 rfl) ?_
  refine pt_Mo_keptRows C wd_1149 (dk dcX11_image_0 14 rfl) ?_
  refine v_aload_n C 0 (dk dcX11_image_0 15 rfl) rfl rfl ?_
  refine v_aload_n C 0 (dk dcX11_image_0 16 rfl) rfl rfl ?_
  refine gt_Mo_filmed C wd_1140 (dk dcX11_image_0 17 rfl) ?_
  refine pt_Mo_keptFilmed C wd_1150 (dk dcX11_image_0 18 rfl) ?_
  refine v_aload_n C 0 (dk dcX11_image_0 19 rfl) rfl rfl ?_
  refine v_aload_n C 0 (dk dcX11_image_0 20 rfl) rfl rfl ?_
  refine gt_Mo_beasts C wd_1138 (dk dcX11_image_0 21 rfl) ?_
  refine pt_Mo_keptBeasts C wd_1151 (dk dcX11_image_0 22 rfl) ?_
  refine v_iconst C 0 (dk dcX11_image_0 23 rfl) ki_0 ?_
  refine v_istore_n C (lv' := [(1, .int 0), (0, .ref (aE E 28 0))]) (dk dcX11_image_0 24 rfl) rfl (by decide) rfl ?_
  exact vj_sub [1, 0] rfl (vX11_image_l47 hL C _ h)
set_option maxRecDepth 20000 in
set_option maxHeartbeats 4000000 in
theorem vX11_hand_l33c {L : Nat} (hL : 10 ≤ L) (C : CX p s m args meth c cX11_hand 4 RX11 (some .int) E) {l1 : Int32} {l2 : Int32} {K33 : (STt × Int32) → Option (STt × Int32)} (hK33 : ∀ {g : STt} {l3 : Int32} (r : STt × Int32), K33 (g, l3) = some r → VJ p l e (rmL (L + 1)) s m args below meth c (QE below E (cellsM E r.1 ++ wx) (some (.int r.2)) args s) E 4 (cellsM E g ++ wx) [(0, .ref (aE E 28 0)), (1, .int l1), (2, .int l2), (3, .int l3)] [] 33) {g : STt} {l3 : Int32} (r : STt × Int32) (h : fX11_hand_l33c K33 l1 l2 g l3 = some r) : VJ p l e (rmL (L + 1)) s m args below meth c (QE below E (cellsM E r.1 ++ wx) (some (.int r.2)) args s) E 4 (cellsM E g ++ wx) [(0, .ref (aE E 28 0)), (1, .int l1), (2, .int l2), (3, .int l3)] [] 33 := by
  unfold fX11_hand_l33c at h
  refine v_iload_n C 3 (dk dcX11_hand_0 19 rfl) rfl rfl ?_
  refine v_iload_n C 1 (dk dcX11_hand_0 20 rfl) rfl rfl ?_
  refine v_icmp_ge C 55 (dk dcX11_hand_0 21 rfl) (by decide) (fun c_1 => ?_) (fun c_1 => ?_)
  · replace h := if_t c_1 h
    refine v_aload_n C 0 (dk dcX11_hand_0 31 rfl) rfl rfl ?_
    refine v_iload_n C 2 (dk dcX11_hand_0 32 rfl) rfl rfl ?_
    obtain ⟨r_3, h_2, h⟩ := bnd1_s h
    refine v_callV1 C (mtX11_nowOf (L - 1) (by omega) h_2) wmX11_nowOf wd_1289 (by omega) (by decide) rfl _ (ce_Mo) rfl rfl (Nat.le_of_ble_eq_true rfl) (dk dcX11_hand_0 33 rfl) ?_
    refine v_istore_n C (lv' := [(3, .int r_3), (0, .ref (aE E 28 0)), (1, .int l1), (2, .int l2)]) (dk dcX11_hand_0 34 rfl) rfl (by decide) rfl ?_
    refine v_aload_n C 1 (dk dcX11_hand_0 35 rfl) rfl rfl ?_
    obtain ⟨g_5, h_4, h⟩ := bnd1_s h
    refine v_callV0 C (mtX11_layBack (L - 1) (by omega) h_4) wmX11_layBack wd_1447 (by omega) (by decide) rfl _ (ce_Mo) rfl rfl (Nat.le_of_ble_eq_true rfl) (dk dcX11_hand_0 36 rfl) ?_
    refine v_iload_n C 0 (dk dcX11_hand_0 37 rfl) rfl rfl ?_
    cases h
    exact v_iret C rfl (dk dcX11_hand_0 38 rfl)
  · replace h := if_f c_1 h
    refine v_aload_n C 0 (dk dcX11_hand_0 22 rfl) rfl rfl ?_
    refine v_aload_n C 0 (dk dcX11_hand_0 23 rfl) rfl rfl ?_
    refine gt_Mo_row C wd_1134 (dk dcX11_hand_0 24 rfl) ?_
    refine v_iload_n C 3 (dk dcX11_hand_0 25 rfl) rfl rfl ?_
    obtain ⟨b_2, h⟩ := gd_t h
    refine ld_m_row C b_2 (dk dcX11_hand_0 26 rfl) ?_
    obtain ⟨g_4, r_5, h_3, h⟩ := bnd_s h
    refine v_callV1 C (mtX11_does (L - 1) (by omega) h_3) wmX11_does wd_1423 (by omega) (by decide) rfl _ (ce_Mo) rfl rfl (Nat.le_of_ble_eq_true rfl) (dk dcX11_hand_0 27 rfl) ?_
    refine v_pop C rfl (dk dcX11_hand_0 28 rfl) ?_
    refine v_iinc C (lv' := [(3, .int (l3 + 1)), (0, .ref (aE E 28 0)), (1, .int l1), (2, .int l2)]) (l3 + 1) 3 (dk dcX11_hand_0 29 rfl) rfl (congrArg (fun z => l3 + z) ki_1) (by decide) rfl ?_
    refine v_goto C 33 (dk dcX11_hand_0 30 rfl) (by decide) ?_
    exact vj_sub [1, 2, 3, 0] rfl (hK33 _ h)
set_option maxRecDepth 20000 in
set_option maxHeartbeats 4000000 in
theorem vX11_hand_l33 {L : Nat} (hL : 10 ≤ L) (C : CX p s m args meth c cX11_hand 4 RX11 (some .int) E) {l1 : Int32} {l2 : Int32} {g : STt} {l3 : Int32} (r : STt × Int32) (h : fX11_hand_l33 l1 l2 g l3 = some r) : VJ p l e (rmL (L + 1)) s m args below meth c (QE below E (cellsM E r.1 ++ wx) (some (.int r.2)) args s) E 4 (cellsM E g ++ wx) [(0, .ref (aE E 28 0)), (1, .int l1), (2, .int l2), (3, .int l3)] [] 33 :=
  iterO_ind (F := fun K z => fX11_hand_l33c K l1 l2 z.1 z.2) (fun z r => VJ p l e (rmL (L + 1)) s m args below meth c (QE below E (cellsM E r.1 ++ wx) (some (.int r.2)) args s) E 4 (cellsM E z.1 ++ wx) [(0, .ref (aE E 28 0)), (1, .int l1), (2, .int l2), (3, .int z.2)] [] 33) (fun K hK z r h => vX11_hand_l33c hL C (fun {g} {l3} r h => hK (g, l3) r h) r h) fuelN (g, l3) r h
set_option maxRecDepth 20000 in
set_option maxHeartbeats 4000000 in
theorem mtX11_hand {l : Launch} {E : WEt} {wx : va_W} (L : Nat) (hL : 10 ≤ L)  {g : STt} {x1 : Int32} {x2 : Int32} {g' : STt} {rr : Int32} (h : fX11_hand g x1 x2 = some (g', rr)) : MT l E yX11_hand cX11_hand 4 (some .int) (L + 1) [.ref (aE E 28 0), .int x1, .int x2] (cellsM E g ++ wx) (cellsM E g' ++ wx) (some (.int rr)) := by
  refine mt_of (by decide +kernel) (Nat.le_of_ble_eq_true rfl) ?_
  intro p e s m args below meth c C
  replace C : CX p s m args meth c cX11_hand 4 RX11 (some .int) E := C
  unfold fX11_hand at h
  refine vj_sub (lv' := [(0, .ref (aE E 28 0)), (1, .int x1), (2, .int x2)]) [0, 1, 2] rfl ?_
  refine v_iload_n C 2 (dk dcX11_hand_0 0 rfl) rfl rfl ?_
  refine v_iconst C 0 (dk dcX11_hand_0 1 rfl) ki_0 ?_
  refine v_bipush C 15 (dk dcX11_hand_0 2 rfl) kb_15 ?_
  obtain ⟨r_2, h_1, h⟩ := bnd1_s h
  refine v_callS1 C (mtX11_in (L - 1) (by omega) h_1) wmX11_in wd_1266 (by omega) (by decide) rfl rfl (Nat.le_of_ble_eq_true rfl) (dk dcX11_hand_0 3 rfl) ?_
  refine v_if_ne C 12 (dk dcX11_hand_0 4 rfl) (by decide) (fun c_3 => ?_) (fun c_3 => ?_)
  · replace h := if_f c_3 h
    refine v_iload_n C 1 (dk dcX11_hand_0 7 rfl) rfl rfl ?_
    refine v_iconst C 0 (dk dcX11_hand_0 8 rfl) ki_0 ?_
    refine v_aload_n C 0 (dk dcX11_hand_0 9 rfl) rfl rfl ?_
    refine gt_Mo_rowMany C wd_1133 (dk dcX11_hand_0 10 rfl) ?_
    obtain ⟨r_5, h_4, h⟩ := bnd1_s h
    refine v_callS1 C (mtX11_in (L - 1) (by omega) h_4) wmX11_in wd_1266 (by omega) (by decide) rfl rfl (Nat.le_of_ble_eq_true rfl) (dk dcX11_hand_0 11 rfl) ?_
    refine v_if_ne C 27 (dk dcX11_hand_0 12 rfl) (by decide) (fun c_6 => ?_) (fun c_6 => ?_)
    · replace h := if_f c_6 h
      refine v_aload_n C 0 (dk dcX11_hand_0 15 rfl) rfl rfl ?_
      obtain ⟨g_8, h_7, h⟩ := bnd1_s h
      refine v_callV0 C (mtX11_keepNow (L - 1) (by omega) h_7) wmX11_keepNow wd_1443 (by omega) (by decide) rfl _ (ce_Mo) rfl rfl (Nat.le_of_ble_eq_true rfl) (dk dcX11_hand_0 16 rfl) ?_
      refine v_iconst C 0 (dk dcX11_hand_0 17 rfl) ki_0 ?_
      refine v_istore_n C (lv' := [(3, .int 0), (0, .ref (aE E 28 0)), (1, .int x1), (2, .int x2)]) (dk dcX11_hand_0 18 rfl) rfl (by decide) rfl ?_
      exact vj_sub [1, 2, 3, 0] rfl (vX11_hand_l33 hL C _ h)
    · replace h := if_t c_6 h
      refine v_bipush C (-2) (dk dcX11_hand_0 13 rfl) kb_m2 ?_
      cases h
      exact v_iret C rfl (dk dcX11_hand_0 14 rfl)
  · replace h := if_t c_3 h
    refine v_iconst C (-1) (dk dcX11_hand_0 5 rfl) ki_m1 ?_
    cases h
    exact v_iret C rfl (dk dcX11_hand_0 6 rfl)
set_option maxRecDepth 20000 in
set_option maxHeartbeats 4000000 in
theorem vX11_go_j30 {L : Nat} (hL : 10 ≤ L) (C : CX p s m args meth c cX11_go 2 RX11 (some .int) E) {g : STt} {l1 : Int32} {s0 : Int32} {s1 : Int32} (r : STt × Int32) (h : fX11_go_j30 g l1 s0 s1 = some r) : VJ p l e (rmL (L + 1)) s m args below meth c (QE below E (cellsM E r.1 ++ wx) (some (.int r.2)) args s) E 2 (cellsM E g ++ wx) [(0, .ref (aE E 28 0)), (1, .int l1)] [.int s0, .int s1] 30 := by
  unfold fX11_go_j30 at h
  refine v_iadd C (dk dcX11_go_0 16 rfl) ?_
  refine v_sipush C 9999 (dk dcX11_go_0 17 rfl) ks_9999 ?_
  refine v_icmp_le C 40 (dk dcX11_go_0 18 rfl) (by decide) (fun c_1 => ?_) (fun c_1 => ?_)
  · replace h := if_t c_1 h
    refine v_aload_n C 0 (dk dcX11_go_0 21 rfl) rfl rfl ?_
    refine v_iload_n C 1 (dk dcX11_go_0 22 rfl) rfl rfl ?_
    obtain ⟨g_3, r_4, h_2, h⟩ := bnd_s h
    refine v_callV1 C (mtX11_does (L - 1) (by omega) h_2) wmX11_does wd_1423 (by omega) (by decide) rfl _ (ce_Mo) rfl rfl (Nat.le_of_ble_eq_true rfl) (dk dcX11_go_0 23 rfl) ?_
    cases h
    exact v_iret C rfl (dk dcX11_go_0 24 rfl)
  · replace h := if_f c_1 h
    refine v_bipush C (-3) (dk dcX11_go_0 19 rfl) kb_m3 ?_
    cases h
    exact v_iret C rfl (dk dcX11_go_0 20 rfl)
set_option maxRecDepth 20000 in
set_option maxHeartbeats 4000000 in
theorem mtX11_go {l : Launch} {E : WEt} {wx : va_W} (L : Nat) (hL : 10 ≤ L)  {g : STt} {x1 : Int32} {g' : STt} {rr : Int32} (h : fX11_go g x1 = some (g', rr)) : MT l E yX11_go cX11_go 2 (some .int) (L + 1) [.ref (aE E 28 0), .int x1] (cellsM E g ++ wx) (cellsM E g' ++ wx) (some (.int rr)) := by
  refine mt_of (by decide +kernel) (Nat.le_of_ble_eq_true rfl) ?_
  intro p e s m args below meth c C
  replace C : CX p s m args meth c cX11_go 2 RX11 (some .int) E := C
  unfold fX11_go at h
  refine vj_sub (lv' := [(0, .ref (aE E 28 0)), (1, .int x1)]) [0, 1] rfl ?_
  refine v_iload_n C 1 (dk dcX11_go_0 0 rfl) rfl rfl ?_
  obtain ⟨r_2, h_1, h⟩ := bnd1_s h
  refine v_callS1 C (mtX11_isAct (L - 1) (by omega) h_1) wmX11_isAct wd_1390 (by omega) (by decide) rfl rfl (Nat.le_of_ble_eq_true rfl) (dk dcX11_go_0 1 rfl) ?_
  refine v_if_ne C 9 (dk dcX11_go_0 2 rfl) (by decide) (fun c_3 => ?_) (fun c_3 => ?_)
  · replace h := if_f c_3 h
    refine v_aload_n C 0 (dk dcX11_go_0 5 rfl) rfl rfl ?_
    refine gt_Mo_is C wd_1112 (dk dcX11_go_0 6 rfl) ?_
    refine v_bipush C 14 (dk dcX11_go_0 7 rfl) kb_14 ?_
    obtain ⟨b_4, h⟩ := gd_t h
    refine ld_m_is C b_4 (dk dcX11_go_0 8 rfl) ?_
    refine v_iload_n C 1 (dk dcX11_go_0 9 rfl) rfl rfl ?_
    refine v_bipush C 6 (dk dcX11_go_0 10 rfl) kb_6 ?_
    refine v_icmp_ne C 29 (dk dcX11_go_0 11 rfl) (by decide) (fun c_5 => ?_) (fun c_5 => ?_)
    · replace h := if_f c_5 h
      refine v_iconst C 1 (dk dcX11_go_0 15 rfl) ki_1 ?_
      exact vj_sub [0, 1] rfl (vX11_go_j30 hL C _ h)
    · replace h := if_t c_5 h
      refine v_aload_n C 0 (dk dcX11_go_0 12 rfl) rfl rfl ?_
      obtain ⟨r_7, h_6, h⟩ := bnd1_s h
      refine v_callV1 C (mtX11_fordHalves (L - 1) (by omega) h_6) wmX11_fordHalves wd_1419 (by omega) (by decide) rfl _ (ce_Mo) rfl rfl (Nat.le_of_ble_eq_true rfl) (dk dcX11_go_0 13 rfl) ?_
      refine v_goto C 30 (dk dcX11_go_0 14 rfl) (by decide) ?_
      exact vj_sub [0, 1] rfl (vX11_go_j30 hL C _ h)
  · replace h := if_t c_3 h
    refine v_iconst C (-1) (dk dcX11_go_0 3 rfl) ki_m1 ?_
    cases h
    exact v_iret C rfl (dk dcX11_go_0 4 rfl)
set_option maxRecDepth 20000 in
set_option maxHeartbeats 4000000 in
theorem vX11_gentlest_j94 {L : Nat} (hL : 11 ≤ L) (C : CX p s m args meth c cX11_gentlest 6 RX11 (some .int) E) {g : STt} {l1 : Int32} {l2 : Int32} {l3 : Int32} {l4 : Int32} {l5 : Int32} {K43 : (STt × Int32 × Int32 × Int32) → Option (STt × Int32)} (hK43 : ∀ {g : STt} {l3 : Int32} {l4 : Int32} {l5 : Int32} (r : STt × Int32), K43 (g, l3, l4, l5) = some r → VJ p l e (rmL (L + 1)) s m args below meth c (QE below E (cellsM E r.1 ++ wx) (some (.int r.2)) args s) E 6 (cellsM E g ++ wx) [(0, .ref (aE E 28 0)), (1, .int l1), (2, .int l2), (3, .int l3), (4, .int l4), (5, .int l5)] [] 43) (r : STt × Int32) (h : fX11_gentlest_j94 K43 g l1 l2 l3 l4 l5 = some r) : VJ p l e (rmL (L + 1)) s m args below meth c (QE below E (cellsM E r.1 ++ wx) (some (.int r.2)) args s) E 6 (cellsM E g ++ wx) [(0, .ref (aE E 28 0)), (1, .int l1), (2, .int l2), (3, .int l3), (4, .int l4), (5, .int l5)] [] 94 := by
  unfold fX11_gentlest_j94 at h
  refine v_iinc C (lv' := [(5, .int (l5 + 1)), (0, .ref (aE E 28 0)), (1, .int l1), (2, .int l2), (3, .int l3), (4, .int l4)]) (l5 + 1) 5 (dk dcX11_gentlest_1 4 rfl) rfl (congrArg (fun z => l5 + z) ki_1) (by decide) rfl ?_
  refine v_goto C 43 (dk dcX11_gentlest_1 5 rfl) (by decide) ?_
  exact vj_sub [1, 2, 3, 4, 5, 0] rfl (hK43 _ h)
set_option maxRecDepth 20000 in
set_option maxHeartbeats 4000000 in
theorem vX11_gentlest_j85 {L : Nat} (hL : 11 ≤ L) (C : CX p s m args meth c cX11_gentlest 6 RX11 (some .int) E) {g : STt} {l1 : Int32} {l2 : Int32} {l5 : Int32} {K43 : (STt × Int32 × Int32 × Int32) → Option (STt × Int32)} (hK43 : ∀ {g : STt} {l3 : Int32} {l4 : Int32} {l5 : Int32} (r : STt × Int32), K43 (g, l3, l4, l5) = some r → VJ p l e (rmL (L + 1)) s m args below meth c (QE below E (cellsM E r.1 ++ wx) (some (.int r.2)) args s) E 6 (cellsM E g ++ wx) [(0, .ref (aE E 28 0)), (1, .int l1), (2, .int l2), (3, .int l3), (4, .int l4), (5, .int l5)] [] 43) (r : STt × Int32) (h : fX11_gentlest_j85 K43 g l1 l2 l5 = some r) : VJ p l e (rmL (L + 1)) s m args below meth c (QE below E (cellsM E r.1 ++ wx) (some (.int r.2)) args s) E 6 (cellsM E g ++ wx) [(0, .ref (aE E 28 0)), (1, .int l1), (2, .int l2), (5, .int l5)] [] 85 := by
  unfold fX11_gentlest_j85 at h
  refine v_iload C 3 (dk dcX11_gentlest_0 47 rfl) rfl ?_
  refine v_istore_n C (lv' := [(3, .int l5), (0, .ref (aE E 28 0)), (1, .int l1), (2, .int l2), (5, .int l5)]) (dk dcX11_gentlest_1 0 rfl) rfl (by decide) rfl ?_
  refine v_aload_n C 1 (dk dcX11_gentlest_1 1 rfl) rfl rfl ?_
  refine gt_Mo_learntThen C wd_1136 (dk dcX11_gentlest_1 2 rfl) ?_
  refine v_istore C (lv' := [(4, .int (g.1 43 0)), (3, .int l5), (0, .ref (aE E 28 0)), (1, .int l1), (2, .int l2), (5, .int l5)]) (dk dcX11_gentlest_1 3 rfl) (by decide) rfl ?_
  exact vj_sub [2, 3, 4, 1, 0, 5] rfl (vX11_gentlest_j94 hL C hK43 _ h)
set_option maxRecDepth 20000 in
set_option maxHeartbeats 4000000 in
theorem vX11_gentlest_l43c {L : Nat} (hL : 11 ≤ L) (C : CX p s m args meth c cX11_gentlest 6 RX11 (some .int) E) {l1 : Int32} {l2 : Int32} {K43 : (STt × Int32 × Int32 × Int32) → Option (STt × Int32)} (hK43 : ∀ {g : STt} {l3 : Int32} {l4 : Int32} {l5 : Int32} (r : STt × Int32), K43 (g, l3, l4, l5) = some r → VJ p l e (rmL (L + 1)) s m args below meth c (QE below E (cellsM E r.1 ++ wx) (some (.int r.2)) args s) E 6 (cellsM E g ++ wx) [(0, .ref (aE E 28 0)), (1, .int l1), (2, .int l2), (3, .int l3), (4, .int l4), (5, .int l5)] [] 43) {g : STt} {l3 : Int32} {l4 : Int32} {l5 : Int32} (r : STt × Int32) (h : fX11_gentlest_l43c K43 l1 l2 g l3 l4 l5 = some r) : VJ p l e (rmL (L + 1)) s m args below meth c (QE below E (cellsM E r.1 ++ wx) (some (.int r.2)) args s) E 6 (cellsM E g ++ wx) [(0, .ref (aE E 28 0)), (1, .int l1), (2, .int l2), (3, .int l3), (4, .int l4), (5, .int l5)] [] 43 := by
  unfold fX11_gentlest_l43c at h
  refine v_iload C 5 (dk dcX11_gentlest_0 27 rfl) rfl ?_
  refine v_iload_n C 1 (dk dcX11_gentlest_0 28 rfl) rfl rfl ?_
  obtain ⟨r_2, h_1, h⟩ := bnd1_s h
  refine v_callS1 C (mtX11_rowsOf (L - 1) (by omega) h_1) wmX11_rowsOf wd_1455 (by omega) (by decide) rfl rfl (Nat.le_of_ble_eq_true rfl) (dk dcX11_gentlest_0 29 rfl) ?_
  refine v_icmp_ge C 100 (dk dcX11_gentlest_0 30 rfl) (by decide) (fun c_3 => ?_) (fun c_3 => ?_)
  · replace h := if_t c_3 h
    refine v_iload_n C 3 (dk dcX11_gentlest_1 6 rfl) rfl rfl ?_
    refine v_if_ge C 109 (dk dcX11_gentlest_1 7 rfl) (by decide) (fun c_4 => ?_) (fun c_4 => ?_)
    · replace h := if_t c_4 h
      refine v_iload_n C 2 (dk dcX11_gentlest_1 10 rfl) rfl rfl ?_
      refine v_if_ge C 118 (dk dcX11_gentlest_1 11 rfl) (by decide) (fun c_5 => ?_) (fun c_5 => ?_)
      · replace h := if_t c_5 h
        refine v_iload_n C 3 (dk dcX11_gentlest_1 14 rfl) rfl rfl ?_
        refine v_iload_n C 2 (dk dcX11_gentlest_1 15 rfl) rfl rfl ?_
        refine v_iload_n C 1 (dk dcX11_gentlest_1 16 rfl) rfl rfl ?_
        obtain ⟨r_7, h_6, h⟩ := bnd1_s h
        refine v_callS1 C (mtX11_actOf (L - 1) (by omega) h_6) wmX11_actOf wd_1462 (by omega) (by decide) rfl rfl (Nat.le_of_ble_eq_true rfl) (dk dcX11_gentlest_1 17 rfl) ?_
        cases h
        exact v_iret C rfl (dk dcX11_gentlest_1 18 rfl)
      · replace h := if_f c_5 h
        refine v_iload C 4 (dk dcX11_gentlest_1 12 rfl) rfl ?_
        refine v_goto C 124 (dk dcX11_gentlest_1 13 rfl) (by decide) ?_
        cases h
        exact v_iret C rfl (dk dcX11_gentlest_1 18 rfl)
    · replace h := if_f c_4 h
      refine v_bipush C (-5) (dk dcX11_gentlest_1 8 rfl) kb_m5 ?_
      refine v_goto C 124 (dk dcX11_gentlest_1 9 rfl) (by decide) ?_
      cases h
      exact v_iret C rfl (dk dcX11_gentlest_1 18 rfl)
  · replace h := if_f c_3 h
    refine v_aload_n C 0 (dk dcX11_gentlest_0 31 rfl) rfl rfl ?_
    refine v_iload C 5 (dk dcX11_gentlest_0 32 rfl) rfl ?_
    refine v_iload_n C 1 (dk dcX11_gentlest_0 33 rfl) rfl rfl ?_
    obtain ⟨g_5, r_6, h_4, h⟩ := bnd_s h
    refine v_callV1 C (mtX11_atBehind (L - 1) (by omega) h_4) wmX11_atBehind wd_1458 (by omega) (by decide) rfl _ (ce_Mo) rfl rfl (Nat.le_of_ble_eq_true rfl) (dk dcX11_gentlest_0 34 rfl) ?_
    refine v_aload_n C 0 (dk dcX11_gentlest_0 35 rfl) rfl rfl ?_
    refine gt_Mo_is C wd_1112 (dk dcX11_gentlest_0 36 rfl) ?_
    refine v_bipush C 12 (dk dcX11_gentlest_0 37 rfl) kb_12 ?_
    obtain ⟨b_7, h⟩ := gd_t h
    refine ld_m_is C b_7 (dk dcX11_gentlest_0 38 rfl) ?_
    refine v_icmp_le C 94 (dk dcX11_gentlest_0 39 rfl) (by decide) (fun c_8 => ?_) (fun c_8 => ?_)
    · replace h := if_t c_8 h
      exact vj_sub [0, 1, 2, 3, 4, 5] rfl (vX11_gentlest_j94 hL C hK43 _ h)
    · replace h := if_f c_8 h
      refine v_iload_n C 3 (dk dcX11_gentlest_0 40 rfl) rfl rfl ?_
      refine v_if_lt C 85 (dk dcX11_gentlest_0 41 rfl) (by decide) (fun c_9 => ?_) (fun c_9 => ?_)
      · replace h := if_t c_9 h
        exact vj_sub [0, 1, 2, 5] rfl (vX11_gentlest_j85 hL C hK43 _ h)
      · replace h := if_f c_9 h
        refine v_aload_n C 0 (dk dcX11_gentlest_0 42 rfl) rfl rfl ?_
        refine gt_Mo_learntThen C wd_1136 (dk dcX11_gentlest_0 43 rfl) ?_
        refine v_iload C 4 (dk dcX11_gentlest_0 44 rfl) rfl ?_
        refine v_icmp_lt C 85 (dk dcX11_gentlest_0 45 rfl) (by decide) (fun c_10 => ?_) (fun c_10 => ?_)
        · replace h := if_t c_10 h
          exact vj_sub [0, 1, 2, 5] rfl (vX11_gentlest_j85 hL C hK43 _ h)
        · replace h := if_f c_10 h
          refine v_goto C 94 (dk dcX11_gentlest_0 46 rfl) (by decide) ?_
          exact vj_sub [0, 1, 2, 3, 4, 5] rfl (vX11_gentlest_j94 hL C hK43 _ h)
set_option maxRecDepth 20000 in
set_option maxHeartbeats 4000000 in
theorem vX11_gentlest_l43 {L : Nat} (hL : 11 ≤ L) (C : CX p s m args meth c cX11_gentlest 6 RX11 (some .int) E) {l1 : Int32} {l2 : Int32} {g : STt} {l3 : Int32} {l4 : Int32} {l5 : Int32} (r : STt × Int32) (h : fX11_gentlest_l43 l1 l2 g l3 l4 l5 = some r) : VJ p l e (rmL (L + 1)) s m args below meth c (QE below E (cellsM E r.1 ++ wx) (some (.int r.2)) args s) E 6 (cellsM E g ++ wx) [(0, .ref (aE E 28 0)), (1, .int l1), (2, .int l2), (3, .int l3), (4, .int l4), (5, .int l5)] [] 43 :=
  iterO_ind (F := fun K z => fX11_gentlest_l43c K l1 l2 z.1 z.2.1 z.2.2.1 z.2.2.2) (fun z r => VJ p l e (rmL (L + 1)) s m args below meth c (QE below E (cellsM E r.1 ++ wx) (some (.int r.2)) args s) E 6 (cellsM E z.1 ++ wx) [(0, .ref (aE E 28 0)), (1, .int l1), (2, .int l2), (3, .int z.2.1), (4, .int z.2.2.1), (5, .int z.2.2.2)] [] 43) (fun K hK z r h => vX11_gentlest_l43c hL C (fun {g} {l3} {l4} {l5} r h => hK (g, l3, l4, l5) r h) r h) fuelN (g, l3, l4, l5) r h
set_option maxRecDepth 20000 in
set_option maxHeartbeats 4000000 in
theorem mtX11_gentlest {l : Launch} {E : WEt} {wx : va_W} (L : Nat) (hL : 11 ≤ L)  {g : STt} {x1 : Int32} {x2 : Int32} {g' : STt} {rr : Int32} (h : fX11_gentlest g x1 x2 = some (g', rr)) : MT l E yX11_gentlest cX11_gentlest 6 (some .int) (L + 1) [.ref (aE E 28 0), .int x1, .int x2] (cellsM E g ++ wx) (cellsM E g' ++ wx) (some (.int rr)) := by
  refine mt_of (by decide +kernel) (Nat.le_of_ble_eq_true rfl) ?_
  intro p e s m args below meth c C
  replace C : CX p s m args meth c cX11_gentlest 6 RX11 (some .int) E := C
  unfold fX11_gentlest at h
  refine vj_sub (lv' := [(0, .ref (aE E 28 0)), (1, .int x1), (2, .int x2)]) [0, 1, 2] rfl ?_
  refine v_iload_n C 1 (dk dcX11_gentlest_0 0 rfl) rfl rfl ?_
  refine v_iconst C 1 (dk dcX11_gentlest_0 1 rfl) ki_1 ?_
  refine v_iconst C 4 (dk dcX11_gentlest_0 2 rfl) ki_4 ?_
  obtain ⟨r_2, h_1, h⟩ := bnd1_s h
  refine v_callS1 C (mtX11_in (L - 1) (by omega) h_1) wmX11_in wd_1266 (by omega) (by decide) rfl rfl (Nat.le_of_ble_eq_true rfl) (dk dcX11_gentlest_0 3 rfl) ?_
  refine v_if_ne C 12 (dk dcX11_gentlest_0 4 rfl) (by decide) (fun c_3 => ?_) (fun c_3 => ?_)
  · replace h := if_f c_3 h
    refine v_iload_n C 2 (dk dcX11_gentlest_0 7 rfl) rfl rfl ?_
    refine v_iconst C (-1) (dk dcX11_gentlest_0 8 rfl) ki_m1 ?_
    refine v_iload_n C 1 (dk dcX11_gentlest_0 9 rfl) rfl rfl ?_
    refine v_iconst C 1 (dk dcX11_gentlest_0 10 rfl) ki_1 ?_
    refine v_isub C (dk dcX11_gentlest_0 11 rfl) ?_
    obtain ⟨r_5, h_4, h⟩ := bnd1_s h
    refine v_callS1 C (mtX11_in (L - 1) (by omega) h_4) wmX11_in wd_1266 (by omega) (by decide) rfl rfl (Nat.le_of_ble_eq_true rfl) (dk dcX11_gentlest_0 12 rfl) ?_
    refine v_if_ne C 25 (dk dcX11_gentlest_0 13 rfl) (by decide) (fun c_6 => ?_) (fun c_6 => ?_)
    · replace h := if_f c_6 h
      refine v_aload_n C 0 (dk dcX11_gentlest_0 16 rfl) rfl rfl ?_
      obtain ⟨r_8, h_7, h⟩ := bnd1_s h
      refine v_callV1 C (mtX11_isOver (L - 1) (by omega) h_7) wmX11_isOver wd_1361 (by omega) (by decide) rfl _ (ce_Mo) rfl rfl (Nat.le_of_ble_eq_true rfl) (dk dcX11_gentlest_0 17 rfl) ?_
      refine v_if_eq C 35 (dk dcX11_gentlest_0 18 rfl) (by decide) (fun c_9 => ?_) (fun c_9 => ?_)
      · replace h := if_t c_9 h
        refine v_iconst C (-1) (dk dcX11_gentlest_0 21 rfl) ki_m1 ?_
        refine v_istore_n C (lv' := [(3, .int (-1)), (0, .ref (aE E 28 0)), (1, .int x1), (2, .int x2)]) (dk dcX11_gentlest_0 22 rfl) rfl (by decide) rfl ?_
        refine v_iconst C 0 (dk dcX11_gentlest_0 23 rfl) ki_0 ?_
        refine v_istore C (lv' := [(4, .int 0), (3, .int (-1)), (0, .ref (aE E 28 0)), (1, .int x1), (2, .int x2)]) (dk dcX11_gentlest_0 24 rfl) (by decide) rfl ?_
        refine v_iconst C 0 (dk dcX11_gentlest_0 25 rfl) ki_0 ?_
        refine v_istore C (lv' := [(5, .int 0), (4, .int 0), (3, .int (-1)), (0, .ref (aE E 28 0)), (1, .int x1), (2, .int x2)]) (dk dcX11_gentlest_0 26 rfl) (by decide) rfl ?_
        exact vj_sub [3, 4, 5, 2, 1, 0] rfl (vX11_gentlest_l43 hL C _ h)
      · replace h := if_f c_9 h
        refine v_bipush C (-3) (dk dcX11_gentlest_0 19 rfl) kb_m3 ?_
        cases h
        exact v_iret C rfl (dk dcX11_gentlest_0 20 rfl)
    · replace h := if_t c_6 h
      refine v_iconst C (-1) (dk dcX11_gentlest_0 14 rfl) ki_m1 ?_
      cases h
      exact v_iret C rfl (dk dcX11_gentlest_0 15 rfl)
  · replace h := if_t c_3 h
    refine v_bipush C (-2) (dk dcX11_gentlest_0 5 rfl) kb_m2 ?_
    cases h
    exact v_iret C rfl (dk dcX11_gentlest_0 6 rfl)
set_option maxRecDepth 20000 in
set_option maxHeartbeats 4000000 in
theorem mtX11_film {l : Launch} {E : WEt} {wx : va_W} (L : Nat) (hL : 3 ≤ L)  {g : STt} {x1 : Int32} {g' : STt} {rr : Int32} (h : fX11_film g x1 = some (g', rr)) : MT l E yX11_film cX11_film 2 (some .int) (L + 1) [.ref (aE E 28 0), .int x1] (cellsM E g ++ wx) (cellsM E g' ++ wx) (some (.int rr)) := by
  refine mt_of (by decide +kernel) (Nat.le_of_ble_eq_true rfl) ?_
  intro p e s m args below meth c C
  replace C : CX p s m args meth c cX11_film 2 RX11 (some .int) E := C
  unfold fX11_film at h
  refine vj_sub (lv' := [(0, .ref (aE E 28 0)), (1, .int x1)]) [0, 1] rfl ?_
  refine v_iload_n C 1 (dk dcX11_film_0 0 rfl) rfl rfl ?_
  refine v_iconst C (-1) (dk dcX11_film_0 1 rfl) ki_m1 ?_
  refine v_icmp_ne C 12 (dk dcX11_film_0 2 rfl) (by decide) (fun c_1 => ?_) (fun c_1 => ?_)
  · replace h := if_f c_1 h
    refine v_iload_n C 1 (dk dcX11_film_0 8 rfl) rfl rfl ?_
    refine v_iconst C 0 (dk dcX11_film_0 9 rfl) ki_0 ?_
    refine v_iconst C 3 (dk dcX11_film_0 10 rfl) ki_3 ?_
    obtain ⟨r_3, h_2, h⟩ := bnd1_s h
    refine v_callS1 C (mtX11_in (L - 1) (by omega) h_2) wmX11_in wd_1266 (by omega) (by decide) rfl rfl (Nat.le_of_ble_eq_true rfl) (dk dcX11_film_0 11 rfl) ?_
    refine v_if_ne C 23 (dk dcX11_film_0 12 rfl) (by decide) (fun c_4 => ?_) (fun c_4 => ?_)
    · replace h := if_f c_4 h
      refine v_aload_n C 0 (dk dcX11_film_0 15 rfl) rfl rfl ?_
      refine gt_Mo_filmed C wd_1140 (dk dcX11_film_0 16 rfl) ?_
      refine v_bipush C 12 (dk dcX11_film_0 17 rfl) kb_12 ?_
      refine v_icmp_ne C 35 (dk dcX11_film_0 18 rfl) (by decide) (fun c_5 => ?_) (fun c_5 => ?_)
      · replace h := if_f c_5 h
        refine v_aload_n C 0 (dk dcX11_film_0 21 rfl) rfl rfl ?_
        refine gt_Mo_film C wd_1141 (dk dcX11_film_0 22 rfl) ?_
        refine v_aload_n C 0 (dk dcX11_film_0 23 rfl) rfl rfl ?_
        refine gt_Mo_filmed C wd_1140 (dk dcX11_film_0 24 rfl) ?_
        refine v_iload_n C 1 (dk dcX11_film_0 25 rfl) rfl rfl ?_
        obtain ⟨b_6, h⟩ := gd_t h
        refine st_m_film C b_6 (dk dcX11_film_0 26 rfl) ?_
        refine v_aload_n C 0 (dk dcX11_film_0 27 rfl) rfl rfl ?_
        refine v_dup C rfl (dk dcX11_film_0 28 rfl) ?_
        refine gt_Mo_filmed C wd_1140 (dk dcX11_film_0 29 rfl) ?_
        refine v_iconst C 1 (dk dcX11_film_0 30 rfl) ki_1 ?_
        refine v_iadd C (dk dcX11_film_0 31 rfl) ?_
        refine pt_Mo_filmed C wd_1140 (dk dcX11_film_0 32 rfl) ?_
        refine v_aload_n C 0 (dk dcX11_film_0 33 rfl) rfl rfl ?_
        refine gt_Mo_filmed C wd_1140 (dk dcX11_film_0 34 rfl) ?_
        cases h
        exact v_iret C rfl (dk dcX11_film_0 35 rfl)
      · replace h := if_t c_5 h
        refine v_bipush C (-4) (dk dcX11_film_0 19 rfl) kb_m4 ?_
        cases h
        exact v_iret C rfl (dk dcX11_film_0 20 rfl)
    · replace h := if_t c_4 h
      refine v_iconst C (-1) (dk dcX11_film_0 13 rfl) ki_m1 ?_
      cases h
      exact v_iret C rfl (dk dcX11_film_0 14 rfl)
  · replace h := if_t c_1 h
    refine v_aload_n C 0 (dk dcX11_film_0 3 rfl) rfl rfl ?_
    refine v_iconst C 0 (dk dcX11_film_0 4 rfl) ki_0 ?_
    refine pt_Mo_filmed C wd_1140 (dk dcX11_film_0 5 rfl) ?_
    refine v_iconst C 0 (dk dcX11_film_0 6 rfl) ki_0 ?_
    cases h
    exact v_iret C rfl (dk dcX11_film_0 7 rfl)
end MS
