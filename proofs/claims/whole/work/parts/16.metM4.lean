section MS
variable {p : Program} {l : Launch} {e : Env} {s : State} {m : MethodId} {args : Array Value} {below : List Frame} {meth : Method} {c : Code} {E : WEt} {wx : va_W}
set_option maxRecDepth 20000 in
set_option maxHeartbeats 4000000 in
theorem mtX11_feed {l : Launch} {E : WEt} {wx : va_W} (L : Nat) (hL : 3 ≤ L)  {g : STt} {x1 : Int32} {g' : STt} {rr : Int32} (h : fX11_feed g x1 = some (g', rr)) : MT l E yX11_feed cX11_feed 2 (some .int) (L + 1) [.ref (aE E 28 0), .int x1] (cellsM E g ++ wx) (cellsM E g' ++ wx) (some (.int rr)) := by
  refine mt_of (by decide +kernel) (Nat.le_of_ble_eq_true rfl) ?_
  intro p e s m args below meth c C
  replace C : CX p s m args meth c cX11_feed 2 RX11 (some .int) E := C
  unfold fX11_feed at h
  refine vj_sub (lv' := [(0, .ref (aE E 28 0)), (1, .int x1)]) [0, 1] rfl ?_
  refine v_iload_n C 1 (dk dcX11_feed_0 0 rfl) rfl rfl ?_
  refine v_iconst C 0 (dk dcX11_feed_0 1 rfl) ki_0 ?_
  refine v_bipush C 127 (dk dcX11_feed_0 2 rfl) kb_127 ?_
  obtain ⟨r_2, h_1, h⟩ := bnd1_s h
  refine v_callS1 C (mtX11_in (L - 1) (by omega) h_1) wmX11_in wd_1266 (by omega) (by decide) rfl rfl (Nat.le_of_ble_eq_true rfl) (dk dcX11_feed_0 3 rfl) ?_
  refine v_if_ne C 13 (dk dcX11_feed_0 4 rfl) (by decide) (fun c_3 => ?_) (fun c_3 => ?_)
  · replace h := if_f c_3 h
    refine v_aload_n C 0 (dk dcX11_feed_0 7 rfl) rfl rfl ?_
    refine gt_Mo_taped C wd_1114 (dk dcX11_feed_0 8 rfl) ?_
    refine v_bipush C 100 (dk dcX11_feed_0 9 rfl) kb_100 ?_
    refine v_icmp_ne C 25 (dk dcX11_feed_0 10 rfl) (by decide) (fun c_4 => ?_) (fun c_4 => ?_)
    · replace h := if_f c_4 h
      refine v_aload_n C 0 (dk dcX11_feed_0 13 rfl) rfl rfl ?_
      refine gt_Mo_tape C wd_1113 (dk dcX11_feed_0 14 rfl) ?_
      refine v_aload_n C 0 (dk dcX11_feed_0 15 rfl) rfl rfl ?_
      refine gt_Mo_taped C wd_1114 (dk dcX11_feed_0 16 rfl) ?_
      refine v_iload_n C 1 (dk dcX11_feed_0 17 rfl) rfl rfl ?_
      refine v_i2b C (dk dcX11_feed_0 18 rfl) ?_
      obtain ⟨b_5, h⟩ := gd_t h
      refine st_m_tape C b_5 (dk dcX11_feed_0 19 rfl) ?_
      refine v_aload_n C 0 (dk dcX11_feed_0 20 rfl) rfl rfl ?_
      refine v_dup C rfl (dk dcX11_feed_0 21 rfl) ?_
      refine gt_Mo_taped C wd_1114 (dk dcX11_feed_0 22 rfl) ?_
      refine v_iconst C 1 (dk dcX11_feed_0 23 rfl) ki_1 ?_
      refine v_iadd C (dk dcX11_feed_0 24 rfl) ?_
      refine pt_Mo_taped C wd_1114 (dk dcX11_feed_0 25 rfl) ?_
      refine v_aload_n C 0 (dk dcX11_feed_0 26 rfl) rfl rfl ?_
      refine gt_Mo_taped C wd_1114 (dk dcX11_feed_0 27 rfl) ?_
      cases h
      exact v_iret C rfl (dk dcX11_feed_0 28 rfl)
    · replace h := if_t c_4 h
      refine v_bipush C (-4) (dk dcX11_feed_0 11 rfl) kb_m4 ?_
      cases h
      exact v_iret C rfl (dk dcX11_feed_0 12 rfl)
  · replace h := if_t c_3 h
    refine v_bipush C (-2) (dk dcX11_feed_0 5 rfl) kb_m2 ?_
    cases h
    exact v_iret C rfl (dk dcX11_feed_0 6 rfl)
set_option maxRecDepth 20000 in
set_option maxHeartbeats 4000000 in
theorem mtX11_drive {l : Launch} {E : WEt} {wx : va_W} (L : Nat) (hL : 8 ≤ L)  {g : STt} {x1 : Int32} {g' : STt} {rr : Int32} (h : fX11_drive g x1 = some (g', rr)) : MT l E yX11_drive cX11_drive 2 (some .int) (L + 1) [.ref (aE E 28 0), .int x1] (cellsM E g ++ wx) (cellsM E g' ++ wx) (some (.int rr)) := by
  refine mt_of (by decide +kernel) (Nat.le_of_ble_eq_true rfl) ?_
  intro p e s m args below meth c C
  replace C : CX p s m args meth c cX11_drive 2 RX11 (some .int) E := C
  unfold fX11_drive at h
  refine vj_sub (lv' := [(0, .ref (aE E 28 0)), (1, .int x1)]) [0, 1] rfl ?_
  refine v_iload_n C 1 (dk dcX11_drive_0 0 rfl) rfl rfl ?_
  obtain ⟨r_2, h_1, h⟩ := bnd1_s h
  refine v_callS1 C (mtX11_isAct (L - 1) (by omega) h_1) wmX11_isAct wd_1390 (by omega) (by decide) rfl rfl (Nat.le_of_ble_eq_true rfl) (dk dcX11_drive_0 1 rfl) ?_
  refine v_if_ne C 12 (dk dcX11_drive_0 2 rfl) (by decide) (fun c_3 => ?_) (fun c_3 => ?_)
  · replace h := if_f c_3 h
    refine v_aload_n C 0 (dk dcX11_drive_0 5 rfl) rfl rfl ?_
    obtain ⟨r_5, h_4, h⟩ := bnd1_s h
    refine v_callV1 C (mtX11_isOver (L - 1) (by omega) h_4) wmX11_isOver wd_1361 (by omega) (by decide) rfl _ (ce_Mo) rfl rfl (Nat.le_of_ble_eq_true rfl) (dk dcX11_drive_0 6 rfl) ?_
    refine v_if_eq C 24 (dk dcX11_drive_0 7 rfl) (by decide) (fun c_6 => ?_) (fun c_6 => ?_)
    · replace h := if_t c_6 h
      refine v_aload_n C 0 (dk dcX11_drive_0 10 rfl) rfl rfl ?_
      refine v_iload_n C 1 (dk dcX11_drive_0 11 rfl) rfl rfl ?_
      obtain ⟨g_8, r_9, h_7, h⟩ := bnd_s h
      refine v_callV1 C (mtX11_driveBy (L - 1) (by omega) h_7) wmX11_driveBy wd_1395 (by omega) (by decide) rfl _ (ce_Mo) rfl rfl (Nat.le_of_ble_eq_true rfl) (dk dcX11_drive_0 12 rfl) ?_
      cases h
      exact v_iret C rfl (dk dcX11_drive_0 13 rfl)
    · replace h := if_f c_6 h
      refine v_ldc C wd_1394 (dk dcX11_drive_0 8 rfl) ?_
      refine v_goto C 29 (dk dcX11_drive_0 9 rfl) (by decide) ?_
      cases h
      exact v_iret C rfl (dk dcX11_drive_0 13 rfl)
  · replace h := if_t c_3 h
    refine v_ldc C wd_1393 (dk dcX11_drive_0 3 rfl) ?_
    refine v_goto C 29 (dk dcX11_drive_0 4 rfl) (by decide) ?_
    cases h
    exact v_iret C rfl (dk dcX11_drive_0 13 rfl)
set_option maxRecDepth 20000 in
set_option maxHeartbeats 4000000 in
theorem vX11_days_j128 {L : Nat} (hL : 10 ≤ L) (C : CX p s m args meth c cX11_days 5 RX11 (some .int) E) {g : STt} {s0 : Int32} (r : STt × Int32) (h : fX11_days_j128 g s0 = some r) : VJ p l e (rmL (L + 1)) s m args below meth c (QE below E (cellsM E r.1 ++ wx) (some (.int r.2)) args s) E 5 (cellsM E g ++ wx) [(0, .ref (aE E 28 0))] [.int s0] 128 := by
  unfold fX11_days_j128 at h
  refine v_istore_n C (lv' := [(3, .int s0), (0, .ref (aE E 28 0))]) (dk dcX11_days_1 22 rfl) rfl (by decide) rfl ?_
  refine v_aload_n C 1 (dk dcX11_days_1 23 rfl) rfl rfl ?_
  obtain ⟨g_2, h_1, h⟩ := bnd1_s h
  refine v_callV0 C (mtX11_layBack (L - 1) (by omega) h_1) wmX11_layBack wd_1447 (by omega) (by decide) rfl _ (ce_Mo) rfl rfl (Nat.le_of_ble_eq_true rfl) (dk dcX11_days_1 24 rfl) ?_
  refine v_iload_n C 0 (dk dcX11_days_1 25 rfl) rfl rfl ?_
  cases h
  exact v_iret C rfl (dk dcX11_days_1 26 rfl)
set_option maxRecDepth 20000 in
set_option maxHeartbeats 4000000 in
theorem vX11_days_l62c {L : Nat} (hL : 10 ≤ L) (C : CX p s m args meth c cX11_days 5 RX11 (some .int) E) {l1 : Int32} {l2 : Int32} {l3 : Int32} {K30 : (STt × Int32) → Option (STt × Int32)} (hK30 : ∀ {g : STt} {l3 : Int32} (r : STt × Int32), K30 (g, l3) = some r → VJ p l e (rmL (L + 1)) s m args below meth c (QE below E (cellsM E r.1 ++ wx) (some (.int r.2)) args s) E 5 (cellsM E g ++ wx) [(0, .ref (aE E 28 0)), (1, .int l1), (2, .int l2), (3, .int l3)] [] 30) {K62 : (STt × Int32) → Option (STt × Int32)} (hK62 : ∀ {g : STt} {l4 : Int32} (r : STt × Int32), K62 (g, l4) = some r → VJ p l e (rmL (L + 1)) s m args below meth c (QE below E (cellsM E r.1 ++ wx) (some (.int r.2)) args s) E 5 (cellsM E g ++ wx) [(0, .ref (aE E 28 0)), (1, .int l1), (2, .int l2), (3, .int l3), (4, .int l4)] [] 62) {g : STt} {l4 : Int32} (r : STt × Int32) (h : fX11_days_l62c K30 K62 l1 l2 l3 g l4 = some r) : VJ p l e (rmL (L + 1)) s m args below meth c (QE below E (cellsM E r.1 ++ wx) (some (.int r.2)) args s) E 5 (cellsM E g ++ wx) [(0, .ref (aE E 28 0)), (1, .int l1), (2, .int l2), (3, .int l3), (4, .int l4)] [] 62 := by
  unfold fX11_days_l62c at h
  refine v_iload C 4 (dk dcX11_days_0 38 rfl) rfl ?_
  refine v_aload_n C 0 (dk dcX11_days_0 39 rfl) rfl rfl ?_
  refine gt_Mo_rowMany C wd_1133 (dk dcX11_days_0 40 rfl) ?_
  refine v_icmp_ge C 89 (dk dcX11_days_0 41 rfl) (by decide) (fun c_1 => ?_) (fun c_1 => ?_)
  · replace h := if_t c_1 h
    refine v_iinc C (lv' := [(3, .int (l3 + 1)), (0, .ref (aE E 28 0)), (1, .int l1), (2, .int l2), (4, .int l4)]) (l3 + 1) 3 (dk dcX11_days_1 3 rfl) rfl (congrArg (fun z => l3 + z) ki_1) (by decide) rfl ?_
    refine v_goto C 30 (dk dcX11_days_1 4 rfl) (by decide) ?_
    exact vj_sub [1, 2, 3, 0] rfl (hK30 _ h)
  · replace h := if_f c_1 h
    refine v_aload_n C 0 (dk dcX11_days_0 42 rfl) rfl rfl ?_
    refine v_aload_n C 0 (dk dcX11_days_0 43 rfl) rfl rfl ?_
    refine gt_Mo_row C wd_1134 (dk dcX11_days_0 44 rfl) ?_
    refine v_iload C 4 (dk dcX11_days_0 45 rfl) rfl ?_
    obtain ⟨b_2, h⟩ := gd_t h
    refine ld_m_row C b_2 (dk dcX11_days_0 46 rfl) ?_
    obtain ⟨g_4, r_5, h_3, h⟩ := bnd_s h
    refine v_callV1 C (mtX11_does (L - 1) (by omega) h_3) wmX11_does wd_1423 (by omega) (by decide) rfl _ (ce_Mo) rfl rfl (Nat.le_of_ble_eq_true rfl) (dk dcX11_days_0 47 rfl) ?_
    refine v_pop C rfl (dk dcX11_days_1 0 rfl) ?_
    refine v_iinc C (lv' := [(4, .int (l4 + 1)), (0, .ref (aE E 28 0)), (1, .int l1), (2, .int l2), (3, .int l3)]) (l4 + 1) 4 (dk dcX11_days_1 1 rfl) rfl (congrArg (fun z => l4 + z) ki_1) (by decide) rfl ?_
    refine v_goto C 62 (dk dcX11_days_1 2 rfl) (by decide) ?_
    exact vj_sub [1, 2, 3, 4, 0] rfl (hK62 _ h)
set_option maxRecDepth 20000 in
set_option maxHeartbeats 4000000 in
theorem vX11_days_l62 {L : Nat} (hL : 10 ≤ L) (C : CX p s m args meth c cX11_days 5 RX11 (some .int) E) {l1 : Int32} {l2 : Int32} {l3 : Int32} {K30 : (STt × Int32) → Option (STt × Int32)} (hK30 : ∀ {g : STt} {l3 : Int32} (r : STt × Int32), K30 (g, l3) = some r → VJ p l e (rmL (L + 1)) s m args below meth c (QE below E (cellsM E r.1 ++ wx) (some (.int r.2)) args s) E 5 (cellsM E g ++ wx) [(0, .ref (aE E 28 0)), (1, .int l1), (2, .int l2), (3, .int l3)] [] 30) {g : STt} {l4 : Int32} (r : STt × Int32) (h : fX11_days_l62 K30 l1 l2 l3 g l4 = some r) : VJ p l e (rmL (L + 1)) s m args below meth c (QE below E (cellsM E r.1 ++ wx) (some (.int r.2)) args s) E 5 (cellsM E g ++ wx) [(0, .ref (aE E 28 0)), (1, .int l1), (2, .int l2), (3, .int l3), (4, .int l4)] [] 62 :=
  iterO_ind (F := fun K z => fX11_days_l62c K30 K l1 l2 l3 z.1 z.2) (fun z r => VJ p l e (rmL (L + 1)) s m args below meth c (QE below E (cellsM E r.1 ++ wx) (some (.int r.2)) args s) E 5 (cellsM E z.1 ++ wx) [(0, .ref (aE E 28 0)), (1, .int l1), (2, .int l2), (3, .int l3), (4, .int z.2)] [] 62) (fun K hK z r h => vX11_days_l62c hL C hK30 (fun {g} {l4} r h => hK (g, l4) r h) r h) fuelN (g, l4) r h
set_option maxRecDepth 20000 in
set_option maxHeartbeats 4000000 in
theorem vX11_days_l30c {L : Nat} (hL : 10 ≤ L) (C : CX p s m args meth c cX11_days 5 RX11 (some .int) E) {l1 : Int32} {l2 : Int32} {K30 : (STt × Int32) → Option (STt × Int32)} (hK30 : ∀ {g : STt} {l3 : Int32} (r : STt × Int32), K30 (g, l3) = some r → VJ p l e (rmL (L + 1)) s m args below meth c (QE below E (cellsM E r.1 ++ wx) (some (.int r.2)) args s) E 5 (cellsM E g ++ wx) [(0, .ref (aE E 28 0)), (1, .int l1), (2, .int l2), (3, .int l3)] [] 30) {g : STt} {l3 : Int32} (r : STt × Int32) (h : fX11_days_l30c K30 l1 l2 g l3 = some r) : VJ p l e (rmL (L + 1)) s m args below meth c (QE below E (cellsM E r.1 ++ wx) (some (.int r.2)) args s) E 5 (cellsM E g ++ wx) [(0, .ref (aE E 28 0)), (1, .int l1), (2, .int l2), (3, .int l3)] [] 30 := by
  unfold fX11_days_l30c at h
  refine v_iload_n C 3 (dk dcX11_days_0 18 rfl) rfl rfl ?_
  refine v_iload_n C 1 (dk dcX11_days_0 19 rfl) rfl rfl ?_
  refine v_icmp_ge C 95 (dk dcX11_days_0 20 rfl) (by decide) (fun c_1 => ?_) (fun c_1 => ?_)
  · replace h := if_t c_1 h
    refine v_iload_n C 2 (dk dcX11_days_1 5 rfl) rfl rfl ?_
    refine v_if_ne C 106 (dk dcX11_days_1 6 rfl) (by decide) (fun c_2 => ?_) (fun c_2 => ?_)
    · replace h := if_f c_2 h
      refine v_iload_n C 2 (dk dcX11_days_1 10 rfl) rfl rfl ?_
      refine v_iconst C 1 (dk dcX11_days_1 11 rfl) ki_1 ?_
      refine v_icmp_ne C 121 (dk dcX11_days_1 12 rfl) (by decide) (fun c_3 => ?_) (fun c_3 => ?_)
      · replace h := if_f c_3 h
        refine v_aload_n C 0 (dk dcX11_days_1 18 rfl) rfl rfl ?_
        refine gt_Mo_is C wd_1112 (dk dcX11_days_1 19 rfl) ?_
        refine v_bipush C 12 (dk dcX11_days_1 20 rfl) kb_12 ?_
        obtain ⟨b_4, h⟩ := gd_t h
        refine ld_m_is C b_4 (dk dcX11_days_1 21 rfl) ?_
        exact vj_sub [0] rfl (vX11_days_j128 hL C _ h)
      · replace h := if_t c_3 h
        refine v_aload_n C 0 (dk dcX11_days_1 13 rfl) rfl rfl ?_
        refine gt_Mo_is C wd_1112 (dk dcX11_days_1 14 rfl) ?_
        refine v_bipush C 6 (dk dcX11_days_1 15 rfl) kb_6 ?_
        obtain ⟨b_4, h⟩ := gd_t h
        refine ld_m_is C b_4 (dk dcX11_days_1 16 rfl) ?_
        refine v_goto C 128 (dk dcX11_days_1 17 rfl) (by decide) ?_
        exact vj_sub [0] rfl (vX11_days_j128 hL C _ h)
    · replace h := if_t c_2 h
      refine v_aload_n C 0 (dk dcX11_days_1 7 rfl) rfl rfl ?_
      obtain ⟨r_4, h_3, h⟩ := bnd1_s h
      refine v_callV1 C (mtX11_learnt (L - 1) (by omega) h_3) wmX11_learnt wd_1293 (by omega) (by decide) rfl _ (ce_Mo) rfl rfl (Nat.le_of_ble_eq_true rfl) (dk dcX11_days_1 8 rfl) ?_
      refine v_goto C 128 (dk dcX11_days_1 9 rfl) (by decide) ?_
      exact vj_sub [0] rfl (vX11_days_j128 hL C _ h)
  · replace h := if_f c_1 h
    refine v_aload_n C 0 (dk dcX11_days_0 21 rfl) rfl rfl ?_
    refine gt_Mo_is C wd_1112 (dk dcX11_days_0 22 rfl) ?_
    refine v_bipush C 12 (dk dcX11_days_0 23 rfl) kb_12 ?_
    refine v_iconst C 0 (dk dcX11_days_0 24 rfl) ki_0 ?_
    obtain ⟨b_2, h⟩ := gd_t h
    refine st_m_is C b_2 (dk dcX11_days_0 25 rfl) ?_
    refine v_aload_n C 0 (dk dcX11_days_0 26 rfl) rfl rfl ?_
    refine gt_Mo_is C wd_1112 (dk dcX11_days_0 27 rfl) ?_
    refine v_bipush C 9 (dk dcX11_days_0 28 rfl) kb_9 ?_
    refine v_iconst C 0 (dk dcX11_days_0 29 rfl) ki_0 ?_
    obtain ⟨b_3, h⟩ := gd_t h
    refine st_m_is C b_3 (dk dcX11_days_0 30 rfl) ?_
    refine v_aload_n C 0 (dk dcX11_days_0 31 rfl) rfl rfl ?_
    refine gt_Mo_is C wd_1112 (dk dcX11_days_0 32 rfl) ?_
    refine v_bipush C 13 (dk dcX11_days_0 33 rfl) kb_13 ?_
    refine v_iconst C 0 (dk dcX11_days_0 34 rfl) ki_0 ?_
    obtain ⟨b_4, h⟩ := gd_t h
    refine st_m_is C b_4 (dk dcX11_days_0 35 rfl) ?_
    refine v_iconst C 0 (dk dcX11_days_0 36 rfl) ki_0 ?_
    refine v_istore C (lv' := [(4, .int 0), (0, .ref (aE E 28 0)), (1, .int l1), (2, .int l2), (3, .int l3)]) (dk dcX11_days_0 37 rfl) (by decide) rfl ?_
    exact vj_sub [1, 2, 3, 4, 0] rfl (vX11_days_l62 hL C hK30 _ h)
set_option maxRecDepth 20000 in
set_option maxHeartbeats 4000000 in
theorem vX11_days_l30 {L : Nat} (hL : 10 ≤ L) (C : CX p s m args meth c cX11_days 5 RX11 (some .int) E) {l1 : Int32} {l2 : Int32} {g : STt} {l3 : Int32} (r : STt × Int32) (h : fX11_days_l30 l1 l2 g l3 = some r) : VJ p l e (rmL (L + 1)) s m args below meth c (QE below E (cellsM E r.1 ++ wx) (some (.int r.2)) args s) E 5 (cellsM E g ++ wx) [(0, .ref (aE E 28 0)), (1, .int l1), (2, .int l2), (3, .int l3)] [] 30 :=
  iterO_ind (F := fun K z => fX11_days_l30c K l1 l2 z.1 z.2) (fun z r => VJ p l e (rmL (L + 1)) s m args below meth c (QE below E (cellsM E r.1 ++ wx) (some (.int r.2)) args s) E 5 (cellsM E z.1 ++ wx) [(0, .ref (aE E 28 0)), (1, .int l1), (2, .int l2), (3, .int z.2)] [] 30) (fun K hK z r h => vX11_days_l30c hL C (fun {g} {l3} r h => hK (g, l3) r h) r h) fuelN (g, l3) r h
set_option maxRecDepth 20000 in
set_option maxHeartbeats 4000000 in
theorem mtX11_days {l : Launch} {E : WEt} {wx : va_W} (L : Nat) (hL : 10 ≤ L)  {g : STt} {x1 : Int32} {x2 : Int32} {g' : STt} {rr : Int32} (h : fX11_days g x1 x2 = some (g', rr)) : MT l E yX11_days cX11_days 5 (some .int) (L + 1) [.ref (aE E 28 0), .int x1, .int x2] (cellsM E g ++ wx) (cellsM E g' ++ wx) (some (.int rr)) := by
  refine mt_of (by decide +kernel) (Nat.le_of_ble_eq_true rfl) ?_
  intro p e s m args below meth c C
  replace C : CX p s m args meth c cX11_days 5 RX11 (some .int) E := C
  unfold fX11_days at h
  refine vj_sub (lv' := [(0, .ref (aE E 28 0)), (1, .int x1), (2, .int x2)]) [0, 1, 2] rfl ?_
  refine v_iload_n C 2 (dk dcX11_days_0 0 rfl) rfl rfl ?_
  refine v_iconst C 0 (dk dcX11_days_0 1 rfl) ki_0 ?_
  refine v_iconst C 2 (dk dcX11_days_0 2 rfl) ki_2 ?_
  obtain ⟨r_2, h_1, h⟩ := bnd1_s h
  refine v_callS1 C (mtX11_in (L - 1) (by omega) h_1) wmX11_in wd_1266 (by omega) (by decide) rfl rfl (Nat.le_of_ble_eq_true rfl) (dk dcX11_days_0 3 rfl) ?_
  refine v_if_ne C 11 (dk dcX11_days_0 4 rfl) (by decide) (fun c_3 => ?_) (fun c_3 => ?_)
  · replace h := if_f c_3 h
    refine v_iload_n C 1 (dk dcX11_days_0 7 rfl) rfl rfl ?_
    refine v_iconst C 0 (dk dcX11_days_0 8 rfl) ki_0 ?_
    refine v_bipush C 99 (dk dcX11_days_0 9 rfl) kb_99 ?_
    obtain ⟨r_5, h_4, h⟩ := bnd1_s h
    refine v_callS1 C (mtX11_in (L - 1) (by omega) h_4) wmX11_in wd_1266 (by omega) (by decide) rfl rfl (Nat.le_of_ble_eq_true rfl) (dk dcX11_days_0 10 rfl) ?_
    refine v_if_ne C 24 (dk dcX11_days_0 11 rfl) (by decide) (fun c_6 => ?_) (fun c_6 => ?_)
    · replace h := if_f c_6 h
      refine v_aload_n C 0 (dk dcX11_days_0 14 rfl) rfl rfl ?_
      obtain ⟨g_8, h_7, h⟩ := bnd1_s h
      refine v_callV0 C (mtX11_keepNow (L - 1) (by omega) h_7) wmX11_keepNow wd_1443 (by omega) (by decide) rfl _ (ce_Mo) rfl rfl (Nat.le_of_ble_eq_true rfl) (dk dcX11_days_0 15 rfl) ?_
      refine v_iconst C 0 (dk dcX11_days_0 16 rfl) ki_0 ?_
      refine v_istore_n C (lv' := [(3, .int 0), (0, .ref (aE E 28 0)), (1, .int x1), (2, .int x2)]) (dk dcX11_days_0 17 rfl) rfl (by decide) rfl ?_
      exact vj_sub [1, 2, 3, 0] rfl (vX11_days_l30 hL C _ h)
    · replace h := if_t c_6 h
      refine v_bipush C (-2) (dk dcX11_days_0 12 rfl) kb_m2 ?_
      cases h
      exact v_iret C rfl (dk dcX11_days_0 13 rfl)
  · replace h := if_t c_3 h
    refine v_iconst C (-1) (dk dcX11_days_0 5 rfl) ki_m1 ?_
    cases h
    exact v_iret C rfl (dk dcX11_days_0 6 rfl)
set_option maxRecDepth 20000 in
set_option maxHeartbeats 4000000 in
theorem mtX11_count {l : Launch} {E : WEt} {wx : va_W} (L : Nat) (hL : 2 ≤ L)  {g : STt} {x1 : Int32} {rr : Int32} (h : fX11_count g x1 = some rr) : MT l E yX11_count cX11_count 2 (some .int) (L + 1) [.ref (aE E 28 0), .int x1] (cellsM E g ++ wx) (cellsM E g ++ wx) (some (.int rr)) := by
  refine mt_of (by decide +kernel) (Nat.le_of_ble_eq_true rfl) ?_
  intro p e s m args below meth c C
  replace C : CX p s m args meth c cX11_count 2 RX11 (some .int) E := C
  unfold fX11_count at h
  refine vj_sub (lv' := [(0, .ref (aE E 28 0)), (1, .int x1)]) [0, 1] rfl ?_
  refine v_iload_n C 1 (dk dcX11_count_0 0 rfl) rfl rfl ?_
  by_cases c_1 : x1 = 0
  · replace h := if_t c_1 h
    refine v_tableIn C 44 (dk dcX11_count_0 1 rfl) (by rw [c_1]; decide) (by rw [c_1]; decide) (by rw [c_1]; rfl) (by decide) ?_
    refine v_aload_n C 0 (dk dcX11_count_0 2 rfl) rfl rfl ?_
    refine gt_Mo_places C wd_1108 (dk dcX11_count_0 3 rfl) ?_
    cases h
    exact v_iret C rfl (dk dcX11_count_0 4 rfl)
  · replace h := if_f c_1 h
    by_cases c_2 : x1 = 1
    · replace h := if_t c_2 h
      refine v_tableIn C 49 (dk dcX11_count_0 1 rfl) (by rw [c_2]; decide) (by rw [c_2]; decide) (by rw [c_2]; rfl) (by decide) ?_
      refine v_aload_n C 0 (dk dcX11_count_0 5 rfl) rfl rfl ?_
      refine gt_Mo_laws C wd_1115 (dk dcX11_count_0 6 rfl) ?_
      cases h
      exact v_iret C rfl (dk dcX11_count_0 7 rfl)
    · replace h := if_f c_2 h
      by_cases c_3 : x1 = 2
      · replace h := if_t c_3 h
        refine v_tableIn C 54 (dk dcX11_count_0 1 rfl) (by rw [c_3]; decide) (by rw [c_3]; decide) (by rw [c_3]; rfl) (by decide) ?_
        refine v_aload_n C 0 (dk dcX11_count_0 8 rfl) rfl rfl ?_
        refine gt_Mo_rowMany C wd_1133 (dk dcX11_count_0 9 rfl) ?_
        cases h
        exact v_iret C rfl (dk dcX11_count_0 10 rfl)
      · replace h := if_f c_3 h
        by_cases c_4 : x1 = 3
        · replace h := if_t c_4 h
          refine v_tableIn C 59 (dk dcX11_count_0 1 rfl) (by rw [c_4]; decide) (by rw [c_4]; decide) (by rw [c_4]; rfl) (by decide) ?_
          refine v_aload_n C 0 (dk dcX11_count_0 11 rfl) rfl rfl ?_
          refine gt_Mo_filmed C wd_1140 (dk dcX11_count_0 12 rfl) ?_
          cases h
          exact v_iret C rfl (dk dcX11_count_0 13 rfl)
        · replace h := if_f c_4 h
          by_cases c_5 : x1 = 4
          · replace h := if_t c_5 h
            refine v_tableIn C 64 (dk dcX11_count_0 1 rfl) (by rw [c_5]; decide) (by rw [c_5]; decide) (by rw [c_5]; rfl) (by decide) ?_
            refine v_aload_n C 0 (dk dcX11_count_0 14 rfl) rfl rfl ?_
            refine gt_Mo_beasts C wd_1138 (dk dcX11_count_0 15 rfl) ?_
            cases h
            exact v_iret C rfl (dk dcX11_count_0 16 rfl)
          · replace h := if_f c_5 h
            by_cases c_6 : x1 = 5
            · replace h := if_t c_6 h
              refine v_tableIn C 69 (dk dcX11_count_0 1 rfl) (by rw [c_6]; decide) (by rw [c_6]; decide) (by rw [c_6]; rfl) (by decide) ?_
              refine v_aload_n C 0 (dk dcX11_count_0 17 rfl) rfl rfl ?_
              refine gt_Mo_taped C wd_1114 (dk dcX11_count_0 18 rfl) ?_
              cases h
              exact v_iret C rfl (dk dcX11_count_0 19 rfl)
            · replace h := if_f c_6 h
              by_cases c_7 : x1 = 6
              · replace h := if_t c_7 h
                refine v_tableIn C 74 (dk dcX11_count_0 1 rfl) (by rw [c_7]; decide) (by rw [c_7]; decide) (by rw [c_7]; rfl) (by decide) ?_
                refine v_aload_n C 0 (dk dcX11_count_0 20 rfl) rfl rfl ?_
                refine gt_Mo_traces C wd_1156 (dk dcX11_count_0 21 rfl) ?_
                cases h
                exact v_iret C rfl (dk dcX11_count_0 22 rfl)
              · replace h := if_f c_7 h
                have ec_1 := i32_ne (k := 0) c_1 (by decide)
                have ec_2 := i32_ne (k := 1) c_2 (by decide)
                have ec_3 := i32_ne (k := 2) c_3 (by decide)
                have ec_4 := i32_ne (k := 3) c_4 (by decide)
                have ec_5 := i32_ne (k := 4) c_5 (by decide)
                have ec_6 := i32_ne (k := 5) c_6 (by decide)
                have ec_7 := i32_ne (k := 6) c_7 (by decide)
                refine v_tableOut C 79 (dk dcX11_count_0 1 rfl) (by omega) (by decide) ?_
                refine v_bipush C (-2) (dk dcX11_count_0 23 rfl) kb_m2 ?_
                cases h
                exact v_iret C rfl (dk dcX11_count_0 24 rfl)
set_option maxRecDepth 20000 in
set_option maxHeartbeats 4000000 in
theorem mtX11_beast {l : Launch} {E : WEt} {wx : va_W} (L : Nat) (hL : 3 ≤ L)  {g : STt} {x1 : Int32} {g' : STt} {rr : Int32} (h : fX11_beast g x1 = some (g', rr)) : MT l E yX11_beast cX11_beast 2 (some .int) (L + 1) [.ref (aE E 28 0), .int x1] (cellsM E g ++ wx) (cellsM E g' ++ wx) (some (.int rr)) := by
  refine mt_of (by decide +kernel) (Nat.le_of_ble_eq_true rfl) ?_
  intro p e s m args below meth c C
  replace C : CX p s m args meth c cX11_beast 2 RX11 (some .int) E := C
  unfold fX11_beast at h
  refine vj_sub (lv' := [(0, .ref (aE E 28 0)), (1, .int x1)]) [0, 1] rfl ?_
  refine v_iload_n C 1 (dk dcX11_beast_0 0 rfl) rfl rfl ?_
  refine v_iconst C (-1) (dk dcX11_beast_0 1 rfl) ki_m1 ?_
  refine v_icmp_ne C 12 (dk dcX11_beast_0 2 rfl) (by decide) (fun c_1 => ?_) (fun c_1 => ?_)
  · replace h := if_f c_1 h
    refine v_iload_n C 1 (dk dcX11_beast_0 8 rfl) rfl rfl ?_
    refine v_iconst C 0 (dk dcX11_beast_0 9 rfl) ki_0 ?_
    refine v_bipush C 99 (dk dcX11_beast_0 10 rfl) kb_99 ?_
    obtain ⟨r_3, h_2, h⟩ := bnd1_s h
    refine v_callS1 C (mtX11_in (L - 1) (by omega) h_2) wmX11_in wd_1266 (by omega) (by decide) rfl rfl (Nat.le_of_ble_eq_true rfl) (dk dcX11_beast_0 11 rfl) ?_
    refine v_if_ne C 25 (dk dcX11_beast_0 12 rfl) (by decide) (fun c_4 => ?_) (fun c_4 => ?_)
    · replace h := if_f c_4 h
      refine v_aload_n C 0 (dk dcX11_beast_0 15 rfl) rfl rfl ?_
      refine gt_Mo_beasts C wd_1138 (dk dcX11_beast_0 16 rfl) ?_
      refine v_iconst C 4 (dk dcX11_beast_0 17 rfl) ki_4 ?_
      refine v_icmp_ne C 36 (dk dcX11_beast_0 18 rfl) (by decide) (fun c_5 => ?_) (fun c_5 => ?_)
      · replace h := if_f c_5 h
        refine v_aload_n C 0 (dk dcX11_beast_0 21 rfl) rfl rfl ?_
        refine gt_Mo_beastFear C wd_1139 (dk dcX11_beast_0 22 rfl) ?_
        refine v_aload_n C 0 (dk dcX11_beast_0 23 rfl) rfl rfl ?_
        refine gt_Mo_beasts C wd_1138 (dk dcX11_beast_0 24 rfl) ?_
        refine v_iload_n C 1 (dk dcX11_beast_0 25 rfl) rfl rfl ?_
        obtain ⟨b_6, h⟩ := gd_t h
        refine st_m_beastFear C b_6 (dk dcX11_beast_0 26 rfl) ?_
        refine v_aload_n C 0 (dk dcX11_beast_0 27 rfl) rfl rfl ?_
        refine v_dup C rfl (dk dcX11_beast_0 28 rfl) ?_
        refine gt_Mo_beasts C wd_1138 (dk dcX11_beast_0 29 rfl) ?_
        refine v_iconst C 1 (dk dcX11_beast_0 30 rfl) ki_1 ?_
        refine v_iadd C (dk dcX11_beast_0 31 rfl) ?_
        refine pt_Mo_beasts C wd_1138 (dk dcX11_beast_0 32 rfl) ?_
        refine v_aload_n C 0 (dk dcX11_beast_0 33 rfl) rfl rfl ?_
        refine gt_Mo_beasts C wd_1138 (dk dcX11_beast_0 34 rfl) ?_
        cases h
        exact v_iret C rfl (dk dcX11_beast_0 35 rfl)
      · replace h := if_t c_5 h
        refine v_bipush C (-4) (dk dcX11_beast_0 19 rfl) kb_m4 ?_
        cases h
        exact v_iret C rfl (dk dcX11_beast_0 20 rfl)
    · replace h := if_t c_4 h
      refine v_bipush C (-2) (dk dcX11_beast_0 13 rfl) kb_m2 ?_
      cases h
      exact v_iret C rfl (dk dcX11_beast_0 14 rfl)
  · replace h := if_t c_1 h
    refine v_aload_n C 0 (dk dcX11_beast_0 3 rfl) rfl rfl ?_
    refine v_iconst C 0 (dk dcX11_beast_0 4 rfl) ki_0 ?_
    refine pt_Mo_beasts C wd_1138 (dk dcX11_beast_0 5 rfl) ?_
    refine v_iconst C 0 (dk dcX11_beast_0 6 rfl) ki_0 ?_
    cases h
    exact v_iret C rfl (dk dcX11_beast_0 7 rfl)
end MS
