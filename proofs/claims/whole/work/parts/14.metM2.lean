section MS
variable {p : Program} {l : Launch} {e : Env} {s : State} {m : MethodId} {args : Array Value} {below : List Frame} {meth : Method} {c : Code} {E : WEt} {wx : va_W}
set_option maxRecDepth 20000 in
set_option maxHeartbeats 4000000 in
theorem mtX11_told {l : Launch} {E : WEt} {wx : va_W} (L : Nat) (hL : 6 ≤ L)  {g : STt} {x1 : Int32} {g' : STt} {rr : Int32} (h : fX11_told g x1 = some (g', rr)) : MT l E yX11_told cX11_told 2 (some .int) (L + 1) [.ref (aE E 28 0), .int x1] (cellsM E g ++ wx) (cellsM E g' ++ wx) (some (.int rr)) := by
  refine mt_of (by decide +kernel) (Nat.le_of_ble_eq_true rfl) ?_
  intro p e s m args below meth c C
  replace C : CX p s m args meth c cX11_told 2 RX11 (some .int) E := C
  unfold fX11_told at h
  refine vj_sub (lv' := [(0, .ref (aE E 28 0)), (1, .int x1)]) [0, 1] rfl ?_
  refine v_iload_n C 1 (dk dcX11_told_0 0 rfl) rfl rfl ?_
  refine v_iconst C 0 (dk dcX11_told_0 1 rfl) ki_0 ?_
  refine v_bipush C 6 (dk dcX11_told_0 2 rfl) kb_6 ?_
  obtain ⟨r_2, h_1, h⟩ := bnd1_s h
  refine v_callS1 C (mtX11_in (L - 1) (by omega) h_1) wmX11_in wd_1266 (by omega) (by decide) rfl rfl (Nat.le_of_ble_eq_true rfl) (dk dcX11_told_0 3 rfl) ?_
  refine v_if_ne C 12 (dk dcX11_told_0 4 rfl) (by decide) (fun c_3 => ?_) (fun c_3 => ?_)
  · replace h := if_f c_3 h
    refine v_iload_n C 1 (dk dcX11_told_0 7 rfl) rfl rfl ?_
    refine v_iconst C 2 (dk dcX11_told_0 8 rfl) ki_2 ?_
    refine v_icmp_le C 23 (dk dcX11_told_0 9 rfl) (by decide) (fun c_4 => ?_) (fun c_4 => ?_)
    · replace h := if_t c_4 h
      refine v_aload_n C 0 (dk dcX11_told_0 14 rfl) rfl rfl ?_
      obtain ⟨r_6, h_5, h⟩ := bnd1_s h
      refine v_callV1 C (mtX11_isOver (L - 1) (by omega) h_5) wmX11_isOver wd_1361 (by omega) (by decide) rfl _ (ce_Mo) rfl rfl (Nat.le_of_ble_eq_true rfl) (dk dcX11_told_0 15 rfl) ?_
      refine v_if_eq C 35 (dk dcX11_told_0 16 rfl) (by decide) (fun c_7 => ?_) (fun c_7 => ?_)
      · replace h := if_t c_7 h
        refine v_aload_n C 0 (dk dcX11_told_0 19 rfl) rfl rfl ?_
        refine v_iload_n C 1 (dk dcX11_told_0 20 rfl) rfl rfl ?_
        obtain ⟨g_9, r_10, h_8, h⟩ := bnd_s h
        refine v_callV1 C (mtX11_sumOf (L - 1) (by omega) h_8) wmX11_sumOf wd_1365 (by omega) (by decide) rfl _ (ce_Mo) rfl rfl (Nat.le_of_ble_eq_true rfl) (dk dcX11_told_0 21 rfl) ?_
        cases h
        exact v_iret C rfl (dk dcX11_told_0 22 rfl)
      · replace h := if_f c_7 h
        refine v_bipush C (-3) (dk dcX11_told_0 17 rfl) kb_m3 ?_
        refine v_goto C 40 (dk dcX11_told_0 18 rfl) (by decide) ?_
        cases h
        exact v_iret C rfl (dk dcX11_told_0 22 rfl)
    · replace h := if_f c_4 h
      refine v_aload_n C 0 (dk dcX11_told_0 10 rfl) rfl rfl ?_
      refine v_iload_n C 1 (dk dcX11_told_0 11 rfl) rfl rfl ?_
      obtain ⟨r_6, h_5, h⟩ := bnd1_s h
      refine v_callV1 C (mtX11_lastOf (L - 1) (by omega) h_5) wmX11_lastOf wd_1357 (by omega) (by decide) rfl _ (ce_Mo) rfl rfl (Nat.le_of_ble_eq_true rfl) (dk dcX11_told_0 12 rfl) ?_
      cases h
      exact v_iret C rfl (dk dcX11_told_0 13 rfl)
  · replace h := if_t c_3 h
    refine v_iconst C (-1) (dk dcX11_told_0 5 rfl) ki_m1 ?_
    cases h
    exact v_iret C rfl (dk dcX11_told_0 6 rfl)
set_option maxRecDepth 20000 in
set_option maxHeartbeats 4000000 in
theorem mtX11_isTape {l : Launch} {E : WEt} {wx : va_W} (L : Nat) (hL : 3 ≤ L)  {g : STt} {x0 : Int32} {rr : Int32} (h : fX11_isTape g x0 = some rr) : MT l E yX11_isTape cX11_isTape 1 (some .boolean) (L + 1) [.int x0] (cellsM E g ++ wx) (cellsM E g ++ wx) (some (.int rr)) := by
  refine mt_of (by decide +kernel) (Nat.le_of_ble_eq_true rfl) ?_
  intro p e s m args below meth c C
  replace C : CX p s m args meth c cX11_isTape 1 RX11 (some .boolean) E := C
  unfold fX11_isTape at h
  refine vj_sub (lv' := [(0, .int x0)]) [0] rfl ?_
  refine v_iload_n C 0 (dk dcX11_isTape_0 0 rfl) rfl rfl ?_
  refine v_iconst C 0 (dk dcX11_isTape_0 1 rfl) ki_0 ?_
  refine v_iconst C 5 (dk dcX11_isTape_0 2 rfl) ki_5 ?_
  obtain ⟨r_2, h_1, h⟩ := bnd1_s h
  refine v_callS1 C (mtX11_in (L - 1) (by omega) h_1) wmX11_in wd_1266 (by omega) (by decide) rfl rfl (Nat.le_of_ble_eq_true rfl) (dk dcX11_isTape_0 3 rfl) ?_
  obtain ⟨b_3, h⟩ := gd_t h
  cases h
  exact v_zret C rfl (nw_boolean b_3) (dk dcX11_isTape_0 4 rfl)
set_option maxRecDepth 20000 in
set_option maxHeartbeats 4000000 in
theorem vX11_tape_l68c {L : Nat} (hL : 4 ≤ L) (C : CX p s m args meth c cX11_tape 5 RX11 (some .int) E) {l1 : Int32} {l3 : Int32} {K68 : (STt × Int32) → Option (STt × Int32)} (hK68 : ∀ {g : STt} {l4 : Int32} (r : STt × Int32), K68 (g, l4) = some r → VJ p l e (rmL (L + 1)) s m args below meth c (QE below E (cellsM E r.1 ++ wx) (some (.int r.2)) args s) E 5 (cellsM E g ++ wx) [(0, .ref (aE E 28 0)), (1, .int l1), (3, .int l3), (4, .int l4)] [] 68) {g : STt} {l4 : Int32} (r : STt × Int32) (h : fX11_tape_l68c K68 l1 l3 g l4 = some r) : VJ p l e (rmL (L + 1)) s m args below meth c (QE below E (cellsM E r.1 ++ wx) (some (.int r.2)) args s) E 5 (cellsM E g ++ wx) [(0, .ref (aE E 28 0)), (1, .int l1), (3, .int l3), (4, .int l4)] [] 68 := by
  unfold fX11_tape_l68c at h
  refine v_iload C 3 (dk dcX11_tape_0 43 rfl) rfl ?_
  refine v_iload_n C 2 (dk dcX11_tape_0 44 rfl) rfl rfl ?_
  refine v_icmp_ge C 93 (dk dcX11_tape_0 45 rfl) (by decide) (fun c_1 => ?_) (fun c_1 => ?_)
  · replace h := if_t c_1 h
    refine v_iconst C 1 (dk dcX11_tape_1 9 rfl) ki_1 ?_
    cases h
    exact v_iret C rfl (dk dcX11_tape_1 10 rfl)
  · replace h := if_f c_1 h
    refine v_aload_n C 0 (dk dcX11_tape_0 46 rfl) rfl rfl ?_
    refine gt_Mo_items C wd_1144 (dk dcX11_tape_0 47 rfl) ?_
    refine v_bipush C 60 (dk dcX11_tape_1 0 rfl) kb_60 ?_
    refine v_iload_n C 1 (dk dcX11_tape_1 1 rfl) rfl rfl ?_
    refine v_imul C (dk dcX11_tape_1 2 rfl) ?_
    refine v_iload C 3 (dk dcX11_tape_1 3 rfl) rfl ?_
    refine v_iadd C (dk dcX11_tape_1 4 rfl) ?_
    refine v_lconst C 0 (dk dcX11_tape_1 5 rfl) rfl ?_
    obtain ⟨b_2, h⟩ := gd_t h
    refine st_m_items C b_2 (dk dcX11_tape_1 6 rfl) ?_
    refine v_iinc C (lv' := [(4, .int (l4 + 1)), (0, .ref (aE E 28 0)), (1, .int l1), (3, .int l3)]) (l4 + 1) 3 (dk dcX11_tape_1 7 rfl) rfl (congrArg (fun z => l4 + z) ki_1) (by decide) rfl ?_
    refine v_goto C 68 (dk dcX11_tape_1 8 rfl) (by decide) ?_
    exact vj_sub [1, 2, 3, 0] rfl (hK68 _ h)
set_option maxRecDepth 20000 in
set_option maxHeartbeats 4000000 in
theorem vX11_tape_l68 {L : Nat} (hL : 4 ≤ L) (C : CX p s m args meth c cX11_tape 5 RX11 (some .int) E) {l1 : Int32} {l3 : Int32} {g : STt} {l4 : Int32} (r : STt × Int32) (h : fX11_tape_l68 l1 l3 g l4 = some r) : VJ p l e (rmL (L + 1)) s m args below meth c (QE below E (cellsM E r.1 ++ wx) (some (.int r.2)) args s) E 5 (cellsM E g ++ wx) [(0, .ref (aE E 28 0)), (1, .int l1), (3, .int l3), (4, .int l4)] [] 68 :=
  iterO_ind (F := fun K z => fX11_tape_l68c K l1 l3 z.1 z.2) (fun z r => VJ p l e (rmL (L + 1)) s m args below meth c (QE below E (cellsM E r.1 ++ wx) (some (.int r.2)) args s) E 5 (cellsM E z.1 ++ wx) [(0, .ref (aE E 28 0)), (1, .int l1), (3, .int l3), (4, .int z.2)] [] 68) (fun K hK z r h => vX11_tape_l68c hL C (fun {g} {l4} r h => hK (g, l4) r h) r h) fuelN (g, l4) r h
set_option maxRecDepth 20000 in
set_option maxHeartbeats 4000000 in
theorem mtX11_tape {l : Launch} {E : WEt} {wx : va_W} (L : Nat) (hL : 4 ≤ L)  {g : STt} {x1 : Int32} {x2 : Int32} {x3 : Int32} {g' : STt} {rr : Int32} (h : fX11_tape g x1 x2 x3 = some (g', rr)) : MT l E yX11_tape cX11_tape 5 (some .int) (L + 1) [.ref (aE E 28 0), .int x1, .int x2, .int x3] (cellsM E g ++ wx) (cellsM E g' ++ wx) (some (.int rr)) := by
  refine mt_of (by decide +kernel) (Nat.le_of_ble_eq_true rfl) ?_
  intro p e s m args below meth c C
  replace C : CX p s m args meth c cX11_tape 5 RX11 (some .int) E := C
  unfold fX11_tape at h
  refine vj_sub (lv' := [(0, .ref (aE E 28 0)), (1, .int x1), (2, .int x2), (3, .int x3)]) [0, 1, 2, 3] rfl ?_
  refine v_iload_n C 1 (dk dcX11_tape_0 0 rfl) rfl rfl ?_
  obtain ⟨r_2, h_1, h⟩ := bnd1_s h
  refine v_callS1 C (mtX11_isTape (L - 1) (by omega) h_1) wmX11_isTape wd_1526 (by omega) (by decide) rfl rfl (Nat.le_of_ble_eq_true rfl) (dk dcX11_tape_0 1 rfl) ?_
  refine v_if_ne C 9 (dk dcX11_tape_0 2 rfl) (by decide) (fun c_3 => ?_) (fun c_3 => ?_)
  · replace h := if_f c_3 h
    refine v_iload_n C 2 (dk dcX11_tape_0 5 rfl) rfl rfl ?_
    refine v_iconst C (-1) (dk dcX11_tape_0 6 rfl) ki_m1 ?_
    refine v_iconst C 4 (dk dcX11_tape_0 7 rfl) ki_4 ?_
    obtain ⟨r_5, h_4, h⟩ := bnd1_s h
    refine v_callS1 C (mtX11_in (L - 1) (by omega) h_4) wmX11_in wd_1266 (by omega) (by decide) rfl rfl (Nat.le_of_ble_eq_true rfl) (dk dcX11_tape_0 8 rfl) ?_
    refine v_if_ne C 21 (dk dcX11_tape_0 9 rfl) (by decide) (fun c_6 => ?_) (fun c_6 => ?_)
    · replace h := if_f c_6 h
      refine v_iload_n C 2 (dk dcX11_tape_0 12 rfl) rfl rfl ?_
      refine v_iconst C (-1) (dk dcX11_tape_0 13 rfl) ki_m1 ?_
      refine v_icmp_ne C 35 (dk dcX11_tape_0 14 rfl) (by decide) (fun c_7 => ?_) (fun c_7 => ?_)
      · replace h := if_f c_7 h
        refine v_iload_n C 3 (dk dcX11_tape_0 22 rfl) rfl rfl ?_
        refine v_bipush C 60 (dk dcX11_tape_0 23 rfl) kb_60 ?_
        refine v_icmp_le C 44 (dk dcX11_tape_0 24 rfl) (by decide) (fun c_8 => ?_) (fun c_8 => ?_)
        · replace h := if_t c_8 h
          refine v_iload_n C 3 (dk dcX11_tape_0 27 rfl) rfl rfl ?_
          refine v_if_ge C 51 (dk dcX11_tape_0 28 rfl) (by decide) (fun c_9 => ?_) (fun c_9 => ?_)
          · replace h := if_t c_9 h
            refine v_aload_n C 0 (dk dcX11_tape_0 31 rfl) rfl rfl ?_
            refine gt_Mo_tapeSort C wd_1142 (dk dcX11_tape_0 32 rfl) ?_
            refine v_iload_n C 1 (dk dcX11_tape_0 33 rfl) rfl rfl ?_
            refine v_iload_n C 2 (dk dcX11_tape_0 34 rfl) rfl rfl ?_
            obtain ⟨b_10, h⟩ := gd_t h
            refine st_m_tapeSort C b_10 (dk dcX11_tape_0 35 rfl) ?_
            refine v_aload_n C 0 (dk dcX11_tape_0 36 rfl) rfl rfl ?_
            refine gt_Mo_tapeSize C wd_1143 (dk dcX11_tape_0 37 rfl) ?_
            refine v_iload_n C 1 (dk dcX11_tape_0 38 rfl) rfl rfl ?_
            refine v_iload_n C 3 (dk dcX11_tape_0 39 rfl) rfl rfl ?_
            obtain ⟨b_11, h⟩ := gd_t h
            refine st_m_tapeSize C b_11 (dk dcX11_tape_0 40 rfl) ?_
            refine v_iconst C 0 (dk dcX11_tape_0 41 rfl) ki_0 ?_
            refine v_istore C (lv' := [(4, .int 0), (0, .ref (aE E 28 0)), (1, .int x1), (2, .int x2), (3, .int x3)]) (dk dcX11_tape_0 42 rfl) (by decide) rfl ?_
            exact vj_sub [1, 2, 4, 0] rfl (vX11_tape_l68 hL C _ h)
          · replace h := if_f c_9 h
            refine v_bipush C (-14) (dk dcX11_tape_0 29 rfl) kb_m14 ?_
            cases h
            exact v_iret C rfl (dk dcX11_tape_0 30 rfl)
        · replace h := if_f c_8 h
          refine v_bipush C (-2) (dk dcX11_tape_0 25 rfl) kb_m2 ?_
          cases h
          exact v_iret C rfl (dk dcX11_tape_0 26 rfl)
      · replace h := if_t c_7 h
        refine v_aload_n C 0 (dk dcX11_tape_0 15 rfl) rfl rfl ?_
        refine gt_Mo_tapeSort C wd_1142 (dk dcX11_tape_0 16 rfl) ?_
        refine v_iload_n C 1 (dk dcX11_tape_0 17 rfl) rfl rfl ?_
        refine v_iconst C (-1) (dk dcX11_tape_0 18 rfl) ki_m1 ?_
        obtain ⟨b_8, h⟩ := gd_t h
        refine st_m_tapeSort C b_8 (dk dcX11_tape_0 19 rfl) ?_
        refine v_iconst C 1 (dk dcX11_tape_0 20 rfl) ki_1 ?_
        cases h
        exact v_iret C rfl (dk dcX11_tape_0 21 rfl)
    · replace h := if_t c_6 h
      refine v_bipush C (-2) (dk dcX11_tape_0 10 rfl) kb_m2 ?_
      cases h
      exact v_iret C rfl (dk dcX11_tape_0 11 rfl)
  · replace h := if_t c_3 h
    refine v_iconst C (-1) (dk dcX11_tape_0 3 rfl) ki_m1 ?_
    cases h
    exact v_iret C rfl (dk dcX11_tape_0 4 rfl)
set_option maxRecDepth 20000 in
set_option maxHeartbeats 4000000 in
theorem mtX11_isPlace {l : Launch} {E : WEt} {wx : va_W} (L : Nat) (hL : 3 ≤ L)  {g : STt} {x1 : Int32} {rr : Int32} (h : fX11_isPlace g x1 = some rr) : MT l E yX11_isPlace cX11_isPlace 2 (some .boolean) (L + 1) [.ref (aE E 28 0), .int x1] (cellsM E g ++ wx) (cellsM E g ++ wx) (some (.int rr)) := by
  refine mt_of (by decide +kernel) (Nat.le_of_ble_eq_true rfl) ?_
  intro p e s m args below meth c C
  replace C : CX p s m args meth c cX11_isPlace 2 RX11 (some .boolean) E := C
  unfold fX11_isPlace at h
  refine vj_sub (lv' := [(0, .ref (aE E 28 0)), (1, .int x1)]) [0, 1] rfl ?_
  refine v_iload_n C 1 (dk dcX11_isPlace_0 0 rfl) rfl rfl ?_
  refine v_iconst C 0 (dk dcX11_isPlace_0 1 rfl) ki_0 ?_
  refine v_aload_n C 0 (dk dcX11_isPlace_0 2 rfl) rfl rfl ?_
  refine gt_Mo_places C wd_1108 (dk dcX11_isPlace_0 3 rfl) ?_
  refine v_iconst C 1 (dk dcX11_isPlace_0 4 rfl) ki_1 ?_
  refine v_isub C (dk dcX11_isPlace_0 5 rfl) ?_
  obtain ⟨r_2, h_1, h⟩ := bnd1_s h
  refine v_callS1 C (mtX11_in (L - 1) (by omega) h_1) wmX11_in wd_1266 (by omega) (by decide) rfl rfl (Nat.le_of_ble_eq_true rfl) (dk dcX11_isPlace_0 6 rfl) ?_
  obtain ⟨b_3, h⟩ := gd_t h
  cases h
  exact v_zret C rfl (nw_boolean b_3) (dk dcX11_isPlace_0 7 rfl)
set_option maxRecDepth 20000 in
set_option maxHeartbeats 4000000 in
theorem vX11_isUnder_j40 {L : Nat} (hL : 2 ≤ L) (C : CX p s m args meth c cX11_isUnder 2 RX11 (some .boolean) E) {g : STt} (r : Int32) (h : fX11_isUnder_j40 g = some r) : VJ p l e (rmL (L + 1)) s m args below meth c (QE below E (cellsM E g ++ wx) (some (.int r)) args s) E 2 (cellsM E g ++ wx) [] [] 40 := by
  unfold fX11_isUnder_j40 at h
  refine v_iconst C 1 (dk dcX11_isUnder_0 23 rfl) ki_1 ?_
  refine v_goto C 45 (dk dcX11_isUnder_0 24 rfl) (by decide) ?_
  cases h
  exact v_zret C (x := 1) rfl rfl (dk dcX11_isUnder_0 26 rfl)
set_option maxRecDepth 20000 in
set_option maxHeartbeats 4000000 in
theorem vX11_isUnder_j29 {L : Nat} (hL : 2 ≤ L) (C : CX p s m args meth c cX11_isUnder 2 RX11 (some .boolean) E) {g : STt} {l0 : Int32} {l1 : Int32} (r : Int32) (h : fX11_isUnder_j29 g l0 l1 = some r) : VJ p l e (rmL (L + 1)) s m args below meth c (QE below E (cellsM E g ++ wx) (some (.int r)) args s) E 2 (cellsM E g ++ wx) [(0, .int l0), (1, .int l1)] [] 29 := by
  unfold fX11_isUnder_j29 at h
  refine v_iload_n C 1 (dk dcX11_isUnder_0 17 rfl) rfl rfl ?_
  refine v_iconst C 3 (dk dcX11_isUnder_0 18 rfl) ki_3 ?_
  refine v_icmp_ne C 44 (dk dcX11_isUnder_0 19 rfl) (by decide) (fun c_1 => ?_) (fun c_1 => ?_)
  · replace h := if_f c_1 h
    refine v_iconst C 0 (dk dcX11_isUnder_0 25 rfl) ki_0 ?_
    cases h
    exact v_zret C (x := 0) rfl rfl (dk dcX11_isUnder_0 26 rfl)
  · replace h := if_t c_1 h
    refine v_iload_n C 0 (dk dcX11_isUnder_0 20 rfl) rfl rfl ?_
    refine v_bipush C 6 (dk dcX11_isUnder_0 21 rfl) kb_6 ?_
    refine v_icmp_ne C 44 (dk dcX11_isUnder_0 22 rfl) (by decide) (fun c_2 => ?_) (fun c_2 => ?_)
    · replace h := if_f c_2 h
      refine v_iconst C 0 (dk dcX11_isUnder_0 25 rfl) ki_0 ?_
      cases h
      exact v_zret C (x := 0) rfl rfl (dk dcX11_isUnder_0 26 rfl)
    · replace h := if_t c_2 h
      exact vj_sub [] rfl (vX11_isUnder_j40 hL C _ h)
set_option maxRecDepth 20000 in
set_option maxHeartbeats 4000000 in
theorem vX11_isUnder_j19 {L : Nat} (hL : 2 ≤ L) (C : CX p s m args meth c cX11_isUnder 2 RX11 (some .boolean) E) {g : STt} {l0 : Int32} {l1 : Int32} (r : Int32) (h : fX11_isUnder_j19 g l0 l1 = some r) : VJ p l e (rmL (L + 1)) s m args below meth c (QE below E (cellsM E g ++ wx) (some (.int r)) args s) E 2 (cellsM E g ++ wx) [(0, .int l0), (1, .int l1)] [] 19 := by
  unfold fX11_isUnder_j19 at h
  refine v_iload_n C 1 (dk dcX11_isUnder_0 11 rfl) rfl rfl ?_
  refine v_iconst C 2 (dk dcX11_isUnder_0 12 rfl) ki_2 ?_
  refine v_icmp_ne C 29 (dk dcX11_isUnder_0 13 rfl) (by decide) (fun c_1 => ?_) (fun c_1 => ?_)
  · replace h := if_f c_1 h
    exact vj_sub [0, 1] rfl (vX11_isUnder_j29 hL C _ h)
  · replace h := if_t c_1 h
    refine v_iload_n C 0 (dk dcX11_isUnder_0 14 rfl) rfl rfl ?_
    refine v_iconst C 5 (dk dcX11_isUnder_0 15 rfl) ki_5 ?_
    refine v_icmp_eq C 40 (dk dcX11_isUnder_0 16 rfl) (by decide) (fun c_2 => ?_) (fun c_2 => ?_)
    · replace h := if_t c_2 h
      exact vj_sub [] rfl (vX11_isUnder_j40 hL C _ h)
    · replace h := if_f c_2 h
      exact vj_sub [0, 1] rfl (vX11_isUnder_j29 hL C _ h)
set_option maxRecDepth 20000 in
set_option maxHeartbeats 4000000 in
theorem mtX11_isUnder {l : Launch} {E : WEt} {wx : va_W} (L : Nat) (hL : 2 ≤ L)  {g : STt} {x0 : Int32} {x1 : Int32} {rr : Int32} (h : fX11_isUnder g x0 x1 = some rr) : MT l E yX11_isUnder cX11_isUnder 2 (some .boolean) (L + 1) [.int x0, .int x1] (cellsM E g ++ wx) (cellsM E g ++ wx) (some (.int rr)) := by
  refine mt_of (by decide +kernel) (Nat.le_of_ble_eq_true rfl) ?_
  intro p e s m args below meth c C
  replace C : CX p s m args meth c cX11_isUnder 2 RX11 (some .boolean) E := C
  unfold fX11_isUnder at h
  refine vj_sub (lv' := [(0, .int x0), (1, .int x1)]) [0, 1] rfl ?_
  refine v_iload_n C 1 (dk dcX11_isUnder_0 0 rfl) rfl rfl ?_
  refine v_if_eq C 40 (dk dcX11_isUnder_0 1 rfl) (by decide) (fun c_1 => ?_) (fun c_1 => ?_)
  · replace h := if_t c_1 h
    exact vj_sub [] rfl (vX11_isUnder_j40 hL C _ h)
  · replace h := if_f c_1 h
    refine v_iload_n C 0 (dk dcX11_isUnder_0 2 rfl) rfl rfl ?_
    refine v_iload_n C 1 (dk dcX11_isUnder_0 3 rfl) rfl rfl ?_
    refine v_icmp_eq C 40 (dk dcX11_isUnder_0 4 rfl) (by decide) (fun c_2 => ?_) (fun c_2 => ?_)
    · replace h := if_t c_2 h
      exact vj_sub [] rfl (vX11_isUnder_j40 hL C _ h)
    · replace h := if_f c_2 h
      refine v_iload_n C 1 (dk dcX11_isUnder_0 5 rfl) rfl rfl ?_
      refine v_iconst C 1 (dk dcX11_isUnder_0 6 rfl) ki_1 ?_
      refine v_icmp_ne C 19 (dk dcX11_isUnder_0 7 rfl) (by decide) (fun c_3 => ?_) (fun c_3 => ?_)
      · replace h := if_f c_3 h
        exact vj_sub [0, 1] rfl (vX11_isUnder_j19 hL C _ h)
      · replace h := if_t c_3 h
        refine v_iload_n C 0 (dk dcX11_isUnder_0 8 rfl) rfl rfl ?_
        refine v_iconst C 4 (dk dcX11_isUnder_0 9 rfl) ki_4 ?_
        refine v_icmp_eq C 40 (dk dcX11_isUnder_0 10 rfl) (by decide) (fun c_4 => ?_) (fun c_4 => ?_)
        · replace h := if_t c_4 h
          exact vj_sub [] rfl (vX11_isUnder_j40 hL C _ h)
        · replace h := if_f c_4 h
          exact vj_sub [0, 1] rfl (vX11_isUnder_j19 hL C _ h)
set_option maxRecDepth 20000 in
set_option maxHeartbeats 4000000 in
theorem mtX11_taken {l : Launch} {E : WEt} {wx : va_W} (L : Nat) (hL : 4 ≤ L)  {g : STt} {x1 : Int32} {x2 : Int32} {rr : Int32} (h : fX11_taken g x1 x2 = some rr) : MT l E yX11_taken cX11_taken 3 (some .int) (L + 1) [.ref (aE E 28 0), .int x1, .int x2] (cellsM E g ++ wx) (cellsM E g ++ wx) (some (.int rr)) := by
  refine mt_of (by decide +kernel) (Nat.le_of_ble_eq_true rfl) ?_
  intro p e s m args below meth c C
  replace C : CX p s m args meth c cX11_taken 3 RX11 (some .int) E := C
  unfold fX11_taken at h
  refine vj_sub (lv' := [(0, .ref (aE E 28 0)), (1, .int x1), (2, .int x2)]) [0, 1, 2] rfl ?_
  refine v_iload_n C 2 (dk dcX11_taken_0 0 rfl) rfl rfl ?_
  refine v_iconst C 0 (dk dcX11_taken_0 1 rfl) ki_0 ?_
  refine v_bipush C 6 (dk dcX11_taken_0 2 rfl) kb_6 ?_
  obtain ⟨r_2, h_1, h⟩ := bnd1_s h
  refine v_callS1 C (mtX11_in (L - 1) (by omega) h_1) wmX11_in wd_1266 (by omega) (by decide) rfl rfl (Nat.le_of_ble_eq_true rfl) (dk dcX11_taken_0 3 rfl) ?_
  refine v_if_ne C 13 (dk dcX11_taken_0 4 rfl) (by decide) (fun c_3 => ?_) (fun c_3 => ?_)
  · replace h := if_f c_3 h
    refine v_aload_n C 0 (dk dcX11_taken_0 7 rfl) rfl rfl ?_
    refine v_iload_n C 1 (dk dcX11_taken_0 8 rfl) rfl rfl ?_
    obtain ⟨r_5, h_4, h⟩ := bnd1_s h
    refine v_callV1 C (mtX11_isPlace (L - 1) (by omega) h_4) wmX11_isPlace wd_1273 (by omega) (by decide) rfl _ (ce_Mo) rfl rfl (Nat.le_of_ble_eq_true rfl) (dk dcX11_taken_0 9 rfl) ?_
    refine v_if_ne C 24 (dk dcX11_taken_0 10 rfl) (by decide) (fun c_6 => ?_) (fun c_6 => ?_)
    · replace h := if_f c_6 h
      refine v_aload_n C 0 (dk dcX11_taken_0 13 rfl) rfl rfl ?_
      refine gt_Mo_kind C wd_1109 (dk dcX11_taken_0 14 rfl) ?_
      refine v_iload_n C 1 (dk dcX11_taken_0 15 rfl) rfl rfl ?_
      obtain ⟨b_7, h⟩ := gd_t h
      refine ld_m_kind C b_7 (dk dcX11_taken_0 16 rfl) ?_
      refine v_iload_n C 2 (dk dcX11_taken_0 17 rfl) rfl rfl ?_
      obtain ⟨r_9, h_8, h⟩ := bnd1_s h
      refine v_callS1 C (mtX11_isUnder (L - 1) (by omega) h_8) wmX11_isUnder wd_1589 (by omega) (by decide) rfl rfl (Nat.le_of_ble_eq_true rfl) (dk dcX11_taken_0 18 rfl) ?_
      refine v_if_eq C 46 (dk dcX11_taken_0 19 rfl) (by decide) (fun c_10 => ?_) (fun c_10 => ?_)
      · replace h := if_t c_10 h
        refine v_bipush C (-12) (dk dcX11_taken_0 25 rfl) kb_m12 ?_
        cases h
        exact v_iret C rfl (dk dcX11_taken_0 26 rfl)
      · replace h := if_f c_10 h
        refine v_aload_n C 0 (dk dcX11_taken_0 20 rfl) rfl rfl ?_
        refine gt_Mo_kind C wd_1109 (dk dcX11_taken_0 21 rfl) ?_
        refine v_iload_n C 1 (dk dcX11_taken_0 22 rfl) rfl rfl ?_
        obtain ⟨b_11, h⟩ := gd_t h
        refine ld_m_kind C b_11 (dk dcX11_taken_0 23 rfl) ?_
        refine v_goto C 48 (dk dcX11_taken_0 24 rfl) (by decide) ?_
        cases h
        exact v_iret C rfl (dk dcX11_taken_0 26 rfl)
    · replace h := if_t c_6 h
      refine v_bipush C (-11) (dk dcX11_taken_0 11 rfl) kb_m11 ?_
      cases h
      exact v_iret C rfl (dk dcX11_taken_0 12 rfl)
  · replace h := if_t c_3 h
    refine v_bipush C (-2) (dk dcX11_taken_0 5 rfl) kb_m2 ?_
    cases h
    exact v_iret C rfl (dk dcX11_taken_0 6 rfl)
set_option maxRecDepth 20000 in
set_option maxHeartbeats 4000000 in
theorem vX11_lowest_l23c {L : Nat} (hL : 2 ≤ L) (C : CX p s m args meth c cX11_lowest 11 RX11 (some .long) E) {g : STt} {l0 : Int64} {l2 : Int64} {l4 : Int32} {K23 : (Int64 × Int64) → Option Int64} (hK23 : ∀ {l5 : Int64} {l7 : Int64} (r : Int64), K23 (l5, l7) = some r → VJ p l e (rmL (L + 1)) s m args below meth c (QE below E (cellsM E g ++ wx) (some (.long r)) args s) E 11 (cellsM E g ++ wx) [(0, .long l0), (2, .long l2), (4, .int l4), (5, .long l5), (7, .long l7)] [] 23) {l5 : Int64} {l7 : Int64} (r : Int64) (h : fX11_lowest_l23c K23 g l0 l2 l4 l5 l7 = some r) : VJ p l e (rmL (L + 1)) s m args below meth c (QE below E (cellsM E g ++ wx) (some (.long r)) args s) E 11 (cellsM E g ++ wx) [(0, .long l0), (2, .long l2), (4, .int l4), (5, .long l5), (7, .long l7)] [] 23 := by
  unfold fX11_lowest_l23c at h
  refine v_lload C 4 (dk dcX11_lowest_0 14 rfl) rfl ?_
  refine v_lconst C 0 (dk dcX11_lowest_0 15 rfl) rfl ?_
  refine v_lcmp C (dk dcX11_lowest_0 16 rfl) ?_
  refine v_if_eq C 48 (dk dcX11_lowest_0 17 rfl) (by decide) (fun c_1 => ?_) (fun c_1 => ?_)
  · replace h := if_t c_1 h
    refine v_iload C 2 (dk dcX11_lowest_0 27 rfl) rfl ?_
    refine v_if_eq C 60 (dk dcX11_lowest_0 28 rfl) (by decide) (fun c_2 => ?_) (fun c_2 => ?_)
    · replace h := if_t c_2 h
      refine v_lload_n C 1 (dk dcX11_lowest_0 33 rfl) rfl rfl ?_
      refine v_lload C 3 (dk dcX11_lowest_0 34 rfl) rfl ?_
      obtain ⟨b_3, h⟩ := gd_t h
      refine v_ldiv C (dk dcX11_lowest_0 35 rfl) b_3 ?_
      cases h
      exact v_lret C rfl (dk dcX11_lowest_0 36 rfl)
    · replace h := if_f c_2 h
      refine v_lload_n C 0 (dk dcX11_lowest_0 29 rfl) rfl rfl ?_
      refine v_lload C 3 (dk dcX11_lowest_0 30 rfl) rfl ?_
      obtain ⟨b_3, h⟩ := gd_t h
      refine v_ldiv C (dk dcX11_lowest_0 31 rfl) b_3 ?_
      refine v_goto C 64 (dk dcX11_lowest_0 32 rfl) (by decide) ?_
      cases h
      exact v_lret C rfl (dk dcX11_lowest_0 36 rfl)
  · replace h := if_f c_1 h
    refine v_lload C 3 (dk dcX11_lowest_0 18 rfl) rfl ?_
    refine v_lload C 4 (dk dcX11_lowest_0 19 rfl) rfl ?_
    obtain ⟨b_2, h⟩ := gd_t h
    refine v_lrem C (dk dcX11_lowest_0 20 rfl) b_2 ?_
    refine v_lstore C (lv' := [(9, .long (l5 - l5 / l7 * l7)), (0, .long l0), (2, .long l2), (4, .int l4), (5, .long l5), (7, .long l7)]) (dk dcX11_lowest_0 21 rfl) (by decide) rfl ?_
    refine v_lload C 5 (dk dcX11_lowest_0 22 rfl) rfl ?_
    refine v_lstore C (lv' := [(5, .long l7), (9, .long (l5 - l5 / l7 * l7)), (0, .long l0), (2, .long l2), (4, .int l4), (7, .long l7)]) (dk dcX11_lowest_0 23 rfl) (by decide) rfl ?_
    refine v_lload C 1 (dk dcX11_lowest_0 24 rfl) rfl ?_
    refine v_lstore C (lv' := [(7, .long (l5 - l5 / l7 * l7)), (5, .long l7), (9, .long (l5 - l5 / l7 * l7)), (0, .long l0), (2, .long l2), (4, .int l4)]) (dk dcX11_lowest_0 25 rfl) (by decide) rfl ?_
    refine v_goto C 23 (dk dcX11_lowest_0 26 rfl) (by decide) ?_
    exact vj_sub [3, 4, 5, 1, 0] rfl (hK23 _ h)
set_option maxRecDepth 20000 in
set_option maxHeartbeats 4000000 in
theorem vX11_lowest_l23 {L : Nat} (hL : 2 ≤ L) (C : CX p s m args meth c cX11_lowest 11 RX11 (some .long) E) {g : STt} {l0 : Int64} {l2 : Int64} {l4 : Int32} {l5 : Int64} {l7 : Int64} (r : Int64) (h : fX11_lowest_l23 g l0 l2 l4 l5 l7 = some r) : VJ p l e (rmL (L + 1)) s m args below meth c (QE below E (cellsM E g ++ wx) (some (.long r)) args s) E 11 (cellsM E g ++ wx) [(0, .long l0), (2, .long l2), (4, .int l4), (5, .long l5), (7, .long l7)] [] 23 :=
  iterO_ind (F := fun K z => fX11_lowest_l23c K g l0 l2 l4 z.1 z.2) (fun z r => VJ p l e (rmL (L + 1)) s m args below meth c (QE below E (cellsM E g ++ wx) (some (.long r)) args s) E 11 (cellsM E g ++ wx) [(0, .long l0), (2, .long l2), (4, .int l4), (5, .long z.1), (7, .long z.2)] [] 23) (fun K hK z r h => vX11_lowest_l23c hL C (fun {l5} {l7} r h => hK (l5, l7) r h) r h) fuelN (l5, l7) r h
set_option maxRecDepth 20000 in
set_option maxHeartbeats 4000000 in
theorem mtX11_lowest {l : Launch} {E : WEt} {wx : va_W} (L : Nat) (hL : 2 ≤ L)  {g : STt} {x0 : Int64} {x1 : Int64} {x2 : Int32} {rr : Int64} (h : fX11_lowest g x0 x1 x2 = some rr) : MT l E yX11_lowest cX11_lowest 11 (some .long) (L + 1) [.long x0, .long x1, .int x2] (cellsM E g ++ wx) (cellsM E g ++ wx) (some (.long rr)) := by
  refine mt_of (by decide +kernel) (Nat.le_of_ble_eq_true rfl) ?_
  intro p e s m args below meth c C
  replace C : CX p s m args meth c cX11_lowest 11 RX11 (some .long) E := C
  unfold fX11_lowest at h
  refine vj_sub (lv' := [(0, .long x0), (2, .long x1), (4, .int x2)]) [0, 1, 2] rfl ?_
  refine v_lload_n C 0 (dk dcX11_lowest_0 0 rfl) rfl rfl ?_
  refine v_lconst C 0 (dk dcX11_lowest_0 1 rfl) rfl ?_
  refine v_lcmp C (dk dcX11_lowest_0 2 rfl) ?_
  refine v_if_ne C 17 (dk dcX11_lowest_0 3 rfl) (by decide) (fun c_1 => ?_) (fun c_1 => ?_)
  · replace h := if_f c_1 h
    refine v_lload_n C 0 (dk dcX11_lowest_0 10 rfl) rfl rfl ?_
    refine v_lstore C (lv' := [(5, .long x0), (0, .long x0), (2, .long x1), (4, .int x2)]) (dk dcX11_lowest_0 11 rfl) (by decide) rfl ?_
    refine v_lload_n C 2 (dk dcX11_lowest_0 12 rfl) rfl rfl ?_
    refine v_lstore C (lv' := [(7, .long x1), (5, .long x0), (0, .long x0), (2, .long x1), (4, .int x2)]) (dk dcX11_lowest_0 13 rfl) (by decide) rfl ?_
    exact vj_sub [2, 3, 4, 1, 0] rfl (vX11_lowest_l23 hL C _ h)
  · replace h := if_t c_1 h
    refine v_iload C 2 (dk dcX11_lowest_0 4 rfl) rfl ?_
    refine v_if_eq C 15 (dk dcX11_lowest_0 5 rfl) (by decide) (fun c_2 => ?_) (fun c_2 => ?_)
    · replace h := if_t c_2 h
      refine v_lconst C 1 (dk dcX11_lowest_0 8 rfl) rfl ?_
      cases h
      exact v_lret C rfl (dk dcX11_lowest_0 9 rfl)
    · replace h := if_f c_2 h
      refine v_lconst C 0 (dk dcX11_lowest_0 6 rfl) rfl ?_
      refine v_goto C 16 (dk dcX11_lowest_0 7 rfl) (by decide) ?_
      cases h
      exact v_lret C rfl (dk dcX11_lowest_0 9 rfl)
set_option maxRecDepth 20000 in
set_option maxHeartbeats 4000000 in
theorem vX11_sure_j224 {L : Nat} (hL : 10 ≤ L) (C : CX p s m args meth c cX11_sure 12 RX11 (some .long) E) {g : STt} {s0 : Int32} {s1 : Int64} {s2 : Int64} (r : STt × Int64) (h : fX11_sure_j224 g s0 s1 s2 = some r) : VJ p l e (rmL (L + 1)) s m args below meth c (QE below E (cellsM E r.1 ++ wx) (some (.long r.2)) args s) E 12 (cellsM E g ++ wx) [] [.int s0, .long s1, .long s2] 224 := by
  unfold fX11_sure_j224 at h
  obtain ⟨r_2, h_1, h⟩ := bnd1_s h
  refine v_callS1 C (mtX11_lowest (L - 1) (by omega) h_1) wmX11_lowest wd_1499 (by omega) (by decide) rfl rfl (Nat.le_of_ble_eq_true rfl) (dk dcX11_sure_2 25 rfl) ?_
  cases h
  exact v_lret C rfl (dk dcX11_sure_2 26 rfl)
set_option maxRecDepth 20000 in
set_option maxHeartbeats 4000000 in
theorem vX11_sure_j202 {L : Nat} (hL : 10 ≤ L) (C : CX p s m args meth c cX11_sure 12 RX11 (some .long) E) {g : STt} {l1 : Int32} {l2 : Int32} {l3 : Int64} {l5 : Int64} {l7 : Int32} {K62 : (STt × Int64 × Int32) → Option (STt × Int64)} (hK62 : ∀ {g : STt} {l3 : Int64} {l7 : Int32} (r : STt × Int64), K62 (g, l3, l7) = some r → VJ p l e (rmL (L + 1)) s m args below meth c (QE below E (cellsM E r.1 ++ wx) (some (.long r.2)) args s) E 12 (cellsM E g ++ wx) [(0, .ref (aE E 28 0)), (1, .int l1), (2, .int l2), (3, .long l3), (5, .long l5), (7, .int l7)] [] 62) (r : STt × Int64) (h : fX11_sure_j202 K62 g l1 l2 l3 l5 l7 = some r) : VJ p l e (rmL (L + 1)) s m args below meth c (QE below E (cellsM E r.1 ++ wx) (some (.long r.2)) args s) E 12 (cellsM E g ++ wx) [(0, .ref (aE E 28 0)), (1, .int l1), (2, .int l2), (3, .long l3), (5, .long l5), (7, .int l7)] [] 202 := by
  unfold fX11_sure_j202 at h
  refine v_aload_n C 0 (dk dcX11_sure_2 14 rfl) rfl rfl ?_
  obtain ⟨g_2, h_1, h⟩ := bnd1_s h
  refine v_callV0 C (mtX11_layBack (L - 1) (by omega) h_1) wmX11_layBack wd_1447 (by omega) (by decide) rfl _ (ce_Mo) rfl rfl (Nat.le_of_ble_eq_true rfl) (dk dcX11_sure_2 15 rfl) ?_
  refine v_iinc C (lv' := [(7, .int (l7 + 1)), (0, .ref (aE E 28 0)), (1, .int l1), (2, .int l2), (3, .long l3), (5, .long l5)]) (l7 + 1) 5 (dk dcX11_sure_2 16 rfl) rfl (congrArg (fun z => l7 + z) ki_1) (by decide) rfl ?_
  refine v_goto C 62 (dk dcX11_sure_2 17 rfl) (by decide) ?_
  exact vj_sub [1, 2, 3, 4, 5, 0] rfl (hK62 _ h)
set_option maxRecDepth 20000 in
set_option maxHeartbeats 4000000 in
theorem vX11_sure_j154 {L : Nat} (hL : 10 ≤ L) (C : CX p s m args meth c cX11_sure 12 RX11 (some .long) E) {g : STt} {l1 : Int32} {l2 : Int32} {l3 : Int64} {l5 : Int64} {l7 : Int32} {l10 : Int32} {s0 : Int64} {s1 : Int64} {K62 : (STt × Int64 × Int32) → Option (STt × Int64)} (hK62 : ∀ {g : STt} {l3 : Int64} {l7 : Int32} (r : STt × Int64), K62 (g, l3, l7) = some r → VJ p l e (rmL (L + 1)) s m args below meth c (QE below E (cellsM E r.1 ++ wx) (some (.long r.2)) args s) E 12 (cellsM E g ++ wx) [(0, .ref (aE E 28 0)), (1, .int l1), (2, .int l2), (3, .long l3), (5, .long l5), (7, .int l7)] [] 62) {K80 : (STt × Int64 × Int32) → Option (STt × Int64)} (hK80 : ∀ {g : STt} {l8 : Int64} {l10 : Int32} (r : STt × Int64), K80 (g, l8, l10) = some r → VJ p l e (rmL (L + 1)) s m args below meth c (QE below E (cellsM E r.1 ++ wx) (some (.long r.2)) args s) E 12 (cellsM E g ++ wx) [(0, .ref (aE E 28 0)), (1, .int l1), (2, .int l2), (3, .long l3), (5, .long l5), (7, .int l7), (8, .long l8), (10, .int l10)] [] 80) (r : STt × Int64) (h : fX11_sure_j154 K62 K80 g l1 l2 l3 l5 l7 l10 s0 s1 = some r) : VJ p l e (rmL (L + 1)) s m args below meth c (QE below E (cellsM E r.1 ++ wx) (some (.long r.2)) args s) E 12 (cellsM E g ++ wx) [(0, .ref (aE E 28 0)), (1, .int l1), (2, .int l2), (3, .long l3), (5, .long l5), (7, .int l7), (10, .int l10)] [.long s0, .long s1] 154 := by
  unfold fX11_sure_j154 at h
  refine v_lmul C (dk dcX11_sure_1 35 rfl) ?_
  refine v_lstore C (lv' := [(8, .long (s1 * s0)), (0, .ref (aE E 28 0)), (1, .int l1), (2, .int l2), (3, .long l3), (5, .long l5), (7, .int l7), (10, .int l10)]) (dk dcX11_sure_1 36 rfl) (by decide) rfl ?_
  refine v_aload_n C 1 (dk dcX11_sure_1 37 rfl) rfl rfl ?_
  refine v_aload_n C 1 (dk dcX11_sure_1 38 rfl) rfl rfl ?_
  refine gt_Mo_row C wd_1134 (dk dcX11_sure_1 39 rfl) ?_
  refine v_iload C 7 (dk dcX11_sure_1 40 rfl) rfl ?_
  obtain ⟨b_1, h⟩ := gd_t h
  refine ld_m_row C b_1 (dk dcX11_sure_1 41 rfl) ?_
  obtain ⟨g_3, r_4, h_2, h⟩ := bnd_s h
  refine v_callV1 C (mtX11_does (L - 1) (by omega) h_2) wmX11_does wd_1423 (by omega) (by decide) rfl _ (ce_Mo) rfl rfl (Nat.le_of_ble_eq_true rfl) (dk dcX11_sure_1 42 rfl) ?_
  refine v_pop C rfl (dk dcX11_sure_1 43 rfl) ?_
  refine v_iinc C (lv' := [(10, .int (l10 + 1)), (8, .long (s1 * s0)), (0, .ref (aE E 28 0)), (1, .int l1), (2, .int l2), (3, .long l3), (5, .long l5), (7, .int l7)]) (l10 + 1) 7 (dk dcX11_sure_1 44 rfl) rfl (congrArg (fun z => l10 + z) ki_1) (by decide) rfl ?_
  refine v_goto C 80 (dk dcX11_sure_1 45 rfl) (by decide) ?_
  exact vj_sub [2, 3, 4, 5, 6, 7, 1, 0] rfl (hK80 _ h)
set_option maxRecDepth 20000 in
set_option maxHeartbeats 4000000 in
theorem vX11_sure_j128 {L : Nat} (hL : 10 ≤ L) (C : CX p s m args meth c cX11_sure 12 RX11 (some .long) E) {g : STt} {l1 : Int32} {l2 : Int32} {l3 : Int64} {l5 : Int64} {l7 : Int32} {l8 : Int64} {l10 : Int32} {l11 : Int32} {s0 : Int32} {K62 : (STt × Int64 × Int32) → Option (STt × Int64)} (hK62 : ∀ {g : STt} {l3 : Int64} {l7 : Int32} (r : STt × Int64), K62 (g, l3, l7) = some r → VJ p l e (rmL (L + 1)) s m args below meth c (QE below E (cellsM E r.1 ++ wx) (some (.long r.2)) args s) E 12 (cellsM E g ++ wx) [(0, .ref (aE E 28 0)), (1, .int l1), (2, .int l2), (3, .long l3), (5, .long l5), (7, .int l7)] [] 62) {K80 : (STt × Int64 × Int32) → Option (STt × Int64)} (hK80 : ∀ {g : STt} {l8 : Int64} {l10 : Int32} (r : STt × Int64), K80 (g, l8, l10) = some r → VJ p l e (rmL (L + 1)) s m args below meth c (QE below E (cellsM E r.1 ++ wx) (some (.long r.2)) args s) E 12 (cellsM E g ++ wx) [(0, .ref (aE E 28 0)), (1, .int l1), (2, .int l2), (3, .long l3), (5, .long l5), (7, .int l7), (8, .long l8), (10, .int l10)] [] 80) (r : STt × Int64) (h : fX11_sure_j128 K62 K80 g l1 l2 l3 l5 l7 l8 l10 l11 s0 = some r) : VJ p l e (rmL (L + 1)) s m args below meth c (QE below E (cellsM E r.1 ++ wx) (some (.long r.2)) args s) E 12 (cellsM E g ++ wx) [(0, .ref (aE E 28 0)), (1, .int l1), (2, .int l2), (3, .long l3), (5, .long l5), (7, .int l7), (8, .long l8), (10, .int l10), (11, .int l11)] [.int s0, .ref (aE E 28 0)] 128 := by
  unfold fX11_sure_j128 at h
  refine pt_Mo_wandered C wd_1132 (dk dcX11_sure_1 22 rfl) ?_
  refine v_lload C 6 (dk dcX11_sure_1 23 rfl) rfl ?_
  refine v_iload C 8 (dk dcX11_sure_1 24 rfl) rfl ?_
  refine v_if_eq C 146 (dk dcX11_sure_1 25 rfl) (by decide) (fun c_1 => ?_) (fun c_1 => ?_)
  · replace h := if_t c_1 h
    refine v_bipush C 10 (dk dcX11_sure_1 30 rfl) kb_10 ?_
    refine v_aload_n C 0 (dk dcX11_sure_1 31 rfl) rfl rfl ?_
    refine gt_Mo_odds C wd_1137 (dk dcX11_sure_1 32 rfl) ?_
    refine v_isub C (dk dcX11_sure_1 33 rfl) ?_
    refine v_i2l C (dk dcX11_sure_1 34 rfl) ?_
    exact vj_sub [0, 1, 2, 3, 4, 5, 7] rfl (vX11_sure_j154 hL C hK62 hK80 _ h)
  · replace h := if_f c_1 h
    refine v_aload_n C 0 (dk dcX11_sure_1 26 rfl) rfl rfl ?_
    refine gt_Mo_odds C wd_1137 (dk dcX11_sure_1 27 rfl) ?_
    refine v_i2l C (dk dcX11_sure_1 28 rfl) ?_
    refine v_goto C 154 (dk dcX11_sure_1 29 rfl) (by decide) ?_
    exact vj_sub [0, 1, 2, 3, 4, 5, 7] rfl (vX11_sure_j154 hL C hK62 hK80 _ h)
set_option maxRecDepth 20000 in
set_option maxHeartbeats 4000000 in
theorem vX11_sure_j127 {L : Nat} (hL : 10 ≤ L) (C : CX p s m args meth c cX11_sure 12 RX11 (some .long) E) {g : STt} {l1 : Int32} {l2 : Int32} {l3 : Int64} {l5 : Int64} {l7 : Int32} {l8 : Int64} {l10 : Int32} {l11 : Int32} {K62 : (STt × Int64 × Int32) → Option (STt × Int64)} (hK62 : ∀ {g : STt} {l3 : Int64} {l7 : Int32} (r : STt × Int64), K62 (g, l3, l7) = some r → VJ p l e (rmL (L + 1)) s m args below meth c (QE below E (cellsM E r.1 ++ wx) (some (.long r.2)) args s) E 12 (cellsM E g ++ wx) [(0, .ref (aE E 28 0)), (1, .int l1), (2, .int l2), (3, .long l3), (5, .long l5), (7, .int l7)] [] 62) {K80 : (STt × Int64 × Int32) → Option (STt × Int64)} (hK80 : ∀ {g : STt} {l8 : Int64} {l10 : Int32} (r : STt × Int64), K80 (g, l8, l10) = some r → VJ p l e (rmL (L + 1)) s m args below meth c (QE below E (cellsM E r.1 ++ wx) (some (.long r.2)) args s) E 12 (cellsM E g ++ wx) [(0, .ref (aE E 28 0)), (1, .int l1), (2, .int l2), (3, .long l3), (5, .long l5), (7, .int l7), (8, .long l8), (10, .int l10)] [] 80) (r : STt × Int64) (h : fX11_sure_j127 K62 K80 g l1 l2 l3 l5 l7 l8 l10 l11 = some r) : VJ p l e (rmL (L + 1)) s m args below meth c (QE below E (cellsM E r.1 ++ wx) (some (.long r.2)) args s) E 12 (cellsM E g ++ wx) [(0, .ref (aE E 28 0)), (1, .int l1), (2, .int l2), (3, .long l3), (5, .long l5), (7, .int l7), (8, .long l8), (10, .int l10), (11, .int l11)] [.ref (aE E 28 0)] 127 := by
  unfold fX11_sure_j127 at h
  refine v_iconst C 0 (dk dcX11_sure_1 21 rfl) ki_0 ?_
  exact vj_sub [0, 1, 2, 3, 4, 5, 6, 7, 8] rfl (vX11_sure_j128 hL C hK62 hK80 _ h)
set_option maxRecDepth 20000 in
set_option maxHeartbeats 4000000 in
theorem vX11_sure_j102 {L : Nat} (hL : 10 ≤ L) (C : CX p s m args meth c cX11_sure 12 RX11 (some .long) E) {g : STt} {l1 : Int32} {l2 : Int32} {l3 : Int64} {l5 : Int64} {l7 : Int32} {l8 : Int64} {l10 : Int32} {s0 : Int32} {K62 : (STt × Int64 × Int32) → Option (STt × Int64)} (hK62 : ∀ {g : STt} {l3 : Int64} {l7 : Int32} (r : STt × Int64), K62 (g, l3, l7) = some r → VJ p l e (rmL (L + 1)) s m args below meth c (QE below E (cellsM E r.1 ++ wx) (some (.long r.2)) args s) E 12 (cellsM E g ++ wx) [(0, .ref (aE E 28 0)), (1, .int l1), (2, .int l2), (3, .long l3), (5, .long l5), (7, .int l7)] [] 62) {K80 : (STt × Int64 × Int32) → Option (STt × Int64)} (hK80 : ∀ {g : STt} {l8 : Int64} {l10 : Int32} (r : STt × Int64), K80 (g, l8, l10) = some r → VJ p l e (rmL (L + 1)) s m args below meth c (QE below E (cellsM E r.1 ++ wx) (some (.long r.2)) args s) E 12 (cellsM E g ++ wx) [(0, .ref (aE E 28 0)), (1, .int l1), (2, .int l2), (3, .long l3), (5, .long l5), (7, .int l7), (8, .long l8), (10, .int l10)] [] 80) (r : STt × Int64) (h : fX11_sure_j102 K62 K80 g l1 l2 l3 l5 l7 l8 l10 s0 = some r) : VJ p l e (rmL (L + 1)) s m args below meth c (QE below E (cellsM E r.1 ++ wx) (some (.long r.2)) args s) E 12 (cellsM E g ++ wx) [(0, .ref (aE E 28 0)), (1, .int l1), (2, .int l2), (3, .long l3), (5, .long l5), (7, .int l7), (8, .long l8), (10, .int l10)] [.int s0] 102 := by
  unfold fX11_sure_j102 at h
  refine v_istore C (lv' := [(11, .int s0), (0, .ref (aE E 28 0)), (1, .int l1), (2, .int l2), (3, .long l3), (5, .long l5), (7, .int l7), (8, .long l8), (10, .int l10)]) (dk dcX11_sure_1 9 rfl) (by decide) rfl ?_
  refine v_aload_n C 1 (dk dcX11_sure_1 10 rfl) rfl rfl ?_
  refine v_iload C 0 (dk dcX11_sure_1 11 rfl) rfl ?_
  refine v_if_eq C 127 (dk dcX11_sure_1 12 rfl) (by decide) (fun c_1 => ?_) (fun c_1 => ?_)
  · replace h := if_t c_1 h
    exact vj_sub [1, 2, 3, 4, 5, 6, 7, 8, 0] rfl (vX11_sure_j127 hL C hK62 hK80 _ h)
  · replace h := if_f c_1 h
    refine v_aload_n C 1 (dk dcX11_sure_1 13 rfl) rfl rfl ?_
    refine gt_Mo_row C wd_1134 (dk dcX11_sure_1 14 rfl) ?_
    refine v_iload C 8 (dk dcX11_sure_1 15 rfl) rfl ?_
    obtain ⟨b_2, h⟩ := gd_t h
    refine ld_m_row C b_2 (dk dcX11_sure_1 16 rfl) ?_
    refine v_bipush C 6 (dk dcX11_sure_1 17 rfl) kb_6 ?_
    refine v_icmp_eq C 127 (dk dcX11_sure_1 18 rfl) (by decide) (fun c_3 => ?_) (fun c_3 => ?_)
    · replace h := if_t c_3 h
      exact vj_sub [1, 2, 3, 4, 5, 6, 7, 8, 0] rfl (vX11_sure_j127 hL C hK62 hK80 _ h)
    · replace h := if_f c_3 h
      refine v_bipush C 10 (dk dcX11_sure_1 19 rfl) kb_10 ?_
      refine v_goto C 128 (dk dcX11_sure_1 20 rfl) (by decide) ?_
      exact vj_sub [1, 2, 3, 4, 5, 6, 7, 8, 0] rfl (vX11_sure_j128 hL C hK62 hK80 _ h)
set_option maxRecDepth 20000 in
set_option maxHeartbeats 4000000 in
theorem vX11_sure_l80c {L : Nat} (hL : 10 ≤ L) (C : CX p s m args meth c cX11_sure 12 RX11 (some .long) E) {l1 : Int32} {l2 : Int32} {l3 : Int64} {l5 : Int64} {l7 : Int32} {K62 : (STt × Int64 × Int32) → Option (STt × Int64)} (hK62 : ∀ {g : STt} {l3 : Int64} {l7 : Int32} (r : STt × Int64), K62 (g, l3, l7) = some r → VJ p l e (rmL (L + 1)) s m args below meth c (QE below E (cellsM E r.1 ++ wx) (some (.long r.2)) args s) E 12 (cellsM E g ++ wx) [(0, .ref (aE E 28 0)), (1, .int l1), (2, .int l2), (3, .long l3), (5, .long l5), (7, .int l7)] [] 62) {K80 : (STt × Int64 × Int32) → Option (STt × Int64)} (hK80 : ∀ {g : STt} {l8 : Int64} {l10 : Int32} (r : STt × Int64), K80 (g, l8, l10) = some r → VJ p l e (rmL (L + 1)) s m args below meth c (QE below E (cellsM E r.1 ++ wx) (some (.long r.2)) args s) E 12 (cellsM E g ++ wx) [(0, .ref (aE E 28 0)), (1, .int l1), (2, .int l2), (3, .long l3), (5, .long l5), (7, .int l7), (8, .long l8), (10, .int l10)] [] 80) {g : STt} {l8 : Int64} {l10 : Int32} (r : STt × Int64) (h : fX11_sure_l80c K62 K80 l1 l2 l3 l5 l7 g l8 l10 = some r) : VJ p l e (rmL (L + 1)) s m args below meth c (QE below E (cellsM E r.1 ++ wx) (some (.long r.2)) args s) E 12 (cellsM E g ++ wx) [(0, .ref (aE E 28 0)), (1, .int l1), (2, .int l2), (3, .long l3), (5, .long l5), (7, .int l7), (8, .long l8), (10, .int l10)] [] 80 := by
  unfold fX11_sure_l80c at h
  refine v_iload C 7 (dk dcX11_sure_0 44 rfl) rfl ?_
  refine v_iload_n C 1 (dk dcX11_sure_0 45 rfl) rfl rfl ?_
  refine v_icmp_ge C 175 (dk dcX11_sure_0 46 rfl) (by decide) (fun c_1 => ?_) (fun c_1 => ?_)
  · replace h := if_t c_1 h
    refine v_aload_n C 0 (dk dcX11_sure_1 46 rfl) rfl rfl ?_
    refine v_iconst C 0 (dk dcX11_sure_1 47 rfl) ki_0 ?_
    refine pt_Mo_wandered C wd_1132 (dk dcX11_sure_2 0 rfl) ?_
    refine v_aload_n C 0 (dk dcX11_sure_2 1 rfl) rfl rfl ?_
    refine gt_Mo_is C wd_1112 (dk dcX11_sure_2 2 rfl) ?_
    refine v_bipush C 12 (dk dcX11_sure_2 3 rfl) kb_12 ?_
    obtain ⟨b_2, h⟩ := gd_t h
    refine ld_m_is C b_2 (dk dcX11_sure_2 4 rfl) ?_
    refine v_aload_n C 0 (dk dcX11_sure_2 5 rfl) rfl rfl ?_
    refine gt_Mo_was C wd_1135 (dk dcX11_sure_2 6 rfl) ?_
    refine v_bipush C 12 (dk dcX11_sure_2 7 rfl) kb_12 ?_
    obtain ⟨b_3, h⟩ := gd_t h
    refine ld_m_was C b_3 (dk dcX11_sure_2 8 rfl) ?_
    refine v_icmp_le C 202 (dk dcX11_sure_2 9 rfl) (by decide) (fun c_4 => ?_) (fun c_4 => ?_)
    · replace h := if_t c_4 h
      exact vj_sub [0, 1, 2, 3, 4, 5] rfl (vX11_sure_j202 hL C hK62 _ h)
    · replace h := if_f c_4 h
      refine v_lload_n C 3 (dk dcX11_sure_2 10 rfl) rfl rfl ?_
      refine v_lload C 6 (dk dcX11_sure_2 11 rfl) rfl ?_
      refine v_ladd C (dk dcX11_sure_2 12 rfl) ?_
      refine v_lstore_n C (lv' := [(3, .long (l3 + l8)), (0, .ref (aE E 28 0)), (1, .int l1), (2, .int l2), (5, .long l5), (7, .int l7), (8, .long l8), (10, .int l10)]) (dk dcX11_sure_2 13 rfl) rfl (by decide) rfl ?_
      exact vj_sub [1, 2, 3, 0, 4, 5] rfl (vX11_sure_j202 hL C hK62 _ h)
  · replace h := if_f c_1 h
    refine v_iload C 5 (dk dcX11_sure_0 47 rfl) rfl ?_
    refine v_iload C 7 (dk dcX11_sure_1 0 rfl) rfl ?_
    refine v_ishr C (dk dcX11_sure_1 1 rfl) ?_
    refine v_iconst C 1 (dk dcX11_sure_1 2 rfl) ki_1 ?_
    refine v_iand C (dk dcX11_sure_1 3 rfl) ?_
    refine v_iconst C 1 (dk dcX11_sure_1 4 rfl) ki_1 ?_
    refine v_icmp_ne C 101 (dk dcX11_sure_1 5 rfl) (by decide) (fun c_2 => ?_) (fun c_2 => ?_)
    · replace h := if_f c_2 h
      refine v_iconst C 0 (dk dcX11_sure_1 8 rfl) ki_0 ?_
      exact vj_sub [0, 1, 2, 3, 4, 5, 6, 7] rfl (vX11_sure_j102 hL C hK62 hK80 _ h)
    · replace h := if_t c_2 h
      refine v_iconst C 1 (dk dcX11_sure_1 6 rfl) ki_1 ?_
      refine v_goto C 102 (dk dcX11_sure_1 7 rfl) (by decide) ?_
      exact vj_sub [0, 1, 2, 3, 4, 5, 6, 7] rfl (vX11_sure_j102 hL C hK62 hK80 _ h)
set_option maxRecDepth 20000 in
set_option maxHeartbeats 4000000 in
theorem vX11_sure_l80 {L : Nat} (hL : 10 ≤ L) (C : CX p s m args meth c cX11_sure 12 RX11 (some .long) E) {l1 : Int32} {l2 : Int32} {l3 : Int64} {l5 : Int64} {l7 : Int32} {K62 : (STt × Int64 × Int32) → Option (STt × Int64)} (hK62 : ∀ {g : STt} {l3 : Int64} {l7 : Int32} (r : STt × Int64), K62 (g, l3, l7) = some r → VJ p l e (rmL (L + 1)) s m args below meth c (QE below E (cellsM E r.1 ++ wx) (some (.long r.2)) args s) E 12 (cellsM E g ++ wx) [(0, .ref (aE E 28 0)), (1, .int l1), (2, .int l2), (3, .long l3), (5, .long l5), (7, .int l7)] [] 62) {g : STt} {l8 : Int64} {l10 : Int32} (r : STt × Int64) (h : fX11_sure_l80 K62 l1 l2 l3 l5 l7 g l8 l10 = some r) : VJ p l e (rmL (L + 1)) s m args below meth c (QE below E (cellsM E r.1 ++ wx) (some (.long r.2)) args s) E 12 (cellsM E g ++ wx) [(0, .ref (aE E 28 0)), (1, .int l1), (2, .int l2), (3, .long l3), (5, .long l5), (7, .int l7), (8, .long l8), (10, .int l10)] [] 80 :=
  iterO_ind (F := fun K z => fX11_sure_l80c K62 K l1 l2 l3 l5 l7 z.1 z.2.1 z.2.2) (fun z r => VJ p l e (rmL (L + 1)) s m args below meth c (QE below E (cellsM E r.1 ++ wx) (some (.long r.2)) args s) E 12 (cellsM E z.1 ++ wx) [(0, .ref (aE E 28 0)), (1, .int l1), (2, .int l2), (3, .long l3), (5, .long l5), (7, .int l7), (8, .long z.2.1), (10, .int z.2.2)] [] 80) (fun K hK z r h => vX11_sure_l80c hL C hK62 (fun {g} {l8} {l10} r h => hK (g, l8, l10) r h) r h) fuelN (g, l8, l10) r h
set_option maxRecDepth 20000 in
set_option maxHeartbeats 4000000 in
theorem vX11_sure_l62c {L : Nat} (hL : 10 ≤ L) (C : CX p s m args meth c cX11_sure 12 RX11 (some .long) E) {l1 : Int32} {l2 : Int32} {l5 : Int64} {K62 : (STt × Int64 × Int32) → Option (STt × Int64)} (hK62 : ∀ {g : STt} {l3 : Int64} {l7 : Int32} (r : STt × Int64), K62 (g, l3, l7) = some r → VJ p l e (rmL (L + 1)) s m args below meth c (QE below E (cellsM E r.1 ++ wx) (some (.long r.2)) args s) E 12 (cellsM E g ++ wx) [(0, .ref (aE E 28 0)), (1, .int l1), (2, .int l2), (3, .long l3), (5, .long l5), (7, .int l7)] [] 62) {g : STt} {l3 : Int64} {l7 : Int32} (r : STt × Int64) (h : fX11_sure_l62c K62 l1 l2 l5 g l3 l7 = some r) : VJ p l e (rmL (L + 1)) s m args below meth c (QE below E (cellsM E r.1 ++ wx) (some (.long r.2)) args s) E 12 (cellsM E g ++ wx) [(0, .ref (aE E 28 0)), (1, .int l1), (2, .int l2), (3, .long l3), (5, .long l5), (7, .int l7)] [] 62 := by
  unfold fX11_sure_l62c at h
  refine v_iload C 5 (dk dcX11_sure_0 33 rfl) rfl ?_
  refine v_iconst C 1 (dk dcX11_sure_0 34 rfl) ki_1 ?_
  refine v_iload_n C 1 (dk dcX11_sure_0 35 rfl) rfl rfl ?_
  refine v_ishl C (dk dcX11_sure_0 36 rfl) ?_
  refine v_icmp_ge C 212 (dk dcX11_sure_0 37 rfl) (by decide) (fun c_1 => ?_) (fun c_1 => ?_)
  · replace h := if_t c_1 h
    refine v_lload_n C 3 (dk dcX11_sure_2 18 rfl) rfl rfl ?_
    refine v_lload C 4 (dk dcX11_sure_2 19 rfl) rfl ?_
    refine v_iload_n C 2 (dk dcX11_sure_2 20 rfl) rfl rfl ?_
    refine v_if_ne C 223 (dk dcX11_sure_2 21 rfl) (by decide) (fun c_2 => ?_) (fun c_2 => ?_)
    · replace h := if_f c_2 h
      refine v_iconst C 0 (dk dcX11_sure_2 24 rfl) ki_0 ?_
      exact vj_sub [] rfl (vX11_sure_j224 hL C _ h)
    · replace h := if_t c_2 h
      refine v_iconst C 1 (dk dcX11_sure_2 22 rfl) ki_1 ?_
      refine v_goto C 224 (dk dcX11_sure_2 23 rfl) (by decide) ?_
      exact vj_sub [] rfl (vX11_sure_j224 hL C _ h)
  · replace h := if_f c_1 h
    refine v_aload_n C 0 (dk dcX11_sure_0 38 rfl) rfl rfl ?_
    obtain ⟨g_3, h_2, h⟩ := bnd1_s h
    refine v_callV0 C (mtX11_keepNow (L - 1) (by omega) h_2) wmX11_keepNow wd_1443 (by omega) (by decide) rfl _ (ce_Mo) rfl rfl (Nat.le_of_ble_eq_true rfl) (dk dcX11_sure_0 39 rfl) ?_
    refine v_lconst C 1 (dk dcX11_sure_0 40 rfl) rfl ?_
    refine v_lstore C (lv' := [(8, .long 1), (0, .ref (aE E 28 0)), (1, .int l1), (2, .int l2), (3, .long l3), (5, .long l5), (7, .int l7)]) (dk dcX11_sure_0 41 rfl) (by decide) rfl ?_
    refine v_iconst C 0 (dk dcX11_sure_0 42 rfl) ki_0 ?_
    refine v_istore C (lv' := [(10, .int 0), (8, .long 1), (0, .ref (aE E 28 0)), (1, .int l1), (2, .int l2), (3, .long l3), (5, .long l5), (7, .int l7)]) (dk dcX11_sure_0 43 rfl) (by decide) rfl ?_
    exact vj_sub [2, 3, 4, 5, 6, 7, 1, 0] rfl (vX11_sure_l80 hL C hK62 _ h)
set_option maxRecDepth 20000 in
set_option maxHeartbeats 4000000 in
theorem vX11_sure_l62 {L : Nat} (hL : 10 ≤ L) (C : CX p s m args meth c cX11_sure 12 RX11 (some .long) E) {l1 : Int32} {l2 : Int32} {l5 : Int64} {g : STt} {l3 : Int64} {l7 : Int32} (r : STt × Int64) (h : fX11_sure_l62 l1 l2 l5 g l3 l7 = some r) : VJ p l e (rmL (L + 1)) s m args below meth c (QE below E (cellsM E r.1 ++ wx) (some (.long r.2)) args s) E 12 (cellsM E g ++ wx) [(0, .ref (aE E 28 0)), (1, .int l1), (2, .int l2), (3, .long l3), (5, .long l5), (7, .int l7)] [] 62 :=
  iterO_ind (F := fun K z => fX11_sure_l62c K l1 l2 l5 z.1 z.2.1 z.2.2) (fun z r => VJ p l e (rmL (L + 1)) s m args below meth c (QE below E (cellsM E r.1 ++ wx) (some (.long r.2)) args s) E 12 (cellsM E z.1 ++ wx) [(0, .ref (aE E 28 0)), (1, .int l1), (2, .int l2), (3, .long z.2.1), (5, .long l5), (7, .int z.2.2)] [] 62) (fun K hK z r h => vX11_sure_l62c hL C (fun {g} {l3} {l7} r h => hK (g, l3, l7) r h) r h) fuelN (g, l3, l7) r h
set_option maxRecDepth 20000 in
set_option maxHeartbeats 4000000 in
theorem vX11_sure_l39c {L : Nat} (hL : 10 ≤ L) (C : CX p s m args meth c cX11_sure 12 RX11 (some .long) E) {g : STt} {l1 : Int32} {l2 : Int32} {l3 : Int64} {K39 : (Int64 × Int32) → Option (STt × Int64)} (hK39 : ∀ {l5 : Int64} {l7 : Int32} (r : STt × Int64), K39 (l5, l7) = some r → VJ p l e (rmL (L + 1)) s m args below meth c (QE below E (cellsM E r.1 ++ wx) (some (.long r.2)) args s) E 12 (cellsM E g ++ wx) [(0, .ref (aE E 28 0)), (1, .int l1), (2, .int l2), (3, .long l3), (5, .long l5), (7, .int l7)] [] 39) {l5 : Int64} {l7 : Int32} (r : STt × Int64) (h : fX11_sure_l39c K39 g l1 l2 l3 l5 l7 = some r) : VJ p l e (rmL (L + 1)) s m args below meth c (QE below E (cellsM E r.1 ++ wx) (some (.long r.2)) args s) E 12 (cellsM E g ++ wx) [(0, .ref (aE E 28 0)), (1, .int l1), (2, .int l2), (3, .long l3), (5, .long l5), (7, .int l7)] [] 39 := by
  unfold fX11_sure_l39c at h
  refine v_iload C 5 (dk dcX11_sure_0 22 rfl) rfl ?_
  refine v_iload_n C 1 (dk dcX11_sure_0 23 rfl) rfl rfl ?_
  refine v_icmp_ge C 59 (dk dcX11_sure_0 24 rfl) (by decide) (fun c_1 => ?_) (fun c_1 => ?_)
  · replace h := if_t c_1 h
    refine v_iconst C 0 (dk dcX11_sure_0 31 rfl) ki_0 ?_
    refine v_istore C (lv' := [(7, .int 0), (0, .ref (aE E 28 0)), (1, .int l1), (2, .int l2), (3, .long l3), (5, .long l5)]) (dk dcX11_sure_0 32 rfl) (by decide) rfl ?_
    exact vj_sub [1, 2, 3, 4, 5, 0] rfl (vX11_sure_l62 hL C _ h)
  · replace h := if_f c_1 h
    refine v_lload C 4 (dk dcX11_sure_0 25 rfl) rfl ?_
    refine v_ldc2 C wd_1498 (dk dcX11_sure_0 26 rfl) ?_
    refine v_lmul C (dk dcX11_sure_0 27 rfl) ?_
    refine v_lstore C (lv' := [(5, .long (l5 * 10)), (0, .ref (aE E 28 0)), (1, .int l1), (2, .int l2), (3, .long l3), (7, .int l7)]) (dk dcX11_sure_0 28 rfl) (by decide) rfl ?_
    refine v_iinc C (lv' := [(7, .int (l7 + 1)), (5, .long (l5 * 10)), (0, .ref (aE E 28 0)), (1, .int l1), (2, .int l2), (3, .long l3)]) (l7 + 1) 5 (dk dcX11_sure_0 29 rfl) rfl (congrArg (fun z => l7 + z) ki_1) (by decide) rfl ?_
    refine v_goto C 39 (dk dcX11_sure_0 30 rfl) (by decide) ?_
    exact vj_sub [2, 3, 4, 5, 1, 0] rfl (hK39 _ h)
set_option maxRecDepth 20000 in
set_option maxHeartbeats 4000000 in
theorem vX11_sure_l39 {L : Nat} (hL : 10 ≤ L) (C : CX p s m args meth c cX11_sure 12 RX11 (some .long) E) {g : STt} {l1 : Int32} {l2 : Int32} {l3 : Int64} {l5 : Int64} {l7 : Int32} (r : STt × Int64) (h : fX11_sure_l39 g l1 l2 l3 l5 l7 = some r) : VJ p l e (rmL (L + 1)) s m args below meth c (QE below E (cellsM E r.1 ++ wx) (some (.long r.2)) args s) E 12 (cellsM E g ++ wx) [(0, .ref (aE E 28 0)), (1, .int l1), (2, .int l2), (3, .long l3), (5, .long l5), (7, .int l7)] [] 39 :=
  iterO_ind (F := fun K z => fX11_sure_l39c K g l1 l2 l3 z.1 z.2) (fun z r => VJ p l e (rmL (L + 1)) s m args below meth c (QE below E (cellsM E r.1 ++ wx) (some (.long r.2)) args s) E 12 (cellsM E g ++ wx) [(0, .ref (aE E 28 0)), (1, .int l1), (2, .int l2), (3, .long l3), (5, .long z.1), (7, .int z.2)] [] 39) (fun K hK z r h => vX11_sure_l39c hL C (fun {l5} {l7} r h => hK (l5, l7) r h) r h) fuelN (l5, l7) r h
set_option maxRecDepth 20000 in
set_option maxHeartbeats 4000000 in
theorem mtX11_sure {l : Launch} {E : WEt} {wx : va_W} (L : Nat) (hL : 10 ≤ L)  {g : STt} {x1 : Int32} {x2 : Int32} {g' : STt} {rr : Int64} (h : fX11_sure g x1 x2 = some (g', rr)) : MT l E yX11_sure cX11_sure 12 (some .long) (L + 1) [.ref (aE E 28 0), .int x1, .int x2] (cellsM E g ++ wx) (cellsM E g' ++ wx) (some (.long rr)) := by
  refine mt_of (by decide +kernel) (Nat.le_of_ble_eq_true rfl) ?_
  intro p e s m args below meth c C
  replace C : CX p s m args meth c cX11_sure 12 RX11 (some .long) E := C
  unfold fX11_sure at h
  refine vj_sub (lv' := [(0, .ref (aE E 28 0)), (1, .int x1), (2, .int x2)]) [0, 1, 2] rfl ?_
  refine v_iload_n C 1 (dk dcX11_sure_0 0 rfl) rfl rfl ?_
  refine v_iconst C 1 (dk dcX11_sure_0 1 rfl) ki_1 ?_
  refine v_bipush C 6 (dk dcX11_sure_0 2 rfl) kb_6 ?_
  obtain ⟨r_2, h_1, h⟩ := bnd1_s h
  refine v_callS1 C (mtX11_in (L - 1) (by omega) h_1) wmX11_in wd_1266 (by omega) (by decide) rfl rfl (Nat.le_of_ble_eq_true rfl) (dk dcX11_sure_0 3 rfl) ?_
  refine v_if_eq C 27 (dk dcX11_sure_0 4 rfl) (by decide) (fun c_3 => ?_) (fun c_3 => ?_)
  · replace h := if_t c_3 h
    refine v_ldc2 C wd_1497 (dk dcX11_sure_0 14 rfl) ?_
    cases h
    exact v_lret C rfl (dk dcX11_sure_0 15 rfl)
  · replace h := if_f c_3 h
    refine v_iload_n C 1 (dk dcX11_sure_0 5 rfl) rfl rfl ?_
    refine v_aload_n C 0 (dk dcX11_sure_0 6 rfl) rfl rfl ?_
    refine gt_Mo_rowMany C wd_1133 (dk dcX11_sure_0 7 rfl) ?_
    refine v_icmp_gt C 27 (dk dcX11_sure_0 8 rfl) (by decide) (fun c_4 => ?_) (fun c_4 => ?_)
    · replace h := if_t c_4 h
      refine v_ldc2 C wd_1497 (dk dcX11_sure_0 14 rfl) ?_
      cases h
      exact v_lret C rfl (dk dcX11_sure_0 15 rfl)
    · replace h := if_f c_4 h
      refine v_iload_n C 2 (dk dcX11_sure_0 9 rfl) rfl rfl ?_
      refine v_iconst C 0 (dk dcX11_sure_0 10 rfl) ki_0 ?_
      refine v_iconst C 1 (dk dcX11_sure_0 11 rfl) ki_1 ?_
      obtain ⟨r_6, h_5, h⟩ := bnd1_s h
      refine v_callS1 C (mtX11_in (L - 1) (by omega) h_5) wmX11_in wd_1266 (by omega) (by decide) rfl rfl (Nat.le_of_ble_eq_true rfl) (dk dcX11_sure_0 12 rfl) ?_
      refine v_if_ne C 31 (dk dcX11_sure_0 13 rfl) (by decide) (fun c_7 => ?_) (fun c_7 => ?_)
      · replace h := if_f c_7 h
        refine v_lconst C 0 (dk dcX11_sure_0 16 rfl) rfl ?_
        refine v_lstore_n C (lv' := [(3, .long 0), (0, .ref (aE E 28 0)), (1, .int x1), (2, .int x2)]) (dk dcX11_sure_0 17 rfl) rfl (by decide) rfl ?_
        refine v_lconst C 1 (dk dcX11_sure_0 18 rfl) rfl ?_
        refine v_lstore C (lv' := [(5, .long 1), (3, .long 0), (0, .ref (aE E 28 0)), (1, .int x1), (2, .int x2)]) (dk dcX11_sure_0 19 rfl) (by decide) rfl ?_
        refine v_iconst C 0 (dk dcX11_sure_0 20 rfl) ki_0 ?_
        refine v_istore C (lv' := [(7, .int 0), (5, .long 1), (3, .long 0), (0, .ref (aE E 28 0)), (1, .int x1), (2, .int x2)]) (dk dcX11_sure_0 21 rfl) (by decide) rfl ?_
        exact vj_sub [3, 4, 5, 2, 1, 0] rfl (vX11_sure_l39 hL C _ h)
      · replace h := if_t c_7 h
        refine v_ldc2 C wd_1497 (dk dcX11_sure_0 14 rfl) ?_
        cases h
        exact v_lret C rfl (dk dcX11_sure_0 15 rfl)
set_option maxRecDepth 20000 in
set_option maxHeartbeats 4000000 in
theorem vX11_string_j139 {L : Nat} (hL : 9 ≤ L) (C : CX p s m args meth c cX11_string 6 RX11 (some .int) E) {g : STt} {s0 : Int32} (r : STt × Int32) (h : fX11_string_j139 g s0 = some r) : VJ p l e (rmL (L + 1)) s m args below meth c (QE below E (cellsM E r.1 ++ wx) (some (.int r.2)) args s) E 6 (cellsM E g ++ wx) [(0, .ref (aE E 28 0))] [.int s0] 139 := by
  unfold fX11_string_j139 at h
  refine v_istore C (lv' := [(5, .int s0), (0, .ref (aE E 28 0))]) (dk dcX11_string_1 34 rfl) (by decide) rfl ?_
  refine v_aload_n C 1 (dk dcX11_string_1 35 rfl) rfl rfl ?_
  refine v_iconst C 0 (dk dcX11_string_1 36 rfl) ki_0 ?_
  refine pt_Mo_moreLead C wd_1131 (dk dcX11_string_1 37 rfl) ?_
  refine v_iload C 0 (dk dcX11_string_1 38 rfl) rfl ?_
  cases h
  exact v_iret C rfl (dk dcX11_string_1 39 rfl)
set_option maxRecDepth 20000 in
set_option maxHeartbeats 4000000 in
theorem vX11_string_j109 {L : Nat} (hL : 9 ≤ L) (C : CX p s m args meth c cX11_string 6 RX11 (some .int) E) {g : STt} {l1 : Int32} {s0 : Int32} (r : STt × Int32) (h : fX11_string_j109 g l1 s0 = some r) : VJ p l e (rmL (L + 1)) s m args below meth c (QE below E (cellsM E r.1 ++ wx) (some (.int r.2)) args s) E 6 (cellsM E g ++ wx) [(0, .ref (aE E 28 0)), (1, .int l1)] [.int s0] 109 := by
  unfold fX11_string_j109 at h
  refine v_istore C (lv' := [(4, .int s0), (0, .ref (aE E 28 0)), (1, .int l1)]) (dk dcX11_string_1 17 rfl) (by decide) rfl ?_
  refine v_iload_n C 2 (dk dcX11_string_1 18 rfl) rfl rfl ?_
  refine v_iconst C 1 (dk dcX11_string_1 19 rfl) ki_1 ?_
  refine v_icmp_ne C 119 (dk dcX11_string_1 20 rfl) (by decide) (fun c_1 => ?_) (fun c_1 => ?_)
  · replace h := if_f c_1 h
    refine v_aload_n C 1 (dk dcX11_string_1 23 rfl) rfl rfl ?_
    refine v_iload C 0 (dk dcX11_string_1 24 rfl) rfl ?_
    refine pt_Mo_moreLead C wd_1131 (dk dcX11_string_1 25 rfl) ?_
    refine v_aload_n C 1 (dk dcX11_string_1 26 rfl) rfl rfl ?_
    refine v_iconst C 1 (dk dcX11_string_1 27 rfl) ki_1 ?_
    obtain ⟨g_3, r_4, h_2, h⟩ := bnd_s h
    refine v_callV1 C (mtX11_wouldBy (L - 1) (by omega) h_2) wmX11_wouldBy wd_1411 (by omega) (by decide) rfl _ (ce_Mo) rfl rfl (Nat.le_of_ble_eq_true rfl) (dk dcX11_string_1 28 rfl) ?_
    refine v_iconst C 1 (dk dcX11_string_1 29 rfl) ki_1 ?_
    refine v_icmp_ne C 138 (dk dcX11_string_1 30 rfl) (by decide) (fun c_5 => ?_) (fun c_5 => ?_)
    · replace h := if_f c_5 h
      refine v_iconst C 0 (dk dcX11_string_1 33 rfl) ki_0 ?_
      exact vj_sub [1] rfl (vX11_string_j139 hL C _ h)
    · replace h := if_t c_5 h
      refine v_iconst C 1 (dk dcX11_string_1 31 rfl) ki_1 ?_
      refine v_goto C 139 (dk dcX11_string_1 32 rfl) (by decide) ?_
      exact vj_sub [1] rfl (vX11_string_j139 hL C _ h)
  · replace h := if_t c_1 h
    refine v_iload C 0 (dk dcX11_string_1 21 rfl) rfl ?_
    cases h
    exact v_iret C rfl (dk dcX11_string_1 22 rfl)
set_option maxRecDepth 20000 in
set_option maxHeartbeats 4000000 in
theorem vX11_string_j60 {L : Nat} (hL : 9 ≤ L) (C : CX p s m args meth c cX11_string 6 RX11 (some .int) E) {g : STt} {l1 : Int32} {l2 : Int32} {l3 : Int32} {K35 : (Int32 × Int32) → Option (STt × Int32)} (hK35 : ∀ {l2 : Int32} {l3 : Int32} (r : STt × Int32), K35 (l2, l3) = some r → VJ p l e (rmL (L + 1)) s m args below meth c (QE below E (cellsM E r.1 ++ wx) (some (.int r.2)) args s) E 6 (cellsM E g ++ wx) [(0, .ref (aE E 28 0)), (1, .int l1), (2, .int l2), (3, .int l3)] [] 35) (r : STt × Int32) (h : fX11_string_j60 K35 g l1 l2 l3 = some r) : VJ p l e (rmL (L + 1)) s m args below meth c (QE below E (cellsM E r.1 ++ wx) (some (.int r.2)) args s) E 6 (cellsM E g ++ wx) [(0, .ref (aE E 28 0)), (1, .int l1), (2, .int l2), (3, .int l3)] [] 60 := by
  unfold fX11_string_j60 at h
  refine v_iinc C (lv' := [(3, .int (l3 + 1)), (0, .ref (aE E 28 0)), (1, .int l1), (2, .int l2)]) (l3 + 1) 3 (dk dcX11_string_0 36 rfl) rfl (congrArg (fun z => l3 + z) ki_1) (by decide) rfl ?_
  refine v_goto C 35 (dk dcX11_string_0 37 rfl) (by decide) ?_
  exact vj_sub [1, 2, 3, 0] rfl (hK35 _ h)
set_option maxRecDepth 20000 in
set_option maxHeartbeats 4000000 in
theorem vX11_string_l35c {L : Nat} (hL : 9 ≤ L) (C : CX p s m args meth c cX11_string 6 RX11 (some .int) E) {g : STt} {l1 : Int32} {K35 : (Int32 × Int32) → Option (STt × Int32)} (hK35 : ∀ {l2 : Int32} {l3 : Int32} (r : STt × Int32), K35 (l2, l3) = some r → VJ p l e (rmL (L + 1)) s m args below meth c (QE below E (cellsM E r.1 ++ wx) (some (.int r.2)) args s) E 6 (cellsM E g ++ wx) [(0, .ref (aE E 28 0)), (1, .int l1), (2, .int l2), (3, .int l3)] [] 35) {l2 : Int32} {l3 : Int32} (r : STt × Int32) (h : fX11_string_l35c K35 g l1 l2 l3 = some r) : VJ p l e (rmL (L + 1)) s m args below meth c (QE below E (cellsM E r.1 ++ wx) (some (.int r.2)) args s) E 6 (cellsM E g ++ wx) [(0, .ref (aE E 28 0)), (1, .int l1), (2, .int l2), (3, .int l3)] [] 35 := by
  unfold fX11_string_l35c at h
  refine v_iload_n C 3 (dk dcX11_string_0 21 rfl) rfl rfl ?_
  refine v_aload_n C 0 (dk dcX11_string_0 22 rfl) rfl rfl ?_
  refine gt_Mo_beasts C wd_1138 (dk dcX11_string_0 23 rfl) ?_
  refine v_icmp_ge C 66 (dk dcX11_string_0 24 rfl) (by decide) (fun c_1 => ?_) (fun c_1 => ?_)
  · replace h := if_t c_1 h
    refine v_iload_n C 1 (dk dcX11_string_0 38 rfl) rfl rfl ?_
    refine v_if_ne C 72 (dk dcX11_string_0 39 rfl) (by decide) (fun c_2 => ?_) (fun c_2 => ?_)
    · replace h := if_f c_2 h
      refine v_aload_n C 0 (dk dcX11_string_0 42 rfl) rfl rfl ?_
      refine gt_Mo_is C wd_1112 (dk dcX11_string_0 43 rfl) ?_
      refine v_aload_n C 0 (dk dcX11_string_0 44 rfl) rfl rfl ?_
      refine gt_Mo_thing C wd_1111 (dk dcX11_string_0 45 rfl) ?_
      refine v_aload_n C 0 (dk dcX11_string_0 46 rfl) rfl rfl ?_
      refine gt_Mo_is C wd_1112 (dk dcX11_string_0 47 rfl) ?_
      refine v_bipush C 12 (dk dcX11_string_1 0 rfl) kb_12 ?_
      obtain ⟨b_3, h⟩ := gd_t h
      refine ld_m_is C b_3 (dk dcX11_string_1 1 rfl) ?_
      obtain ⟨b_4, h⟩ := gd_t h
      refine ld_m_thing C b_4 (dk dcX11_string_1 2 rfl) ?_
      obtain ⟨b_5, h⟩ := gd_t h
      refine ld_m_is C b_5 (dk dcX11_string_1 3 rfl) ?_
      refine v_aload_n C 0 (dk dcX11_string_1 4 rfl) rfl rfl ?_
      refine gt_Mo_beastFear C wd_1139 (dk dcX11_string_1 5 rfl) ?_
      refine v_iload_n C 2 (dk dcX11_string_1 6 rfl) rfl rfl ?_
      obtain ⟨b_6, h⟩ := gd_t h
      refine ld_m_beastFear C b_6 (dk dcX11_string_1 7 rfl) ?_
      refine v_isub C (dk dcX11_string_1 8 rfl) ?_
      refine v_istore_n C (lv' := [(3, .int ((g.2.1 57 0 (g.2.1 56 0 (g.2.1 57 0 (12 : Int32).toNatClampNeg).toNatClampNeg).toNatClampNeg) - (g.2.1 72 0 l2.toNatClampNeg))), (0, .ref (aE E 28 0)), (1, .int l1), (2, .int l2)]) (dk dcX11_string_1 9 rfl) rfl (by decide) rfl ?_
      refine v_iload_n C 0 (dk dcX11_string_1 10 rfl) rfl rfl ?_
      refine v_if_ge C 105 (dk dcX11_string_1 11 rfl) (by decide) (fun c_7 => ?_) (fun c_7 => ?_)
      · replace h := if_t c_7 h
        refine v_iload_n C 0 (dk dcX11_string_1 14 rfl) rfl rfl ?_
        refine v_bipush C 10 (dk dcX11_string_1 15 rfl) kb_10 ?_
        refine v_idiv C (dk dcX11_string_1 16 rfl) (by decide) ?_
        exact vj_sub [1, 2] rfl (vX11_string_j109 hL C _ h)
      · replace h := if_f c_7 h
        refine v_iconst C 0 (dk dcX11_string_1 12 rfl) ki_0 ?_
        refine v_goto C 109 (dk dcX11_string_1 13 rfl) (by decide) ?_
        exact vj_sub [1, 2] rfl (vX11_string_j109 hL C _ h)
    · replace h := if_t c_2 h
      refine v_iload_n C 2 (dk dcX11_string_0 40 rfl) rfl rfl ?_
      cases h
      exact v_iret C rfl (dk dcX11_string_0 41 rfl)
  · replace h := if_f c_1 h
    refine v_aload_n C 0 (dk dcX11_string_0 25 rfl) rfl rfl ?_
    refine gt_Mo_beastFear C wd_1139 (dk dcX11_string_0 26 rfl) ?_
    refine v_iload_n C 3 (dk dcX11_string_0 27 rfl) rfl rfl ?_
    obtain ⟨b_2, h⟩ := gd_t h
    refine ld_m_beastFear C b_2 (dk dcX11_string_0 28 rfl) ?_
    refine v_aload_n C 0 (dk dcX11_string_0 29 rfl) rfl rfl ?_
    refine gt_Mo_beastFear C wd_1139 (dk dcX11_string_0 30 rfl) ?_
    refine v_iload_n C 2 (dk dcX11_string_0 31 rfl) rfl rfl ?_
    obtain ⟨b_3, h⟩ := gd_t h
    refine ld_m_beastFear C b_3 (dk dcX11_string_0 32 rfl) ?_
    refine v_icmp_ge C 60 (dk dcX11_string_0 33 rfl) (by decide) (fun c_4 => ?_) (fun c_4 => ?_)
    · replace h := if_t c_4 h
      exact vj_sub [0, 1, 2, 3] rfl (vX11_string_j60 hL C hK35 _ h)
    · replace h := if_f c_4 h
      refine v_iload_n C 3 (dk dcX11_string_0 34 rfl) rfl rfl ?_
      refine v_istore_n C (lv' := [(2, .int l3), (0, .ref (aE E 28 0)), (1, .int l1), (3, .int l3)]) (dk dcX11_string_0 35 rfl) rfl (by decide) rfl ?_
      exact vj_sub [1, 2, 0, 3] rfl (vX11_string_j60 hL C hK35 _ h)
set_option maxRecDepth 20000 in
set_option maxHeartbeats 4000000 in
theorem vX11_string_l35 {L : Nat} (hL : 9 ≤ L) (C : CX p s m args meth c cX11_string 6 RX11 (some .int) E) {g : STt} {l1 : Int32} {l2 : Int32} {l3 : Int32} (r : STt × Int32) (h : fX11_string_l35 g l1 l2 l3 = some r) : VJ p l e (rmL (L + 1)) s m args below meth c (QE below E (cellsM E r.1 ++ wx) (some (.int r.2)) args s) E 6 (cellsM E g ++ wx) [(0, .ref (aE E 28 0)), (1, .int l1), (2, .int l2), (3, .int l3)] [] 35 :=
  iterO_ind (F := fun K z => fX11_string_l35c K g l1 z.1 z.2) (fun z r => VJ p l e (rmL (L + 1)) s m args below meth c (QE below E (cellsM E r.1 ++ wx) (some (.int r.2)) args s) E 6 (cellsM E g ++ wx) [(0, .ref (aE E 28 0)), (1, .int l1), (2, .int z.1), (3, .int z.2)] [] 35) (fun K hK z r h => vX11_string_l35c hL C (fun {l2} {l3} r h => hK (l2, l3) r h) r h) fuelN (l2, l3) r h
set_option maxRecDepth 20000 in
set_option maxHeartbeats 4000000 in
theorem mtX11_string {l : Launch} {E : WEt} {wx : va_W} (L : Nat) (hL : 9 ≤ L)  {g : STt} {x1 : Int32} {g' : STt} {rr : Int32} (h : fX11_string g x1 = some (g', rr)) : MT l E yX11_string cX11_string 6 (some .int) (L + 1) [.ref (aE E 28 0), .int x1] (cellsM E g ++ wx) (cellsM E g' ++ wx) (some (.int rr)) := by
  refine mt_of (by decide +kernel) (Nat.le_of_ble_eq_true rfl) ?_
  intro p e s m args below meth c C
  replace C : CX p s m args meth c cX11_string 6 RX11 (some .int) E := C
  unfold fX11_string at h
  refine vj_sub (lv' := [(0, .ref (aE E 28 0)), (1, .int x1)]) [0, 1] rfl ?_
  refine v_iload_n C 1 (dk dcX11_string_0 0 rfl) rfl rfl ?_
  refine v_iconst C 0 (dk dcX11_string_0 1 rfl) ki_0 ?_
  refine v_iconst C 2 (dk dcX11_string_0 2 rfl) ki_2 ?_
  obtain ⟨r_2, h_1, h⟩ := bnd1_s h
  refine v_callS1 C (mtX11_in (L - 1) (by omega) h_1) wmX11_in wd_1266 (by omega) (by decide) rfl rfl (Nat.le_of_ble_eq_true rfl) (dk dcX11_string_0 3 rfl) ?_
  refine v_if_ne C 11 (dk dcX11_string_0 4 rfl) (by decide) (fun c_3 => ?_) (fun c_3 => ?_)
  · replace h := if_f c_3 h
    refine v_aload_n C 0 (dk dcX11_string_0 7 rfl) rfl rfl ?_
    obtain ⟨r_5, h_4, h⟩ := bnd1_s h
    refine v_callV1 C (mtX11_isOver (L - 1) (by omega) h_4) wmX11_isOver wd_1361 (by omega) (by decide) rfl _ (ce_Mo) rfl rfl (Nat.le_of_ble_eq_true rfl) (dk dcX11_string_0 8 rfl) ?_
    refine v_if_eq C 21 (dk dcX11_string_0 9 rfl) (by decide) (fun c_6 => ?_) (fun c_6 => ?_)
    · replace h := if_t c_6 h
      refine v_aload_n C 0 (dk dcX11_string_0 12 rfl) rfl rfl ?_
      refine gt_Mo_beasts C wd_1138 (dk dcX11_string_0 13 rfl) ?_
      refine v_if_ne C 31 (dk dcX11_string_0 14 rfl) (by decide) (fun c_7 => ?_) (fun c_7 => ?_)
      · replace h := if_f c_7 h
        refine v_iconst C 0 (dk dcX11_string_0 17 rfl) ki_0 ?_
        refine v_istore_n C (lv' := [(2, .int 0), (0, .ref (aE E 28 0)), (1, .int x1)]) (dk dcX11_string_0 18 rfl) rfl (by decide) rfl ?_
        refine v_iconst C 1 (dk dcX11_string_0 19 rfl) ki_1 ?_
        refine v_istore_n C (lv' := [(3, .int 1), (2, .int 0), (0, .ref (aE E 28 0)), (1, .int x1)]) (dk dcX11_string_0 20 rfl) rfl (by decide) rfl ?_
        exact vj_sub [2, 3, 1, 0] rfl (vX11_string_l35 hL C _ h)
      · replace h := if_t c_7 h
        refine v_bipush C (-5) (dk dcX11_string_0 15 rfl) kb_m5 ?_
        cases h
        exact v_iret C rfl (dk dcX11_string_0 16 rfl)
    · replace h := if_f c_6 h
      refine v_bipush C (-3) (dk dcX11_string_0 10 rfl) kb_m3 ?_
      cases h
      exact v_iret C rfl (dk dcX11_string_0 11 rfl)
  · replace h := if_t c_3 h
    refine v_iconst C (-1) (dk dcX11_string_0 5 rfl) ki_m1 ?_
    cases h
    exact v_iret C rfl (dk dcX11_string_0 6 rfl)
set_option maxRecDepth 20000 in
set_option maxHeartbeats 4000000 in
theorem vX11_actOf_l7c {L : Nat} (hL : 2 ≤ L) (C : CX p s m args meth c cX11_actOf 5 RX11 (some .int) E) {g : STt} {l1 : Int32} {K7 : (Int32 × Int32) → Option Int32} (hK7 : ∀ {l3 : Int32} {l4 : Int32} (r : Int32), K7 (l3, l4) = some r → VJ p l e (rmL (L + 1)) s m args below meth c (QE below E (cellsM E g ++ wx) (some (.int r)) args s) E 5 (cellsM E g ++ wx) [(1, .int l1), (3, .int l3), (4, .int l4)] [] 7) {l3 : Int32} {l4 : Int32} (r : Int32) (h : fX11_actOf_l7c K7 g l1 l3 l4 = some r) : VJ p l e (rmL (L + 1)) s m args below meth c (QE below E (cellsM E g ++ wx) (some (.int r)) args s) E 5 (cellsM E g ++ wx) [(1, .int l1), (3, .int l3), (4, .int l4)] [] 7 := by
  unfold fX11_actOf_l7c at h
  refine v_iload C 2 (dk dcX11_actOf_0 6 rfl) rfl ?_
  refine v_iload_n C 0 (dk dcX11_actOf_0 7 rfl) rfl rfl ?_
  refine v_icmp_le C 24 (dk dcX11_actOf_0 8 rfl) (by decide) (fun c_1 => ?_) (fun c_1 => ?_)
  · replace h := if_t c_1 h
    refine v_iload_n C 1 (dk dcX11_actOf_0 15 rfl) rfl rfl ?_
    refine v_bipush C 7 (dk dcX11_actOf_0 16 rfl) kb_7 ?_
    refine v_irem C (dk dcX11_actOf_0 17 rfl) (by decide) ?_
    refine v_bipush C 6 (dk dcX11_actOf_0 18 rfl) kb_6 ?_
    refine v_icmp_ne C 38 (dk dcX11_actOf_0 19 rfl) (by decide) (fun c_2 => ?_) (fun c_2 => ?_)
    · replace h := if_f c_2 h
      refine v_iload_n C 1 (dk dcX11_actOf_0 22 rfl) rfl rfl ?_
      refine v_bipush C 7 (dk dcX11_actOf_0 23 rfl) kb_7 ?_
      refine v_irem C (dk dcX11_actOf_0 24 rfl) (by decide) ?_
      cases h
      exact v_iret C rfl (dk dcX11_actOf_0 25 rfl)
    · replace h := if_t c_2 h
      refine v_bipush C 7 (dk dcX11_actOf_0 20 rfl) kb_7 ?_
      refine v_goto C 42 (dk dcX11_actOf_0 21 rfl) (by decide) ?_
      cases h
      exact v_iret C rfl (dk dcX11_actOf_0 25 rfl)
  · replace h := if_f c_1 h
    refine v_iload_n C 1 (dk dcX11_actOf_0 9 rfl) rfl rfl ?_
    refine v_bipush C 7 (dk dcX11_actOf_0 10 rfl) kb_7 ?_
    refine v_idiv C (dk dcX11_actOf_0 11 rfl) (by decide) ?_
    refine v_istore_n C (lv' := [(3, .int (l3 / 7)), (1, .int l1), (4, .int l4)]) (dk dcX11_actOf_0 12 rfl) rfl (by decide) rfl ?_
    refine v_iinc C (lv' := [(4, .int (l4 + (-1))), (3, .int (l3 / 7)), (1, .int l1)]) (l4 + (-1)) 2 (dk dcX11_actOf_0 13 rfl) rfl (congrArg (fun z => l4 + z) ki_m1) (by decide) rfl ?_
    refine v_goto C 7 (dk dcX11_actOf_0 14 rfl) (by decide) ?_
    exact vj_sub [2, 1, 0] rfl (hK7 _ h)
set_option maxRecDepth 20000 in
set_option maxHeartbeats 4000000 in
theorem vX11_actOf_l7 {L : Nat} (hL : 2 ≤ L) (C : CX p s m args meth c cX11_actOf 5 RX11 (some .int) E) {g : STt} {l1 : Int32} {l3 : Int32} {l4 : Int32} (r : Int32) (h : fX11_actOf_l7 g l1 l3 l4 = some r) : VJ p l e (rmL (L + 1)) s m args below meth c (QE below E (cellsM E g ++ wx) (some (.int r)) args s) E 5 (cellsM E g ++ wx) [(1, .int l1), (3, .int l3), (4, .int l4)] [] 7 :=
  iterO_ind (F := fun K z => fX11_actOf_l7c K g l1 z.1 z.2) (fun z r => VJ p l e (rmL (L + 1)) s m args below meth c (QE below E (cellsM E g ++ wx) (some (.int r)) args s) E 5 (cellsM E g ++ wx) [(1, .int l1), (3, .int z.1), (4, .int z.2)] [] 7) (fun K hK z r h => vX11_actOf_l7c hL C (fun {l3} {l4} r h => hK (l3, l4) r h) r h) fuelN (l3, l4) r h
set_option maxRecDepth 20000 in
set_option maxHeartbeats 4000000 in
theorem mtX11_actOf {l : Launch} {E : WEt} {wx : va_W} (L : Nat) (hL : 2 ≤ L)  {g : STt} {x0 : Int32} {x1 : Int32} {x2 : Int32} {rr : Int32} (h : fX11_actOf g x0 x1 x2 = some rr) : MT l E yX11_actOf cX11_actOf 5 (some .int) (L + 1) [.int x0, .int x1, .int x2] (cellsM E g ++ wx) (cellsM E g ++ wx) (some (.int rr)) := by
  refine mt_of (by decide +kernel) (Nat.le_of_ble_eq_true rfl) ?_
  intro p e s m args below meth c C
  replace C : CX p s m args meth c cX11_actOf 5 RX11 (some .int) E := C
  unfold fX11_actOf at h
  refine vj_sub (lv' := [(0, .int x0), (1, .int x1), (2, .int x2)]) [0, 1, 2] rfl ?_
  refine v_iload_n C 0 (dk dcX11_actOf_0 0 rfl) rfl rfl ?_
  refine v_istore_n C (lv' := [(3, .int x0), (0, .int x0), (1, .int x1), (2, .int x2)]) (dk dcX11_actOf_0 1 rfl) rfl (by decide) rfl ?_
  refine v_iload_n C 3 (dk dcX11_actOf_0 2 rfl) rfl rfl ?_
  refine v_iconst C 1 (dk dcX11_actOf_0 3 rfl) ki_1 ?_
  refine v_isub C (dk dcX11_actOf_0 4 rfl) ?_
  refine v_istore C (lv' := [(4, .int (x2 - 1)), (3, .int x0), (0, .int x0), (1, .int x1), (2, .int x2)]) (dk dcX11_actOf_0 5 rfl) (by decide) rfl ?_
  exact vj_sub [3, 1, 0] rfl (vX11_actOf_l7 hL C _ h)
set_option maxRecDepth 20000 in
set_option maxHeartbeats 4000000 in
theorem vX11_learnt_l10c {L : Nat} (hL : 2 ≤ L) (C : CX p s m args meth c cX11_learnt 3 RX11 (some .int) E) {g : STt} {K10 : (Int32 × Int32) → Option Int32} (hK10 : ∀ {l1 : Int32} {l2 : Int32} (r : Int32), K10 (l1, l2) = some r → VJ p l e (rmL (L + 1)) s m args below meth c (QE below E (cellsM E g ++ wx) (some (.int r)) args s) E 3 (cellsM E g ++ wx) [(0, .ref (aE E 28 0)), (1, .int l1), (2, .int l2)] [] 10) {l1 : Int32} {l2 : Int32} (r : Int32) (h : fX11_learnt_l10c K10 g l1 l2 = some r) : VJ p l e (rmL (L + 1)) s m args below meth c (QE below E (cellsM E g ++ wx) (some (.int r)) args s) E 3 (cellsM E g ++ wx) [(0, .ref (aE E 28 0)), (1, .int l1), (2, .int l2)] [] 10 := by
  unfold fX11_learnt_l10c at h
  refine v_iload_n C 2 (dk dcX11_learnt_0 7 rfl) rfl rfl ?_
  refine v_bipush C 6 (dk dcX11_learnt_0 8 rfl) kb_6 ?_
  refine v_icmp_ge C 31 (dk dcX11_learnt_0 9 rfl) (by decide) (fun c_1 => ?_) (fun c_1 => ?_)
  · replace h := if_t c_1 h
    refine v_iload_n C 1 (dk dcX11_learnt_0 19 rfl) rfl rfl ?_
    cases h
    exact v_iret C rfl (dk dcX11_learnt_0 20 rfl)
  · replace h := if_f c_1 h
    refine v_iload_n C 1 (dk dcX11_learnt_0 10 rfl) rfl rfl ?_
    refine v_aload_n C 0 (dk dcX11_learnt_0 11 rfl) rfl rfl ?_
    refine gt_Mo_is C wd_1112 (dk dcX11_learnt_0 12 rfl) ?_
    refine v_iload_n C 2 (dk dcX11_learnt_0 13 rfl) rfl rfl ?_
    obtain ⟨b_2, h⟩ := gd_t h
    refine ld_m_is C b_2 (dk dcX11_learnt_0 14 rfl) ?_
    refine v_iadd C (dk dcX11_learnt_0 15 rfl) ?_
    refine v_istore_n C (lv' := [(1, .int (l1 + (g.2.1 57 0 l2.toNatClampNeg))), (0, .ref (aE E 28 0)), (2, .int l2)]) (dk dcX11_learnt_0 16 rfl) rfl (by decide) rfl ?_
    refine v_iinc C (lv' := [(2, .int (l2 + 1)), (1, .int (l1 + (g.2.1 57 0 l2.toNatClampNeg))), (0, .ref (aE E 28 0))]) (l2 + 1) 2 (dk dcX11_learnt_0 17 rfl) rfl (congrArg (fun z => l2 + z) ki_1) (by decide) rfl ?_
    refine v_goto C 10 (dk dcX11_learnt_0 18 rfl) (by decide) ?_
    exact vj_sub [2, 1, 0] rfl (hK10 _ h)
set_option maxRecDepth 20000 in
set_option maxHeartbeats 4000000 in
theorem vX11_learnt_l10 {L : Nat} (hL : 2 ≤ L) (C : CX p s m args meth c cX11_learnt 3 RX11 (some .int) E) {g : STt} {l1 : Int32} {l2 : Int32} (r : Int32) (h : fX11_learnt_l10 g l1 l2 = some r) : VJ p l e (rmL (L + 1)) s m args below meth c (QE below E (cellsM E g ++ wx) (some (.int r)) args s) E 3 (cellsM E g ++ wx) [(0, .ref (aE E 28 0)), (1, .int l1), (2, .int l2)] [] 10 :=
  iterO_ind (F := fun K z => fX11_learnt_l10c K g z.1 z.2) (fun z r => VJ p l e (rmL (L + 1)) s m args below meth c (QE below E (cellsM E g ++ wx) (some (.int r)) args s) E 3 (cellsM E g ++ wx) [(0, .ref (aE E 28 0)), (1, .int z.1), (2, .int z.2)] [] 10) (fun K hK z r h => vX11_learnt_l10c hL C (fun {l1} {l2} r h => hK (l1, l2) r h) r h) fuelN (l1, l2) r h
set_option maxRecDepth 20000 in
set_option maxHeartbeats 4000000 in
theorem mtX11_learnt {l : Launch} {E : WEt} {wx : va_W} (L : Nat) (hL : 2 ≤ L)  {g : STt} {rr : Int32} (h : fX11_learnt g = some rr) : MT l E yX11_learnt cX11_learnt 3 (some .int) (L + 1) [.ref (aE E 28 0)] (cellsM E g ++ wx) (cellsM E g ++ wx) (some (.int rr)) := by
  refine mt_of (by decide +kernel) (Nat.le_of_ble_eq_true rfl) ?_
  intro p e s m args below meth c C
  replace C : CX p s m args meth c cX11_learnt 3 RX11 (some .int) E := C
  unfold fX11_learnt at h
  refine vj_sub (lv' := [(0, .ref (aE E 28 0))]) [0] rfl ?_
  refine v_aload_n C 0 (dk dcX11_learnt_0 0 rfl) rfl rfl ?_
  refine gt_Mo_is C wd_1112 (dk dcX11_learnt_0 1 rfl) ?_
  refine v_bipush C 6 (dk dcX11_learnt_0 2 rfl) kb_6 ?_
  obtain ⟨b_1, h⟩ := gd_t h
  refine ld_m_is C b_1 (dk dcX11_learnt_0 3 rfl) ?_
  refine v_istore_n C (lv' := [(1, .int (g.2.1 57 0 (6 : Int32).toNatClampNeg)), (0, .ref (aE E 28 0))]) (dk dcX11_learnt_0 4 rfl) rfl (by decide) rfl ?_
  refine v_iconst C 0 (dk dcX11_learnt_0 5 rfl) ki_0 ?_
  refine v_istore_n C (lv' := [(2, .int 0), (1, .int (g.2.1 57 0 (6 : Int32).toNatClampNeg)), (0, .ref (aE E 28 0))]) (dk dcX11_learnt_0 6 rfl) rfl (by decide) rfl ?_
  exact vj_sub [2, 1, 0] rfl (vX11_learnt_l10 hL C _ h)
set_option maxRecDepth 20000 in
set_option maxHeartbeats 4000000 in
theorem vX11_atBehind_l6c {L : Nat} (hL : 10 ≤ L) (C : CX p s m args meth c cX11_atBehind 4 RX11 (some .int) E) {l1 : Int32} {l2 : Int32} {K6 : (STt × Int32) → Option (STt × Int32)} (hK6 : ∀ {g : STt} {l3 : Int32} (r : STt × Int32), K6 (g, l3) = some r → VJ p l e (rmL (L + 1)) s m args below meth c (QE below E (cellsM E r.1 ++ wx) (some (.int r.2)) args s) E 4 (cellsM E g ++ wx) [(0, .ref (aE E 28 0)), (1, .int l1), (2, .int l2), (3, .int l3)] [] 6) {g : STt} {l3 : Int32} (r : STt × Int32) (h : fX11_atBehind_l6c K6 l1 l2 g l3 = some r) : VJ p l e (rmL (L + 1)) s m args below meth c (QE below E (cellsM E r.1 ++ wx) (some (.int r.2)) args s) E 4 (cellsM E g ++ wx) [(0, .ref (aE E 28 0)), (1, .int l1), (2, .int l2), (3, .int l3)] [] 6 := by
  unfold fX11_atBehind_l6c at h
  refine v_iload_n C 3 (dk dcX11_atBehind_0 4 rfl) rfl rfl ?_
  refine v_iload_n C 2 (dk dcX11_atBehind_0 5 rfl) rfl rfl ?_
  refine v_icmp_ge C 28 (dk dcX11_atBehind_0 6 rfl) (by decide) (fun c_1 => ?_) (fun c_1 => ?_)
  · replace h := if_t c_1 h
    refine v_aload_n C 0 (dk dcX11_atBehind_0 16 rfl) rfl rfl ?_
    refine gt_Mo_is C wd_1112 (dk dcX11_atBehind_0 17 rfl) ?_
    refine v_bipush C 12 (dk dcX11_atBehind_0 18 rfl) kb_12 ?_
    obtain ⟨b_2, h⟩ := gd_t h
    refine ld_m_is C b_2 (dk dcX11_atBehind_0 19 rfl) ?_
    refine v_istore_n C (lv' := [(3, .int (g.2.1 57 0 (12 : Int32).toNatClampNeg)), (0, .ref (aE E 28 0)), (1, .int l1), (2, .int l2)]) (dk dcX11_atBehind_0 20 rfl) rfl (by decide) rfl ?_
    refine v_aload_n C 1 (dk dcX11_atBehind_0 21 rfl) rfl rfl ?_
    refine v_aload_n C 1 (dk dcX11_atBehind_0 22 rfl) rfl rfl ?_
    obtain ⟨r_4, h_3, h⟩ := bnd1_s h
    refine v_callV1 C (mtX11_learnt (L - 1) (by omega) h_3) wmX11_learnt wd_1293 (by omega) (by decide) rfl _ (ce_Mo) rfl rfl (Nat.le_of_ble_eq_true rfl) (dk dcX11_atBehind_0 23 rfl) ?_
    refine pt_Mo_learntThen C wd_1136 (dk dcX11_atBehind_0 24 rfl) ?_
    refine v_aload_n C 1 (dk dcX11_atBehind_0 25 rfl) rfl rfl ?_
    obtain ⟨g_6, h_5, h⟩ := bnd1_s h
    refine v_callV0 C (mtX11_layBack (L - 1) (by omega) h_5) wmX11_layBack wd_1447 (by omega) (by decide) rfl _ (ce_Mo) rfl rfl (Nat.le_of_ble_eq_true rfl) (dk dcX11_atBehind_0 26 rfl) ?_
    refine v_iload_n C 0 (dk dcX11_atBehind_0 27 rfl) rfl rfl ?_
    cases h
    exact v_iret C rfl (dk dcX11_atBehind_0 28 rfl)
  · replace h := if_f c_1 h
    refine v_aload_n C 0 (dk dcX11_atBehind_0 7 rfl) rfl rfl ?_
    refine v_iload_n C 1 (dk dcX11_atBehind_0 8 rfl) rfl rfl ?_
    refine v_iload_n C 3 (dk dcX11_atBehind_0 9 rfl) rfl rfl ?_
    refine v_iload_n C 2 (dk dcX11_atBehind_0 10 rfl) rfl rfl ?_
    obtain ⟨r_3, h_2, h⟩ := bnd1_s h
    refine v_callS1 C (mtX11_actOf (L - 1) (by omega) h_2) wmX11_actOf wd_1462 (by omega) (by decide) rfl rfl (Nat.le_of_ble_eq_true rfl) (dk dcX11_atBehind_0 11 rfl) ?_
    obtain ⟨g_5, r_6, h_4, h⟩ := bnd_s h
    refine v_callV1 C (mtX11_does (L - 1) (by omega) h_4) wmX11_does wd_1423 (by omega) (by decide) rfl _ (ce_Mo) rfl rfl (Nat.le_of_ble_eq_true rfl) (dk dcX11_atBehind_0 12 rfl) ?_
    refine v_pop C rfl (dk dcX11_atBehind_0 13 rfl) ?_
    refine v_iinc C (lv' := [(3, .int (l3 + 1)), (0, .ref (aE E 28 0)), (1, .int l1), (2, .int l2)]) (l3 + 1) 3 (dk dcX11_atBehind_0 14 rfl) rfl (congrArg (fun z => l3 + z) ki_1) (by decide) rfl ?_
    refine v_goto C 6 (dk dcX11_atBehind_0 15 rfl) (by decide) ?_
    exact vj_sub [1, 2, 3, 0] rfl (hK6 _ h)
set_option maxRecDepth 20000 in
set_option maxHeartbeats 4000000 in
theorem vX11_atBehind_l6 {L : Nat} (hL : 10 ≤ L) (C : CX p s m args meth c cX11_atBehind 4 RX11 (some .int) E) {l1 : Int32} {l2 : Int32} {g : STt} {l3 : Int32} (r : STt × Int32) (h : fX11_atBehind_l6 l1 l2 g l3 = some r) : VJ p l e (rmL (L + 1)) s m args below meth c (QE below E (cellsM E r.1 ++ wx) (some (.int r.2)) args s) E 4 (cellsM E g ++ wx) [(0, .ref (aE E 28 0)), (1, .int l1), (2, .int l2), (3, .int l3)] [] 6 :=
  iterO_ind (F := fun K z => fX11_atBehind_l6c K l1 l2 z.1 z.2) (fun z r => VJ p l e (rmL (L + 1)) s m args below meth c (QE below E (cellsM E r.1 ++ wx) (some (.int r.2)) args s) E 4 (cellsM E z.1 ++ wx) [(0, .ref (aE E 28 0)), (1, .int l1), (2, .int l2), (3, .int z.2)] [] 6) (fun K hK z r h => vX11_atBehind_l6c hL C (fun {g} {l3} r h => hK (g, l3) r h) r h) fuelN (g, l3) r h
set_option maxRecDepth 20000 in
set_option maxHeartbeats 4000000 in
theorem mtX11_atBehind {l : Launch} {E : WEt} {wx : va_W} (L : Nat) (hL : 10 ≤ L)  {g : STt} {x1 : Int32} {x2 : Int32} {g' : STt} {rr : Int32} (h : fX11_atBehind g x1 x2 = some (g', rr)) : MT l E yX11_atBehind cX11_atBehind 4 (some .int) (L + 1) [.ref (aE E 28 0), .int x1, .int x2] (cellsM E g ++ wx) (cellsM E g' ++ wx) (some (.int rr)) := by
  refine mt_of (by decide +kernel) (Nat.le_of_ble_eq_true rfl) ?_
  intro p e s m args below meth c C
  replace C : CX p s m args meth c cX11_atBehind 4 RX11 (some .int) E := C
  unfold fX11_atBehind at h
  refine vj_sub (lv' := [(0, .ref (aE E 28 0)), (1, .int x1), (2, .int x2)]) [0, 1, 2] rfl ?_
  refine v_aload_n C 0 (dk dcX11_atBehind_0 0 rfl) rfl rfl ?_
  obtain ⟨g_2, h_1, h⟩ := bnd1_s h
  refine v_callV0 C (mtX11_keepNow (L - 1) (by omega) h_1) wmX11_keepNow wd_1443 (by omega) (by decide) rfl _ (ce_Mo) rfl rfl (Nat.le_of_ble_eq_true rfl) (dk dcX11_atBehind_0 1 rfl) ?_
  refine v_iconst C 0 (dk dcX11_atBehind_0 2 rfl) ki_0 ?_
  refine v_istore_n C (lv' := [(3, .int 0), (0, .ref (aE E 28 0)), (1, .int x1), (2, .int x2)]) (dk dcX11_atBehind_0 3 rfl) rfl (by decide) rfl ?_
  exact vj_sub [1, 2, 3, 0] rfl (vX11_atBehind_l6 hL C _ h)
set_option maxRecDepth 20000 in
set_option maxHeartbeats 4000000 in
theorem vX11_rowsOf_l4c {L : Nat} (hL : 2 ≤ L) (C : CX p s m args meth c cX11_rowsOf 3 RX11 (some .int) E) {g : STt} {l0 : Int32} {K4 : (Int32 × Int32) → Option Int32} (hK4 : ∀ {l1 : Int32} {l2 : Int32} (r : Int32), K4 (l1, l2) = some r → VJ p l e (rmL (L + 1)) s m args below meth c (QE below E (cellsM E g ++ wx) (some (.int r)) args s) E 3 (cellsM E g ++ wx) [(0, .int l0), (1, .int l1), (2, .int l2)] [] 4) {l1 : Int32} {l2 : Int32} (r : Int32) (h : fX11_rowsOf_l4c K4 g l0 l1 l2 = some r) : VJ p l e (rmL (L + 1)) s m args below meth c (QE below E (cellsM E g ++ wx) (some (.int r)) args s) E 3 (cellsM E g ++ wx) [(0, .int l0), (1, .int l1), (2, .int l2)] [] 4 := by
  unfold fX11_rowsOf_l4c at h
  refine v_iload_n C 2 (dk dcX11_rowsOf_0 4 rfl) rfl rfl ?_
  refine v_iload_n C 0 (dk dcX11_rowsOf_0 5 rfl) rfl rfl ?_
  refine v_icmp_ge C 20 (dk dcX11_rowsOf_0 6 rfl) (by decide) (fun c_1 => ?_) (fun c_1 => ?_)
  · replace h := if_t c_1 h
    refine v_iload_n C 1 (dk dcX11_rowsOf_0 13 rfl) rfl rfl ?_
    cases h
    exact v_iret C rfl (dk dcX11_rowsOf_0 14 rfl)
  · replace h := if_f c_1 h
    refine v_iload_n C 1 (dk dcX11_rowsOf_0 7 rfl) rfl rfl ?_
    refine v_bipush C 7 (dk dcX11_rowsOf_0 8 rfl) kb_7 ?_
    refine v_imul C (dk dcX11_rowsOf_0 9 rfl) ?_
    refine v_istore_n C (lv' := [(1, .int (l1 * 7)), (0, .int l0), (2, .int l2)]) (dk dcX11_rowsOf_0 10 rfl) rfl (by decide) rfl ?_
    refine v_iinc C (lv' := [(2, .int (l2 + 1)), (1, .int (l1 * 7)), (0, .int l0)]) (l2 + 1) 2 (dk dcX11_rowsOf_0 11 rfl) rfl (congrArg (fun z => l2 + z) ki_1) (by decide) rfl ?_
    refine v_goto C 4 (dk dcX11_rowsOf_0 12 rfl) (by decide) ?_
    exact vj_sub [2, 1, 0] rfl (hK4 _ h)
set_option maxRecDepth 20000 in
set_option maxHeartbeats 4000000 in
theorem vX11_rowsOf_l4 {L : Nat} (hL : 2 ≤ L) (C : CX p s m args meth c cX11_rowsOf 3 RX11 (some .int) E) {g : STt} {l0 : Int32} {l1 : Int32} {l2 : Int32} (r : Int32) (h : fX11_rowsOf_l4 g l0 l1 l2 = some r) : VJ p l e (rmL (L + 1)) s m args below meth c (QE below E (cellsM E g ++ wx) (some (.int r)) args s) E 3 (cellsM E g ++ wx) [(0, .int l0), (1, .int l1), (2, .int l2)] [] 4 :=
  iterO_ind (F := fun K z => fX11_rowsOf_l4c K g l0 z.1 z.2) (fun z r => VJ p l e (rmL (L + 1)) s m args below meth c (QE below E (cellsM E g ++ wx) (some (.int r)) args s) E 3 (cellsM E g ++ wx) [(0, .int l0), (1, .int z.1), (2, .int z.2)] [] 4) (fun K hK z r h => vX11_rowsOf_l4c hL C (fun {l1} {l2} r h => hK (l1, l2) r h) r h) fuelN (l1, l2) r h
set_option maxRecDepth 20000 in
set_option maxHeartbeats 4000000 in
theorem mtX11_rowsOf {l : Launch} {E : WEt} {wx : va_W} (L : Nat) (hL : 2 ≤ L)  {g : STt} {x0 : Int32} {rr : Int32} (h : fX11_rowsOf g x0 = some rr) : MT l E yX11_rowsOf cX11_rowsOf 3 (some .int) (L + 1) [.int x0] (cellsM E g ++ wx) (cellsM E g ++ wx) (some (.int rr)) := by
  refine mt_of (by decide +kernel) (Nat.le_of_ble_eq_true rfl) ?_
  intro p e s m args below meth c C
  replace C : CX p s m args meth c cX11_rowsOf 3 RX11 (some .int) E := C
  unfold fX11_rowsOf at h
  refine vj_sub (lv' := [(0, .int x0)]) [0] rfl ?_
  refine v_iconst C 1 (dk dcX11_rowsOf_0 0 rfl) ki_1 ?_
  refine v_istore_n C (lv' := [(1, .int 1), (0, .int x0)]) (dk dcX11_rowsOf_0 1 rfl) rfl (by decide) rfl ?_
  refine v_iconst C 0 (dk dcX11_rowsOf_0 2 rfl) ki_0 ?_
  refine v_istore_n C (lv' := [(2, .int 0), (1, .int 1), (0, .int x0)]) (dk dcX11_rowsOf_0 3 rfl) rfl (by decide) rfl ?_
  exact vj_sub [2, 1, 0] rfl (vX11_rowsOf_l4 hL C _ h)
set_option maxRecDepth 20000 in
set_option maxHeartbeats 4000000 in
theorem vX11_soonest_l43c {L : Nat} (hL : 11 ≤ L) (C : CX p s m args meth c cX11_soonest 5 RX11 (some .int) E) {l1 : Int32} {l2 : Int32} {l3 : Int32} {K35 : (STt × Int32) → Option (STt × Int32)} (hK35 : ∀ {g : STt} {l3 : Int32} (r : STt × Int32), K35 (g, l3) = some r → VJ p l e (rmL (L + 1)) s m args below meth c (QE below E (cellsM E r.1 ++ wx) (some (.int r.2)) args s) E 5 (cellsM E g ++ wx) [(0, .ref (aE E 28 0)), (1, .int l1), (2, .int l2), (3, .int l3)] [] 35) {K43 : (STt × Int32) → Option (STt × Int32)} (hK43 : ∀ {g : STt} {l4 : Int32} (r : STt × Int32), K43 (g, l4) = some r → VJ p l e (rmL (L + 1)) s m args below meth c (QE below E (cellsM E r.1 ++ wx) (some (.int r.2)) args s) E 5 (cellsM E g ++ wx) [(0, .ref (aE E 28 0)), (1, .int l1), (2, .int l2), (3, .int l3), (4, .int l4)] [] 43) {g : STt} {l4 : Int32} (r : STt × Int32) (h : fX11_soonest_l43c K35 K43 l1 l2 l3 g l4 = some r) : VJ p l e (rmL (L + 1)) s m args below meth c (QE below E (cellsM E r.1 ++ wx) (some (.int r.2)) args s) E 5 (cellsM E g ++ wx) [(0, .ref (aE E 28 0)), (1, .int l1), (2, .int l2), (3, .int l3), (4, .int l4)] [] 43 := by
  unfold fX11_soonest_l43c at h
  refine v_iload C 4 (dk dcX11_soonest_0 26 rfl) rfl ?_
  refine v_iload_n C 3 (dk dcX11_soonest_0 27 rfl) rfl rfl ?_
  obtain ⟨r_2, h_1, h⟩ := bnd1_s h
  refine v_callS1 C (mtX11_rowsOf (L - 1) (by omega) h_1) wmX11_rowsOf wd_1455 (by omega) (by decide) rfl rfl (Nat.le_of_ble_eq_true rfl) (dk dcX11_soonest_0 28 rfl) ?_
  refine v_icmp_ge C 106 (dk dcX11_soonest_0 29 rfl) (by decide) (fun c_3 => ?_) (fun c_3 => ?_)
  · replace h := if_t c_3 h
    refine v_iinc C (lv' := [(3, .int (l3 + 1)), (0, .ref (aE E 28 0)), (1, .int l1), (2, .int l2), (4, .int l4)]) (l3 + 1) 3 (dk dcX11_soonest_1 10 rfl) rfl (congrArg (fun z => l3 + z) ki_1) (by decide) rfl ?_
    refine v_goto C 35 (dk dcX11_soonest_1 11 rfl) (by decide) ?_
    exact vj_sub [1, 2, 3, 0] rfl (hK35 _ h)
  · replace h := if_f c_3 h
    refine v_aload_n C 0 (dk dcX11_soonest_0 30 rfl) rfl rfl ?_
    refine v_iload C 4 (dk dcX11_soonest_0 31 rfl) rfl ?_
    refine v_iload_n C 3 (dk dcX11_soonest_0 32 rfl) rfl rfl ?_
    obtain ⟨g_5, r_6, h_4, h⟩ := bnd_s h
    refine v_callV1 C (mtX11_atBehind (L - 1) (by omega) h_4) wmX11_atBehind wd_1458 (by omega) (by decide) rfl _ (ce_Mo) rfl rfl (Nat.le_of_ble_eq_true rfl) (dk dcX11_soonest_0 33 rfl) ?_
    refine v_aload_n C 0 (dk dcX11_soonest_0 34 rfl) rfl rfl ?_
    refine gt_Mo_is C wd_1112 (dk dcX11_soonest_0 35 rfl) ?_
    refine v_bipush C 12 (dk dcX11_soonest_0 36 rfl) kb_12 ?_
    obtain ⟨b_7, h⟩ := gd_t h
    refine ld_m_is C b_7 (dk dcX11_soonest_0 37 rfl) ?_
    refine v_iconst C 1 (dk dcX11_soonest_0 38 rfl) ki_1 ?_
    refine v_iadd C (dk dcX11_soonest_0 39 rfl) ?_
    refine v_icmp_eq C 74 (dk dcX11_soonest_0 40 rfl) (by decide) (fun c_8 => ?_) (fun c_8 => ?_)
    · replace h := if_t c_8 h
      refine v_iload_n C 2 (dk dcX11_soonest_0 42 rfl) rfl rfl ?_
      refine v_if_ge C 82 (dk dcX11_soonest_0 43 rfl) (by decide) (fun c_9 => ?_) (fun c_9 => ?_)
      · replace h := if_t c_9 h
        refine v_iload_n C 2 (dk dcX11_soonest_0 46 rfl) rfl rfl ?_
        refine v_iload_n C 3 (dk dcX11_soonest_0 47 rfl) rfl rfl ?_
        refine v_icmp_ge C 97 (dk dcX11_soonest_1 0 rfl) (by decide) (fun c_10 => ?_) (fun c_10 => ?_)
        · replace h := if_t c_10 h
          refine v_bipush C (-5) (dk dcX11_soonest_1 6 rfl) kb_m5 ?_
          cases h
          exact v_iret C rfl (dk dcX11_soonest_1 7 rfl)
        · replace h := if_f c_10 h
          refine v_iload C 4 (dk dcX11_soonest_1 1 rfl) rfl ?_
          refine v_iload_n C 2 (dk dcX11_soonest_1 2 rfl) rfl rfl ?_
          refine v_iload_n C 3 (dk dcX11_soonest_1 3 rfl) rfl rfl ?_
          obtain ⟨r_12, h_11, h⟩ := bnd1_s h
          refine v_callS1 C (mtX11_actOf (L - 1) (by omega) h_11) wmX11_actOf wd_1462 (by omega) (by decide) rfl rfl (Nat.le_of_ble_eq_true rfl) (dk dcX11_soonest_1 4 rfl) ?_
          refine v_goto C 99 (dk dcX11_soonest_1 5 rfl) (by decide) ?_
          cases h
          exact v_iret C rfl (dk dcX11_soonest_1 7 rfl)
      · replace h := if_f c_9 h
        refine v_iload_n C 3 (dk dcX11_soonest_0 44 rfl) rfl rfl ?_
        refine v_goto C 99 (dk dcX11_soonest_0 45 rfl) (by decide) ?_
        cases h
        exact v_iret C rfl (dk dcX11_soonest_1 7 rfl)
    · replace h := if_f c_8 h
      refine v_goto C 100 (dk dcX11_soonest_0 41 rfl) (by decide) ?_
      refine v_iinc C (lv' := [(4, .int (l4 + 1)), (0, .ref (aE E 28 0)), (1, .int l1), (2, .int l2), (3, .int l3)]) (l4 + 1) 4 (dk dcX11_soonest_1 8 rfl) rfl (congrArg (fun z => l4 + z) ki_1) (by decide) rfl ?_
      refine v_goto C 43 (dk dcX11_soonest_1 9 rfl) (by decide) ?_
      exact vj_sub [1, 2, 3, 4, 0] rfl (hK43 _ h)
set_option maxRecDepth 20000 in
set_option maxHeartbeats 4000000 in
theorem vX11_soonest_l43 {L : Nat} (hL : 11 ≤ L) (C : CX p s m args meth c cX11_soonest 5 RX11 (some .int) E) {l1 : Int32} {l2 : Int32} {l3 : Int32} {K35 : (STt × Int32) → Option (STt × Int32)} (hK35 : ∀ {g : STt} {l3 : Int32} (r : STt × Int32), K35 (g, l3) = some r → VJ p l e (rmL (L + 1)) s m args below meth c (QE below E (cellsM E r.1 ++ wx) (some (.int r.2)) args s) E 5 (cellsM E g ++ wx) [(0, .ref (aE E 28 0)), (1, .int l1), (2, .int l2), (3, .int l3)] [] 35) {g : STt} {l4 : Int32} (r : STt × Int32) (h : fX11_soonest_l43 K35 l1 l2 l3 g l4 = some r) : VJ p l e (rmL (L + 1)) s m args below meth c (QE below E (cellsM E r.1 ++ wx) (some (.int r.2)) args s) E 5 (cellsM E g ++ wx) [(0, .ref (aE E 28 0)), (1, .int l1), (2, .int l2), (3, .int l3), (4, .int l4)] [] 43 :=
  iterO_ind (F := fun K z => fX11_soonest_l43c K35 K l1 l2 l3 z.1 z.2) (fun z r => VJ p l e (rmL (L + 1)) s m args below meth c (QE below E (cellsM E r.1 ++ wx) (some (.int r.2)) args s) E 5 (cellsM E z.1 ++ wx) [(0, .ref (aE E 28 0)), (1, .int l1), (2, .int l2), (3, .int l3), (4, .int z.2)] [] 43) (fun K hK z r h => vX11_soonest_l43c hL C hK35 (fun {g} {l4} r h => hK (g, l4) r h) r h) fuelN (g, l4) r h
set_option maxRecDepth 20000 in
set_option maxHeartbeats 4000000 in
theorem vX11_soonest_l35c {L : Nat} (hL : 11 ≤ L) (C : CX p s m args meth c cX11_soonest 5 RX11 (some .int) E) {l1 : Int32} {l2 : Int32} {K35 : (STt × Int32) → Option (STt × Int32)} (hK35 : ∀ {g : STt} {l3 : Int32} (r : STt × Int32), K35 (g, l3) = some r → VJ p l e (rmL (L + 1)) s m args below meth c (QE below E (cellsM E r.1 ++ wx) (some (.int r.2)) args s) E 5 (cellsM E g ++ wx) [(0, .ref (aE E 28 0)), (1, .int l1), (2, .int l2), (3, .int l3)] [] 35) {g : STt} {l3 : Int32} (r : STt × Int32) (h : fX11_soonest_l35c K35 l1 l2 g l3 = some r) : VJ p l e (rmL (L + 1)) s m args below meth c (QE below E (cellsM E r.1 ++ wx) (some (.int r.2)) args s) E 5 (cellsM E g ++ wx) [(0, .ref (aE E 28 0)), (1, .int l1), (2, .int l2), (3, .int l3)] [] 35 := by
  unfold fX11_soonest_l35c at h
  refine v_iload_n C 3 (dk dcX11_soonest_0 21 rfl) rfl rfl ?_
  refine v_iload_n C 1 (dk dcX11_soonest_0 22 rfl) rfl rfl ?_
  refine v_icmp_gt C 112 (dk dcX11_soonest_0 23 rfl) (by decide) (fun c_1 => ?_) (fun c_1 => ?_)
  · replace h := if_t c_1 h
    refine v_bipush C (-5) (dk dcX11_soonest_1 12 rfl) kb_m5 ?_
    cases h
    exact v_iret C rfl (dk dcX11_soonest_1 13 rfl)
  · replace h := if_f c_1 h
    refine v_iconst C 0 (dk dcX11_soonest_0 24 rfl) ki_0 ?_
    refine v_istore C (lv' := [(4, .int 0), (0, .ref (aE E 28 0)), (1, .int l1), (2, .int l2), (3, .int l3)]) (dk dcX11_soonest_0 25 rfl) (by decide) rfl ?_
    exact vj_sub [1, 2, 3, 4, 0] rfl (vX11_soonest_l43 hL C hK35 _ h)
set_option maxRecDepth 20000 in
set_option maxHeartbeats 4000000 in
theorem vX11_soonest_l35 {L : Nat} (hL : 11 ≤ L) (C : CX p s m args meth c cX11_soonest 5 RX11 (some .int) E) {l1 : Int32} {l2 : Int32} {g : STt} {l3 : Int32} (r : STt × Int32) (h : fX11_soonest_l35 l1 l2 g l3 = some r) : VJ p l e (rmL (L + 1)) s m args below meth c (QE below E (cellsM E r.1 ++ wx) (some (.int r.2)) args s) E 5 (cellsM E g ++ wx) [(0, .ref (aE E 28 0)), (1, .int l1), (2, .int l2), (3, .int l3)] [] 35 :=
  iterO_ind (F := fun K z => fX11_soonest_l35c K l1 l2 z.1 z.2) (fun z r => VJ p l e (rmL (L + 1)) s m args below meth c (QE below E (cellsM E r.1 ++ wx) (some (.int r.2)) args s) E 5 (cellsM E z.1 ++ wx) [(0, .ref (aE E 28 0)), (1, .int l1), (2, .int l2), (3, .int z.2)] [] 35) (fun K hK z r h => vX11_soonest_l35c hL C (fun {g} {l3} r h => hK (g, l3) r h) r h) fuelN (g, l3) r h
set_option maxRecDepth 20000 in
set_option maxHeartbeats 4000000 in
theorem mtX11_soonest {l : Launch} {E : WEt} {wx : va_W} (L : Nat) (hL : 11 ≤ L)  {g : STt} {x1 : Int32} {x2 : Int32} {g' : STt} {rr : Int32} (h : fX11_soonest g x1 x2 = some (g', rr)) : MT l E yX11_soonest cX11_soonest 5 (some .int) (L + 1) [.ref (aE E 28 0), .int x1, .int x2] (cellsM E g ++ wx) (cellsM E g' ++ wx) (some (.int rr)) := by
  refine mt_of (by decide +kernel) (Nat.le_of_ble_eq_true rfl) ?_
  intro p e s m args below meth c C
  replace C : CX p s m args meth c cX11_soonest 5 RX11 (some .int) E := C
  unfold fX11_soonest at h
  refine vj_sub (lv' := [(0, .ref (aE E 28 0)), (1, .int x1), (2, .int x2)]) [0, 1, 2] rfl ?_
  refine v_iload_n C 2 (dk dcX11_soonest_0 0 rfl) rfl rfl ?_
  refine v_iconst C (-1) (dk dcX11_soonest_0 1 rfl) ki_m1 ?_
  refine v_iconst C 3 (dk dcX11_soonest_0 2 rfl) ki_3 ?_
  obtain ⟨r_2, h_1, h⟩ := bnd1_s h
  refine v_callS1 C (mtX11_in (L - 1) (by omega) h_1) wmX11_in wd_1266 (by omega) (by decide) rfl rfl (Nat.le_of_ble_eq_true rfl) (dk dcX11_soonest_0 3 rfl) ?_
  refine v_if_ne C 11 (dk dcX11_soonest_0 4 rfl) (by decide) (fun c_3 => ?_) (fun c_3 => ?_)
  · replace h := if_f c_3 h
    refine v_iload_n C 1 (dk dcX11_soonest_0 7 rfl) rfl rfl ?_
    refine v_iconst C 0 (dk dcX11_soonest_0 8 rfl) ki_0 ?_
    refine v_iconst C 4 (dk dcX11_soonest_0 9 rfl) ki_4 ?_
    obtain ⟨r_5, h_4, h⟩ := bnd1_s h
    refine v_callS1 C (mtX11_in (L - 1) (by omega) h_4) wmX11_in wd_1266 (by omega) (by decide) rfl rfl (Nat.le_of_ble_eq_true rfl) (dk dcX11_soonest_0 10 rfl) ?_
    refine v_if_ne C 23 (dk dcX11_soonest_0 11 rfl) (by decide) (fun c_6 => ?_) (fun c_6 => ?_)
    · replace h := if_f c_6 h
      refine v_aload_n C 0 (dk dcX11_soonest_0 14 rfl) rfl rfl ?_
      obtain ⟨r_8, h_7, h⟩ := bnd1_s h
      refine v_callV1 C (mtX11_isOver (L - 1) (by omega) h_7) wmX11_isOver wd_1361 (by omega) (by decide) rfl _ (ce_Mo) rfl rfl (Nat.le_of_ble_eq_true rfl) (dk dcX11_soonest_0 15 rfl) ?_
      refine v_if_eq C 33 (dk dcX11_soonest_0 16 rfl) (by decide) (fun c_9 => ?_) (fun c_9 => ?_)
      · replace h := if_t c_9 h
        refine v_iconst C 1 (dk dcX11_soonest_0 19 rfl) ki_1 ?_
        refine v_istore_n C (lv' := [(3, .int 1), (0, .ref (aE E 28 0)), (1, .int x1), (2, .int x2)]) (dk dcX11_soonest_0 20 rfl) rfl (by decide) rfl ?_
        exact vj_sub [1, 2, 3, 0] rfl (vX11_soonest_l35 hL C _ h)
      · replace h := if_f c_9 h
        refine v_bipush C (-3) (dk dcX11_soonest_0 17 rfl) kb_m3 ?_
        cases h
        exact v_iret C rfl (dk dcX11_soonest_0 18 rfl)
    · replace h := if_t c_6 h
      refine v_bipush C (-2) (dk dcX11_soonest_0 12 rfl) kb_m2 ?_
      cases h
      exact v_iret C rfl (dk dcX11_soonest_0 13 rfl)
  · replace h := if_t c_3 h
    refine v_iconst C (-1) (dk dcX11_soonest_0 5 rfl) ki_m1 ?_
    cases h
    exact v_iret C rfl (dk dcX11_soonest_0 6 rfl)
set_option maxRecDepth 20000 in
set_option maxHeartbeats 4000000 in
theorem vX11_shiftLoad_j144 {L : Nat} (hL : 6 ≤ L) (C : CX p s m args meth c cX11_shiftLoad 8 RX11 (some .int) E) {g : STt} {l1 : Int32} {l2 : Int32} {l3 : Int32} {l4 : Int32} {l5 : Int32} {l6 : Int32} {K38 : (STt × Int32 × Int32 × Int32) → Option (STt × Int32)} (hK38 : ∀ {g : STt} {l1 : Int32} {l2 : Int32} {l5 : Int32} (r : STt × Int32), K38 (g, l1, l2, l5) = some r → VJ p l e (rmL (L + 1)) s m args below meth c (QE below E (cellsM E r.1 ++ wx) (some (.int r.2)) args s) E 8 (cellsM E g ++ wx) [(0, .ref (aE E 28 0)), (1, .int l1), (2, .int l2), (3, .int l3), (4, .int l4), (5, .int l5)] [] 38) {K48 : (STt × Int32 × Int32 × Int32) → Option (STt × Int32)} (hK48 : ∀ {g : STt} {l1 : Int32} {l2 : Int32} {l6 : Int32} (r : STt × Int32), K48 (g, l1, l2, l6) = some r → VJ p l e (rmL (L + 1)) s m args below meth c (QE below E (cellsM E r.1 ++ wx) (some (.int r.2)) args s) E 8 (cellsM E g ++ wx) [(0, .ref (aE E 28 0)), (1, .int l1), (2, .int l2), (3, .int l3), (4, .int l4), (5, .int l5), (6, .int l6)] [] 48) (r : STt × Int32) (h : fX11_shiftLoad_j144 K38 K48 g l1 l2 l3 l4 l5 l6 = some r) : VJ p l e (rmL (L + 1)) s m args below meth c (QE below E (cellsM E r.1 ++ wx) (some (.int r.2)) args s) E 8 (cellsM E g ++ wx) [(0, .ref (aE E 28 0)), (1, .int l1), (2, .int l2), (3, .int l3), (4, .int l4), (5, .int l5), (6, .int l6)] [] 144 := by
  unfold fX11_shiftLoad_j144 at h
  refine v_iinc C (lv' := [(6, .int (l6 + (-2))), (0, .ref (aE E 28 0)), (1, .int l1), (2, .int l2), (3, .int l3), (4, .int l4), (5, .int l5)]) (l6 + (-2)) 6 (dk dcX11_shiftLoad_1 34 rfl) rfl (congrArg (fun z => l6 + z) ki_m2) (by decide) rfl ?_
  refine v_goto C 48 (dk dcX11_shiftLoad_1 35 rfl) (by decide) ?_
  exact vj_sub [1, 2, 3, 4, 5, 6, 0] rfl (hK48 _ h)
set_option maxRecDepth 20000 in
set_option maxHeartbeats 4000000 in
theorem vX11_shiftLoad_l48c {L : Nat} (hL : 6 ≤ L) (C : CX p s m args meth c cX11_shiftLoad 8 RX11 (some .int) E) {l3 : Int32} {l4 : Int32} {l5 : Int32} {K38 : (STt × Int32 × Int32 × Int32) → Option (STt × Int32)} (hK38 : ∀ {g : STt} {l1 : Int32} {l2 : Int32} {l5 : Int32} (r : STt × Int32), K38 (g, l1, l2, l5) = some r → VJ p l e (rmL (L + 1)) s m args below meth c (QE below E (cellsM E r.1 ++ wx) (some (.int r.2)) args s) E 8 (cellsM E g ++ wx) [(0, .ref (aE E 28 0)), (1, .int l1), (2, .int l2), (3, .int l3), (4, .int l4), (5, .int l5)] [] 38) {K48 : (STt × Int32 × Int32 × Int32) → Option (STt × Int32)} (hK48 : ∀ {g : STt} {l1 : Int32} {l2 : Int32} {l6 : Int32} (r : STt × Int32), K48 (g, l1, l2, l6) = some r → VJ p l e (rmL (L + 1)) s m args below meth c (QE below E (cellsM E r.1 ++ wx) (some (.int r.2)) args s) E 8 (cellsM E g ++ wx) [(0, .ref (aE E 28 0)), (1, .int l1), (2, .int l2), (3, .int l3), (4, .int l4), (5, .int l5), (6, .int l6)] [] 48) {g : STt} {l1 : Int32} {l2 : Int32} {l6 : Int32} (r : STt × Int32) (h : fX11_shiftLoad_l48c K38 K48 l3 l4 l5 g l1 l2 l6 = some r) : VJ p l e (rmL (L + 1)) s m args below meth c (QE below E (cellsM E r.1 ++ wx) (some (.int r.2)) args s) E 8 (cellsM E g ++ wx) [(0, .ref (aE E 28 0)), (1, .int l1), (2, .int l2), (3, .int l3), (4, .int l4), (5, .int l5), (6, .int l6)] [] 48 := by
  unfold fX11_shiftLoad_l48c at h
  refine v_iload C 6 (dk dcX11_shiftLoad_0 28 rfl) rfl ?_
  refine v_iconst C (-1) (dk dcX11_shiftLoad_0 29 rfl) ki_m1 ?_
  refine v_icmp_lt C 150 (dk dcX11_shiftLoad_0 30 rfl) (by decide) (fun c_1 => ?_) (fun c_1 => ?_)
  · replace h := if_t c_1 h
    refine v_iinc C (lv' := [(5, .int (l5 + 1)), (0, .ref (aE E 28 0)), (1, .int l1), (2, .int l2), (3, .int l3), (4, .int l4), (6, .int l6)]) (l5 + 1) 5 (dk dcX11_shiftLoad_1 36 rfl) rfl (congrArg (fun z => l5 + z) ki_1) (by decide) rfl ?_
    refine v_goto C 38 (dk dcX11_shiftLoad_1 37 rfl) (by decide) ?_
    exact vj_sub [1, 2, 3, 4, 5, 0] rfl (hK38 _ h)
  · replace h := if_f c_1 h
    refine v_iload_n C 3 (dk dcX11_shiftLoad_0 31 rfl) rfl rfl ?_
    refine v_iload C 6 (dk dcX11_shiftLoad_0 32 rfl) rfl ?_
    refine v_iload C 5 (dk dcX11_shiftLoad_0 33 rfl) rfl ?_
    refine v_imul C (dk dcX11_shiftLoad_0 34 rfl) ?_
    refine v_isub C (dk dcX11_shiftLoad_0 35 rfl) ?_
    refine v_iconst C 0 (dk dcX11_shiftLoad_0 36 rfl) ki_0 ?_
    refine v_bipush C 99 (dk dcX11_shiftLoad_0 37 rfl) kb_99 ?_
    obtain ⟨r_3, h_2, h⟩ := bnd1_s h
    refine v_callS1 C (mtX11_in (L - 1) (by omega) h_2) wmX11_in wd_1266 (by omega) (by decide) rfl rfl (Nat.le_of_ble_eq_true rfl) (dk dcX11_shiftLoad_0 38 rfl) ?_
    refine v_if_eq C 144 (dk dcX11_shiftLoad_0 39 rfl) (by decide) (fun c_4 => ?_) (fun c_4 => ?_)
    · replace h := if_t c_4 h
      exact vj_sub [0, 1, 2, 3, 4, 5, 6] rfl (vX11_shiftLoad_j144 hL C hK38 hK48 _ h)
    · replace h := if_f c_4 h
      refine v_iload C 4 (dk dcX11_shiftLoad_0 40 rfl) rfl ?_
      refine v_iload C 6 (dk dcX11_shiftLoad_0 41 rfl) rfl ?_
      refine v_iload C 5 (dk dcX11_shiftLoad_0 42 rfl) rfl ?_
      refine v_imul C (dk dcX11_shiftLoad_0 43 rfl) ?_
      refine v_iadd C (dk dcX11_shiftLoad_0 44 rfl) ?_
      refine v_iconst C 0 (dk dcX11_shiftLoad_0 45 rfl) ki_0 ?_
      refine v_bipush C 99 (dk dcX11_shiftLoad_0 46 rfl) kb_99 ?_
      obtain ⟨r_6, h_5, h⟩ := bnd1_s h
      refine v_callS1 C (mtX11_in (L - 1) (by omega) h_5) wmX11_in wd_1266 (by omega) (by decide) rfl rfl (Nat.le_of_ble_eq_true rfl) (dk dcX11_shiftLoad_0 47 rfl) ?_
      refine v_if_ne C 90 (dk dcX11_shiftLoad_1 0 rfl) (by decide) (fun c_7 => ?_) (fun c_7 => ?_)
      · replace h := if_f c_7 h
        refine v_aload_n C 0 (dk dcX11_shiftLoad_1 2 rfl) rfl rfl ?_
        refine gt_Mo_is C wd_1112 (dk dcX11_shiftLoad_1 3 rfl) ?_
        refine v_bipush C 10 (dk dcX11_shiftLoad_1 4 rfl) kb_10 ?_
        refine v_iload_n C 3 (dk dcX11_shiftLoad_1 5 rfl) rfl rfl ?_
        refine v_iload C 6 (dk dcX11_shiftLoad_1 6 rfl) rfl ?_
        refine v_iload C 5 (dk dcX11_shiftLoad_1 7 rfl) rfl ?_
        refine v_imul C (dk dcX11_shiftLoad_1 8 rfl) ?_
        refine v_isub C (dk dcX11_shiftLoad_1 9 rfl) ?_
        obtain ⟨b_8, h⟩ := gd_t h
        refine st_m_is C b_8 (dk dcX11_shiftLoad_1 10 rfl) ?_
        refine v_aload_n C 0 (dk dcX11_shiftLoad_1 11 rfl) rfl rfl ?_
        refine gt_Mo_is C wd_1112 (dk dcX11_shiftLoad_1 12 rfl) ?_
        refine v_bipush C 11 (dk dcX11_shiftLoad_1 13 rfl) kb_11 ?_
        refine v_iload C 4 (dk dcX11_shiftLoad_1 14 rfl) rfl ?_
        refine v_iload C 6 (dk dcX11_shiftLoad_1 15 rfl) rfl ?_
        refine v_iload C 5 (dk dcX11_shiftLoad_1 16 rfl) rfl ?_
        refine v_imul C (dk dcX11_shiftLoad_1 17 rfl) ?_
        refine v_iadd C (dk dcX11_shiftLoad_1 18 rfl) ?_
        obtain ⟨b_9, h⟩ := gd_t h
        refine st_m_is C b_9 (dk dcX11_shiftLoad_1 19 rfl) ?_
        refine v_aload_n C 0 (dk dcX11_shiftLoad_1 20 rfl) rfl rfl ?_
        refine v_iconst C 2 (dk dcX11_shiftLoad_1 21 rfl) ki_2 ?_
        obtain ⟨g_11, r_12, h_10, h⟩ := bnd_s h
        refine v_callV1 C (mtX11_sumOf (L - 1) (by omega) h_10) wmX11_sumOf wd_1365 (by omega) (by decide) rfl _ (ce_Mo) rfl rfl (Nat.le_of_ble_eq_true rfl) (dk dcX11_shiftLoad_1 22 rfl) ?_
        refine v_istore C (lv' := [(7, .int r_12), (0, .ref (aE E 28 0)), (1, .int l1), (2, .int l2), (3, .int l3), (4, .int l4), (5, .int l5), (6, .int l6)]) (dk dcX11_shiftLoad_1 23 rfl) (by decide) rfl ?_
        refine v_iload C 0 (dk dcX11_shiftLoad_1 24 rfl) rfl ?_
        refine v_iload_n C 3 (dk dcX11_shiftLoad_1 25 rfl) rfl rfl ?_
        refine v_icmp_lt C 135 (dk dcX11_shiftLoad_1 26 rfl) (by decide) (fun c_13 => ?_) (fun c_13 => ?_)
        · replace h := if_t c_13 h
          refine v_iload C 7 (dk dcX11_shiftLoad_1 28 rfl) rfl ?_
          refine v_iload C 6 (dk dcX11_shiftLoad_1 29 rfl) rfl ?_
          refine v_imul C (dk dcX11_shiftLoad_1 30 rfl) ?_
          refine v_istore_n C (lv' := [(1, .int (l6 * l5)), (7, .int r_12), (0, .ref (aE E 28 0)), (2, .int l2), (3, .int l3), (4, .int l4), (5, .int l5), (6, .int l6)]) (dk dcX11_shiftLoad_1 31 rfl) rfl (by decide) rfl ?_
          refine v_iload C 1 (dk dcX11_shiftLoad_1 32 rfl) rfl ?_
          refine v_istore_n C (lv' := [(2, .int r_12), (1, .int (l6 * l5)), (7, .int r_12), (0, .ref (aE E 28 0)), (3, .int l3), (4, .int l4), (5, .int l5), (6, .int l6)]) (dk dcX11_shiftLoad_1 33 rfl) rfl (by decide) rfl ?_
          exact vj_sub [3, 1, 0, 4, 5, 6, 7] rfl (vX11_shiftLoad_j144 hL C hK38 hK48 _ h)
        · replace h := if_f c_13 h
          refine v_goto C 144 (dk dcX11_shiftLoad_1 27 rfl) (by decide) ?_
          exact vj_sub [1, 2, 3, 4, 5, 6, 7] rfl (vX11_shiftLoad_j144 hL C hK38 hK48 _ h)
      · replace h := if_t c_7 h
        refine v_goto C 144 (dk dcX11_shiftLoad_1 1 rfl) (by decide) ?_
        exact vj_sub [0, 1, 2, 3, 4, 5, 6] rfl (vX11_shiftLoad_j144 hL C hK38 hK48 _ h)
set_option maxRecDepth 20000 in
set_option maxHeartbeats 4000000 in
theorem vX11_shiftLoad_l48 {L : Nat} (hL : 6 ≤ L) (C : CX p s m args meth c cX11_shiftLoad 8 RX11 (some .int) E) {l3 : Int32} {l4 : Int32} {l5 : Int32} {K38 : (STt × Int32 × Int32 × Int32) → Option (STt × Int32)} (hK38 : ∀ {g : STt} {l1 : Int32} {l2 : Int32} {l5 : Int32} (r : STt × Int32), K38 (g, l1, l2, l5) = some r → VJ p l e (rmL (L + 1)) s m args below meth c (QE below E (cellsM E r.1 ++ wx) (some (.int r.2)) args s) E 8 (cellsM E g ++ wx) [(0, .ref (aE E 28 0)), (1, .int l1), (2, .int l2), (3, .int l3), (4, .int l4), (5, .int l5)] [] 38) {g : STt} {l1 : Int32} {l2 : Int32} {l6 : Int32} (r : STt × Int32) (h : fX11_shiftLoad_l48 K38 l3 l4 l5 g l1 l2 l6 = some r) : VJ p l e (rmL (L + 1)) s m args below meth c (QE below E (cellsM E r.1 ++ wx) (some (.int r.2)) args s) E 8 (cellsM E g ++ wx) [(0, .ref (aE E 28 0)), (1, .int l1), (2, .int l2), (3, .int l3), (4, .int l4), (5, .int l5), (6, .int l6)] [] 48 :=
  iterO_ind (F := fun K z => fX11_shiftLoad_l48c K38 K l3 l4 l5 z.1 z.2.1 z.2.2.1 z.2.2.2) (fun z r => VJ p l e (rmL (L + 1)) s m args below meth c (QE below E (cellsM E r.1 ++ wx) (some (.int r.2)) args s) E 8 (cellsM E z.1 ++ wx) [(0, .ref (aE E 28 0)), (1, .int z.2.1), (2, .int z.2.2.1), (3, .int l3), (4, .int l4), (5, .int l5), (6, .int z.2.2.2)] [] 48) (fun K hK z r h => vX11_shiftLoad_l48c hL C hK38 (fun {g} {l1} {l2} {l6} r h => hK (g, l1, l2, l6) r h) r h) fuelN (g, l1, l2, l6) r h
set_option maxRecDepth 20000 in
set_option maxHeartbeats 4000000 in
theorem vX11_shiftLoad_l38c {L : Nat} (hL : 6 ≤ L) (C : CX p s m args meth c cX11_shiftLoad 8 RX11 (some .int) E) {l3 : Int32} {l4 : Int32} {K38 : (STt × Int32 × Int32 × Int32) → Option (STt × Int32)} (hK38 : ∀ {g : STt} {l1 : Int32} {l2 : Int32} {l5 : Int32} (r : STt × Int32), K38 (g, l1, l2, l5) = some r → VJ p l e (rmL (L + 1)) s m args below meth c (QE below E (cellsM E r.1 ++ wx) (some (.int r.2)) args s) E 8 (cellsM E g ++ wx) [(0, .ref (aE E 28 0)), (1, .int l1), (2, .int l2), (3, .int l3), (4, .int l4), (5, .int l5)] [] 38) {g : STt} {l1 : Int32} {l2 : Int32} {l5 : Int32} (r : STt × Int32) (h : fX11_shiftLoad_l38c K38 l3 l4 g l1 l2 l5 = some r) : VJ p l e (rmL (L + 1)) s m args below meth c (QE below E (cellsM E r.1 ++ wx) (some (.int r.2)) args s) E 8 (cellsM E g ++ wx) [(0, .ref (aE E 28 0)), (1, .int l1), (2, .int l2), (3, .int l3), (4, .int l4), (5, .int l5)] [] 38 := by
  unfold fX11_shiftLoad_l38c at h
  refine v_iload C 5 (dk dcX11_shiftLoad_0 23 rfl) rfl ?_
  refine v_bipush C 99 (dk dcX11_shiftLoad_0 24 rfl) kb_99 ?_
  refine v_icmp_gt C 156 (dk dcX11_shiftLoad_0 25 rfl) (by decide) (fun c_1 => ?_) (fun c_1 => ?_)
  · replace h := if_t c_1 h
    refine v_aload_n C 0 (dk dcX11_shiftLoad_1 38 rfl) rfl rfl ?_
    refine gt_Mo_is C wd_1112 (dk dcX11_shiftLoad_1 39 rfl) ?_
    refine v_bipush C 10 (dk dcX11_shiftLoad_1 40 rfl) kb_10 ?_
    refine v_iload_n C 3 (dk dcX11_shiftLoad_1 41 rfl) rfl rfl ?_
    obtain ⟨b_2, h⟩ := gd_t h
    refine st_m_is C b_2 (dk dcX11_shiftLoad_1 42 rfl) ?_
    refine v_aload_n C 0 (dk dcX11_shiftLoad_1 43 rfl) rfl rfl ?_
    refine gt_Mo_is C wd_1112 (dk dcX11_shiftLoad_1 44 rfl) ?_
    refine v_bipush C 11 (dk dcX11_shiftLoad_1 45 rfl) kb_11 ?_
    refine v_iload C 4 (dk dcX11_shiftLoad_1 46 rfl) rfl ?_
    obtain ⟨b_3, h⟩ := gd_t h
    refine st_m_is C b_3 (dk dcX11_shiftLoad_1 47 rfl) ?_
    refine v_iload_n C 1 (dk dcX11_shiftLoad_2 0 rfl) rfl rfl ?_
    cases h
    exact v_iret C rfl (dk dcX11_shiftLoad_2 1 rfl)
  · replace h := if_f c_1 h
    refine v_iconst C 1 (dk dcX11_shiftLoad_0 26 rfl) ki_1 ?_
    refine v_istore C (lv' := [(6, .int 1), (0, .ref (aE E 28 0)), (1, .int l1), (2, .int l2), (3, .int l3), (4, .int l4), (5, .int l5)]) (dk dcX11_shiftLoad_0 27 rfl) (by decide) rfl ?_
    exact vj_sub [1, 2, 3, 4, 5, 6, 0] rfl (vX11_shiftLoad_l48 hL C hK38 _ h)
set_option maxRecDepth 20000 in
set_option maxHeartbeats 4000000 in
theorem vX11_shiftLoad_l38 {L : Nat} (hL : 6 ≤ L) (C : CX p s m args meth c cX11_shiftLoad 8 RX11 (some .int) E) {l3 : Int32} {l4 : Int32} {g : STt} {l1 : Int32} {l2 : Int32} {l5 : Int32} (r : STt × Int32) (h : fX11_shiftLoad_l38 l3 l4 g l1 l2 l5 = some r) : VJ p l e (rmL (L + 1)) s m args below meth c (QE below E (cellsM E r.1 ++ wx) (some (.int r.2)) args s) E 8 (cellsM E g ++ wx) [(0, .ref (aE E 28 0)), (1, .int l1), (2, .int l2), (3, .int l3), (4, .int l4), (5, .int l5)] [] 38 :=
  iterO_ind (F := fun K z => fX11_shiftLoad_l38c K l3 l4 z.1 z.2.1 z.2.2.1 z.2.2.2) (fun z r => VJ p l e (rmL (L + 1)) s m args below meth c (QE below E (cellsM E r.1 ++ wx) (some (.int r.2)) args s) E 8 (cellsM E z.1 ++ wx) [(0, .ref (aE E 28 0)), (1, .int z.2.1), (2, .int z.2.2.1), (3, .int l3), (4, .int l4), (5, .int z.2.2.2)] [] 38) (fun K hK z r h => vX11_shiftLoad_l38c hL C (fun {g} {l1} {l2} {l5} r h => hK (g, l1, l2, l5) r h) r h) fuelN (g, l1, l2, l5) r h
set_option maxRecDepth 20000 in
set_option maxHeartbeats 4000000 in
theorem mtX11_shiftLoad {l : Launch} {E : WEt} {wx : va_W} (L : Nat) (hL : 6 ≤ L)  {g : STt} {g' : STt} {rr : Int32} (h : fX11_shiftLoad g = some (g', rr)) : MT l E yX11_shiftLoad cX11_shiftLoad 8 (some .int) (L + 1) [.ref (aE E 28 0)] (cellsM E g ++ wx) (cellsM E g' ++ wx) (some (.int rr)) := by
  refine mt_of (by decide +kernel) (Nat.le_of_ble_eq_true rfl) ?_
  intro p e s m args below meth c C
  replace C : CX p s m args meth c cX11_shiftLoad 8 RX11 (some .int) E := C
  unfold fX11_shiftLoad at h
  refine vj_sub (lv' := [(0, .ref (aE E 28 0))]) [0] rfl ?_
  refine v_aload_n C 0 (dk dcX11_shiftLoad_0 0 rfl) rfl rfl ?_
  obtain ⟨r_2, h_1, h⟩ := bnd1_s h
  refine v_callV1 C (mtX11_isOver (L - 1) (by omega) h_1) wmX11_isOver wd_1361 (by omega) (by decide) rfl _ (ce_Mo) rfl rfl (Nat.le_of_ble_eq_true rfl) (dk dcX11_shiftLoad_0 1 rfl) ?_
  refine v_if_eq C 10 (dk dcX11_shiftLoad_0 2 rfl) (by decide) (fun c_3 => ?_) (fun c_3 => ?_)
  · replace h := if_t c_3 h
    refine v_iconst C 0 (dk dcX11_shiftLoad_0 5 rfl) ki_0 ?_
    refine v_istore_n C (lv' := [(1, .int 0), (0, .ref (aE E 28 0))]) (dk dcX11_shiftLoad_0 6 rfl) rfl (by decide) rfl ?_
    refine v_aload_n C 1 (dk dcX11_shiftLoad_0 7 rfl) rfl rfl ?_
    refine v_iconst C 2 (dk dcX11_shiftLoad_0 8 rfl) ki_2 ?_
    obtain ⟨g_5, r_6, h_4, h⟩ := bnd_s h
    refine v_callV1 C (mtX11_sumOf (L - 1) (by omega) h_4) wmX11_sumOf wd_1365 (by omega) (by decide) rfl _ (ce_Mo) rfl rfl (Nat.le_of_ble_eq_true rfl) (dk dcX11_shiftLoad_0 9 rfl) ?_
    refine v_istore_n C (lv' := [(2, .int r_6), (1, .int 0), (0, .ref (aE E 28 0))]) (dk dcX11_shiftLoad_0 10 rfl) rfl (by decide) rfl ?_
    refine v_aload_n C 2 (dk dcX11_shiftLoad_0 11 rfl) rfl rfl ?_
    refine gt_Mo_is C wd_1112 (dk dcX11_shiftLoad_0 12 rfl) ?_
    refine v_bipush C 10 (dk dcX11_shiftLoad_0 13 rfl) kb_10 ?_
    obtain ⟨b_7, h⟩ := gd_t h
    refine ld_m_is C b_7 (dk dcX11_shiftLoad_0 14 rfl) ?_
    refine v_istore_n C (lv' := [(3, .int (g_5.2.1 57 0 (10 : Int32).toNatClampNeg)), (2, .int r_6), (1, .int 0), (0, .ref (aE E 28 0))]) (dk dcX11_shiftLoad_0 15 rfl) rfl (by decide) rfl ?_
    refine v_aload_n C 3 (dk dcX11_shiftLoad_0 16 rfl) rfl rfl ?_
    refine gt_Mo_is C wd_1112 (dk dcX11_shiftLoad_0 17 rfl) ?_
    refine v_bipush C 11 (dk dcX11_shiftLoad_0 18 rfl) kb_11 ?_
    obtain ⟨b_8, h⟩ := gd_t h
    refine ld_m_is C b_8 (dk dcX11_shiftLoad_0 19 rfl) ?_
    refine v_istore C (lv' := [(4, .int (g_5.2.1 57 0 (11 : Int32).toNatClampNeg)), (3, .int (g_5.2.1 57 0 (10 : Int32).toNatClampNeg)), (2, .int r_6), (1, .int 0), (0, .ref (aE E 28 0))]) (dk dcX11_shiftLoad_0 20 rfl) (by decide) rfl ?_
    refine v_iconst C 1 (dk dcX11_shiftLoad_0 21 rfl) ki_1 ?_
    refine v_istore C (lv' := [(5, .int 1), (4, .int (g_5.2.1 57 0 (11 : Int32).toNatClampNeg)), (3, .int (g_5.2.1 57 0 (10 : Int32).toNatClampNeg)), (2, .int r_6), (1, .int 0), (0, .ref (aE E 28 0))]) (dk dcX11_shiftLoad_0 22 rfl) (by decide) rfl ?_
    exact vj_sub [5, 4, 3, 2, 1, 0] rfl (vX11_shiftLoad_l38 hL C _ h)
  · replace h := if_f c_3 h
    refine v_ldc C wd_1394 (dk dcX11_shiftLoad_0 3 rfl) ?_
    cases h
    exact v_iret C rfl (dk dcX11_shiftLoad_0 4 rfl)
set_option maxRecDepth 20000 in
set_option maxHeartbeats 4000000 in
theorem vX11_shift_l147c {L : Nat} (hL : 4 ≤ L) (C : CX p s m args meth c cX11_shift 7 RX11 (some .int) E) {l3 : Int32} {l4 : Int32} {l5 : Int32} {K147 : (STt × Int32) → Option (STt × Int32)} (hK147 : ∀ {g : STt} {l6 : Int32} (r : STt × Int32), K147 (g, l6) = some r → VJ p l e (rmL (L + 1)) s m args below meth c (QE below E (cellsM E r.1 ++ wx) (some (.int r.2)) args s) E 7 (cellsM E g ++ wx) [(0, .ref (aE E 28 0)), (3, .int l3), (4, .int l4), (5, .int l5), (6, .int l6)] [] 147) {g : STt} {l6 : Int32} (r : STt × Int32) (h : fX11_shift_l147c K147 l3 l4 l5 g l6 = some r) : VJ p l e (rmL (L + 1)) s m args below meth c (QE below E (cellsM E r.1 ++ wx) (some (.int r.2)) args s) E 7 (cellsM E g ++ wx) [(0, .ref (aE E 28 0)), (3, .int l3), (4, .int l4), (5, .int l5), (6, .int l6)] [] 147 := by
  unfold fX11_shift_l147c at h
  refine v_iload C 4 (dk dcX11_shift_1 38 rfl) rfl ?_
  refine v_iload C 3 (dk dcX11_shift_1 39 rfl) rfl ?_
  refine v_icmp_ge C 182 (dk dcX11_shift_1 40 rfl) (by decide) (fun c_1 => ?_) (fun c_1 => ?_)
  · replace h := if_t c_1 h
    refine v_iload C 3 (dk dcX11_shift_2 9 rfl) rfl ?_
    cases h
    exact v_iret C rfl (dk dcX11_shift_2 10 rfl)
  · replace h := if_f c_1 h
    refine v_aload_n C 0 (dk dcX11_shift_1 41 rfl) rfl rfl ?_
    refine gt_Mo_items C wd_1144 (dk dcX11_shift_1 42 rfl) ?_
    refine v_bipush C 60 (dk dcX11_shift_1 43 rfl) kb_60 ?_
    refine v_iload_n C 1 (dk dcX11_shift_1 44 rfl) rfl rfl ?_
    refine v_imul C (dk dcX11_shift_1 45 rfl) ?_
    refine v_iload C 2 (dk dcX11_shift_1 46 rfl) rfl ?_
    refine v_iadd C (dk dcX11_shift_1 47 rfl) ?_
    refine v_iload C 4 (dk dcX11_shift_2 0 rfl) rfl ?_
    refine v_iadd C (dk dcX11_shift_2 1 rfl) ?_
    refine v_aload_n C 0 (dk dcX11_shift_2 2 rfl) rfl rfl ?_
    refine gt_Mo_moving C wd_1145 (dk dcX11_shift_2 3 rfl) ?_
    refine v_iload C 4 (dk dcX11_shift_2 4 rfl) rfl ?_
    obtain ⟨b_2, h⟩ := gd_t h
    refine ld_m_moving C b_2 (dk dcX11_shift_2 5 rfl) ?_
    obtain ⟨b_3, h⟩ := gd_t h
    refine st_m_items C b_3 (dk dcX11_shift_2 6 rfl) ?_
    refine v_iinc C (lv' := [(6, .int (l6 + 1)), (0, .ref (aE E 28 0)), (3, .int l3), (4, .int l4), (5, .int l5)]) (l6 + 1) 4 (dk dcX11_shift_2 7 rfl) rfl (congrArg (fun z => l6 + z) ki_1) (by decide) rfl ?_
    refine v_goto C 147 (dk dcX11_shift_2 8 rfl) (by decide) ?_
    exact vj_sub [1, 2, 3, 4, 0] rfl (hK147 _ h)
set_option maxRecDepth 20000 in
set_option maxHeartbeats 4000000 in
theorem vX11_shift_l147 {L : Nat} (hL : 4 ≤ L) (C : CX p s m args meth c cX11_shift 7 RX11 (some .int) E) {l3 : Int32} {l4 : Int32} {l5 : Int32} {g : STt} {l6 : Int32} (r : STt × Int32) (h : fX11_shift_l147 l3 l4 l5 g l6 = some r) : VJ p l e (rmL (L + 1)) s m args below meth c (QE below E (cellsM E r.1 ++ wx) (some (.int r.2)) args s) E 7 (cellsM E g ++ wx) [(0, .ref (aE E 28 0)), (3, .int l3), (4, .int l4), (5, .int l5), (6, .int l6)] [] 147 :=
  iterO_ind (F := fun K z => fX11_shift_l147c K l3 l4 l5 z.1 z.2) (fun z r => VJ p l e (rmL (L + 1)) s m args below meth c (QE below E (cellsM E r.1 ++ wx) (some (.int r.2)) args s) E 7 (cellsM E z.1 ++ wx) [(0, .ref (aE E 28 0)), (3, .int l3), (4, .int l4), (5, .int l5), (6, .int z.2)] [] 147) (fun K hK z r h => vX11_shift_l147c hL C (fun {g} {l6} r h => hK (g, l6) r h) r h) fuelN (g, l6) r h
set_option maxRecDepth 20000 in
set_option maxHeartbeats 4000000 in
theorem vX11_shift_l110c {L : Nat} (hL : 4 ≤ L) (C : CX p s m args meth c cX11_shift 7 RX11 (some .int) E) {l1 : Int32} {l2 : Int32} {l3 : Int32} {l4 : Int32} {l5 : Int32} {K110 : (STt × Int32) → Option (STt × Int32)} (hK110 : ∀ {g : STt} {l6 : Int32} (r : STt × Int32), K110 (g, l6) = some r → VJ p l e (rmL (L + 1)) s m args below meth c (QE below E (cellsM E r.1 ++ wx) (some (.int r.2)) args s) E 7 (cellsM E g ++ wx) [(0, .ref (aE E 28 0)), (1, .int l1), (2, .int l2), (3, .int l3), (4, .int l4), (5, .int l5), (6, .int l6)] [] 110) {g : STt} {l6 : Int32} (r : STt × Int32) (h : fX11_shift_l110c K110 l1 l2 l3 l4 l5 g l6 = some r) : VJ p l e (rmL (L + 1)) s m args below meth c (QE below E (cellsM E r.1 ++ wx) (some (.int r.2)) args s) E 7 (cellsM E g ++ wx) [(0, .ref (aE E 28 0)), (1, .int l1), (2, .int l2), (3, .int l3), (4, .int l4), (5, .int l5), (6, .int l6)] [] 110 := by
  unfold fX11_shift_l110c at h
  refine v_iload C 6 (dk dcX11_shift_1 17 rfl) rfl ?_
  refine v_iload C 5 (dk dcX11_shift_1 18 rfl) rfl ?_
  refine v_icmp_ge C 144 (dk dcX11_shift_1 19 rfl) (by decide) (fun c_1 => ?_) (fun c_1 => ?_)
  · replace h := if_t c_1 h
    refine v_iconst C 0 (dk dcX11_shift_1 36 rfl) ki_0 ?_
    refine v_istore C (lv' := [(6, .int 0), (0, .ref (aE E 28 0)), (1, .int l1), (2, .int l2), (3, .int l3), (4, .int l4), (5, .int l5)]) (dk dcX11_shift_1 37 rfl) (by decide) rfl ?_
    exact vj_sub [1, 4, 5, 6, 0] rfl (vX11_shift_l147 hL C _ h)
  · replace h := if_f c_1 h
    refine v_aload_n C 0 (dk dcX11_shift_1 20 rfl) rfl rfl ?_
    refine gt_Mo_moving C wd_1145 (dk dcX11_shift_1 21 rfl) ?_
    refine v_iload C 6 (dk dcX11_shift_1 22 rfl) rfl ?_
    refine v_aload_n C 0 (dk dcX11_shift_1 23 rfl) rfl rfl ?_
    refine gt_Mo_items C wd_1144 (dk dcX11_shift_1 24 rfl) ?_
    refine v_bipush C 60 (dk dcX11_shift_1 25 rfl) kb_60 ?_
    refine v_iload_n C 1 (dk dcX11_shift_1 26 rfl) rfl rfl ?_
    refine v_imul C (dk dcX11_shift_1 27 rfl) ?_
    refine v_iload_n C 2 (dk dcX11_shift_1 28 rfl) rfl rfl ?_
    refine v_iadd C (dk dcX11_shift_1 29 rfl) ?_
    refine v_iload C 6 (dk dcX11_shift_1 30 rfl) rfl ?_
    refine v_iadd C (dk dcX11_shift_1 31 rfl) ?_
    obtain ⟨b_2, h⟩ := gd_t h
    refine ld_m_items C b_2 (dk dcX11_shift_1 32 rfl) ?_
    obtain ⟨b_3, h⟩ := gd_t h
    refine st_m_moving C b_3 (dk dcX11_shift_1 33 rfl) ?_
    refine v_iinc C (lv' := [(6, .int (l6 + 1)), (0, .ref (aE E 28 0)), (1, .int l1), (2, .int l2), (3, .int l3), (4, .int l4), (5, .int l5)]) (l6 + 1) 6 (dk dcX11_shift_1 34 rfl) rfl (congrArg (fun z => l6 + z) ki_1) (by decide) rfl ?_
    refine v_goto C 110 (dk dcX11_shift_1 35 rfl) (by decide) ?_
    exact vj_sub [1, 2, 3, 4, 5, 6, 0] rfl (hK110 _ h)
set_option maxRecDepth 20000 in
set_option maxHeartbeats 4000000 in
theorem vX11_shift_l110 {L : Nat} (hL : 4 ≤ L) (C : CX p s m args meth c cX11_shift 7 RX11 (some .int) E) {l1 : Int32} {l2 : Int32} {l3 : Int32} {l4 : Int32} {l5 : Int32} {g : STt} {l6 : Int32} (r : STt × Int32) (h : fX11_shift_l110 l1 l2 l3 l4 l5 g l6 = some r) : VJ p l e (rmL (L + 1)) s m args below meth c (QE below E (cellsM E r.1 ++ wx) (some (.int r.2)) args s) E 7 (cellsM E g ++ wx) [(0, .ref (aE E 28 0)), (1, .int l1), (2, .int l2), (3, .int l3), (4, .int l4), (5, .int l5), (6, .int l6)] [] 110 :=
  iterO_ind (F := fun K z => fX11_shift_l110c K l1 l2 l3 l4 l5 z.1 z.2) (fun z r => VJ p l e (rmL (L + 1)) s m args below meth c (QE below E (cellsM E r.1 ++ wx) (some (.int r.2)) args s) E 7 (cellsM E z.1 ++ wx) [(0, .ref (aE E 28 0)), (1, .int l1), (2, .int l2), (3, .int l3), (4, .int l4), (5, .int l5), (6, .int z.2)] [] 110) (fun K hK z r h => vX11_shift_l110c hL C (fun {g} {l6} r h => hK (g, l6) r h) r h) fuelN (g, l6) r h
set_option maxRecDepth 20000 in
set_option maxHeartbeats 4000000 in
theorem mtX11_shift {l : Launch} {E : WEt} {wx : va_W} (L : Nat) (hL : 4 ≤ L)  {g : STt} {x1 : Int32} {x2 : Int32} {x3 : Int32} {x4 : Int32} {x5 : Int32} {g' : STt} {rr : Int32} (h : fX11_shift g x1 x2 x3 x4 x5 = some (g', rr)) : MT l E yX11_shift cX11_shift 7 (some .int) (L + 1) [.ref (aE E 28 0), .int x1, .int x2, .int x3, .int x4, .int x5] (cellsM E g ++ wx) (cellsM E g' ++ wx) (some (.int rr)) := by
  refine mt_of (by decide +kernel) (Nat.le_of_ble_eq_true rfl) ?_
  intro p e s m args below meth c C
  replace C : CX p s m args meth c cX11_shift 7 RX11 (some .int) E := C
  unfold fX11_shift at h
  refine vj_sub (lv' := [(0, .ref (aE E 28 0)), (1, .int x1), (2, .int x2), (3, .int x3), (4, .int x4), (5, .int x5)]) [0, 1, 2, 3, 4, 5] rfl ?_
  refine v_iload_n C 1 (dk dcX11_shift_0 0 rfl) rfl rfl ?_
  obtain ⟨r_2, h_1, h⟩ := bnd1_s h
  refine v_callS1 C (mtX11_isTape (L - 1) (by omega) h_1) wmX11_isTape wd_1526 (by omega) (by decide) rfl rfl (Nat.le_of_ble_eq_true rfl) (dk dcX11_shift_0 1 rfl) ?_
  refine v_if_eq C 14 (dk dcX11_shift_0 2 rfl) (by decide) (fun c_3 => ?_) (fun c_3 => ?_)
  · replace h := if_t c_3 h
    refine v_iconst C (-1) (dk dcX11_shift_0 6 rfl) ki_m1 ?_
    cases h
    exact v_iret C rfl (dk dcX11_shift_0 7 rfl)
  · replace h := if_f c_3 h
    refine v_iload_n C 3 (dk dcX11_shift_0 3 rfl) rfl rfl ?_
    obtain ⟨r_5, h_4, h⟩ := bnd1_s h
    refine v_callS1 C (mtX11_isTape (L - 1) (by omega) h_4) wmX11_isTape wd_1526 (by omega) (by decide) rfl rfl (Nat.le_of_ble_eq_true rfl) (dk dcX11_shift_0 4 rfl) ?_
    refine v_if_ne C 16 (dk dcX11_shift_0 5 rfl) (by decide) (fun c_6 => ?_) (fun c_6 => ?_)
    · replace h := if_f c_6 h
      refine v_aload_n C 0 (dk dcX11_shift_0 8 rfl) rfl rfl ?_
      refine gt_Mo_tapeSort C wd_1142 (dk dcX11_shift_0 9 rfl) ?_
      refine v_iload_n C 1 (dk dcX11_shift_0 10 rfl) rfl rfl ?_
      obtain ⟨b_7, h⟩ := gd_t h
      refine ld_m_tapeSort C b_7 (dk dcX11_shift_0 11 rfl) ?_
      refine v_if_lt C 34 (dk dcX11_shift_0 12 rfl) (by decide) (fun c_8 => ?_) (fun c_8 => ?_)
      · replace h := if_t c_8 h
        refine v_bipush C (-11) (dk dcX11_shift_0 18 rfl) kb_m11 ?_
        cases h
        exact v_iret C rfl (dk dcX11_shift_0 19 rfl)
      · replace h := if_f c_8 h
        refine v_aload_n C 0 (dk dcX11_shift_0 13 rfl) rfl rfl ?_
        refine gt_Mo_tapeSort C wd_1142 (dk dcX11_shift_0 14 rfl) ?_
        refine v_iload_n C 3 (dk dcX11_shift_0 15 rfl) rfl rfl ?_
        obtain ⟨b_9, h⟩ := gd_t h
        refine ld_m_tapeSort C b_9 (dk dcX11_shift_0 16 rfl) ?_
        refine v_if_ge C 37 (dk dcX11_shift_0 17 rfl) (by decide) (fun c_10 => ?_) (fun c_10 => ?_)
        · replace h := if_t c_10 h
          refine v_aload_n C 0 (dk dcX11_shift_0 20 rfl) rfl rfl ?_
          refine gt_Mo_tapeSort C wd_1142 (dk dcX11_shift_0 21 rfl) ?_
          refine v_iload_n C 1 (dk dcX11_shift_0 22 rfl) rfl rfl ?_
          obtain ⟨b_11, h⟩ := gd_t h
          refine ld_m_tapeSort C b_11 (dk dcX11_shift_0 23 rfl) ?_
          refine v_aload_n C 0 (dk dcX11_shift_0 24 rfl) rfl rfl ?_
          refine gt_Mo_tapeSort C wd_1142 (dk dcX11_shift_0 25 rfl) ?_
          refine v_iload_n C 3 (dk dcX11_shift_0 26 rfl) rfl rfl ?_
          obtain ⟨b_12, h⟩ := gd_t h
          refine ld_m_tapeSort C b_12 (dk dcX11_shift_0 27 rfl) ?_
          refine v_icmp_eq C 55 (dk dcX11_shift_0 28 rfl) (by decide) (fun c_13 => ?_) (fun c_13 => ?_)
          · replace h := if_t c_13 h
            refine v_iload C 5 (dk dcX11_shift_0 31 rfl) rfl ?_
            refine v_if_lt C 104 (dk dcX11_shift_0 32 rfl) (by decide) (fun c_14 => ?_) (fun c_14 => ?_)
            · replace h := if_t c_14 h
              refine v_bipush C (-13) (dk dcX11_shift_1 13 rfl) kb_m13 ?_
              cases h
              exact v_iret C rfl (dk dcX11_shift_1 14 rfl)
            · replace h := if_f c_14 h
              refine v_iload_n C 2 (dk dcX11_shift_0 33 rfl) rfl rfl ?_
              refine v_if_lt C 104 (dk dcX11_shift_0 34 rfl) (by decide) (fun c_15 => ?_) (fun c_15 => ?_)
              · replace h := if_t c_15 h
                refine v_bipush C (-13) (dk dcX11_shift_1 13 rfl) kb_m13 ?_
                cases h
                exact v_iret C rfl (dk dcX11_shift_1 14 rfl)
              · replace h := if_f c_15 h
                refine v_iload C 4 (dk dcX11_shift_0 35 rfl) rfl ?_
                refine v_if_lt C 104 (dk dcX11_shift_0 36 rfl) (by decide) (fun c_16 => ?_) (fun c_16 => ?_)
                · replace h := if_t c_16 h
                  refine v_bipush C (-13) (dk dcX11_shift_1 13 rfl) kb_m13 ?_
                  cases h
                  exact v_iret C rfl (dk dcX11_shift_1 14 rfl)
                · replace h := if_f c_16 h
                  refine v_iload_n C 2 (dk dcX11_shift_0 37 rfl) rfl rfl ?_
                  refine v_i2l C (dk dcX11_shift_0 38 rfl) ?_
                  refine v_iload C 5 (dk dcX11_shift_0 39 rfl) rfl ?_
                  refine v_i2l C (dk dcX11_shift_0 40 rfl) ?_
                  refine v_ladd C (dk dcX11_shift_0 41 rfl) ?_
                  refine v_aload_n C 0 (dk dcX11_shift_0 42 rfl) rfl rfl ?_
                  refine gt_Mo_tapeSize C wd_1143 (dk dcX11_shift_0 43 rfl) ?_
                  refine v_iload_n C 1 (dk dcX11_shift_0 44 rfl) rfl rfl ?_
                  obtain ⟨b_17, h⟩ := gd_t h
                  refine ld_m_tapeSize C b_17 (dk dcX11_shift_0 45 rfl) ?_
                  refine v_i2l C (dk dcX11_shift_0 46 rfl) ?_
                  refine v_lcmp C (dk dcX11_shift_0 47 rfl) ?_
                  refine v_if_gt C 104 (dk dcX11_shift_1 0 rfl) (by decide) (fun c_18 => ?_) (fun c_18 => ?_)
                  · replace h := if_t c_18 h
                    refine v_bipush C (-13) (dk dcX11_shift_1 13 rfl) kb_m13 ?_
                    cases h
                    exact v_iret C rfl (dk dcX11_shift_1 14 rfl)
                  · replace h := if_f c_18 h
                    refine v_iload C 4 (dk dcX11_shift_1 1 rfl) rfl ?_
                    refine v_i2l C (dk dcX11_shift_1 2 rfl) ?_
                    refine v_iload C 5 (dk dcX11_shift_1 3 rfl) rfl ?_
                    refine v_i2l C (dk dcX11_shift_1 4 rfl) ?_
                    refine v_ladd C (dk dcX11_shift_1 5 rfl) ?_
                    refine v_aload_n C 0 (dk dcX11_shift_1 6 rfl) rfl rfl ?_
                    refine gt_Mo_tapeSize C wd_1143 (dk dcX11_shift_1 7 rfl) ?_
                    refine v_iload_n C 3 (dk dcX11_shift_1 8 rfl) rfl rfl ?_
                    obtain ⟨b_19, h⟩ := gd_t h
                    refine ld_m_tapeSize C b_19 (dk dcX11_shift_1 9 rfl) ?_
                    refine v_i2l C (dk dcX11_shift_1 10 rfl) ?_
                    refine v_lcmp C (dk dcX11_shift_1 11 rfl) ?_
                    refine v_if_le C 107 (dk dcX11_shift_1 12 rfl) (by decide) (fun c_20 => ?_) (fun c_20 => ?_)
                    · replace h := if_t c_20 h
                      refine v_iconst C 0 (dk dcX11_shift_1 15 rfl) ki_0 ?_
                      refine v_istore C (lv' := [(6, .int 0), (0, .ref (aE E 28 0)), (1, .int x1), (2, .int x2), (3, .int x3), (4, .int x4), (5, .int x5)]) (dk dcX11_shift_1 16 rfl) (by decide) rfl ?_
                      exact vj_sub [1, 2, 3, 4, 5, 6, 0] rfl (vX11_shift_l110 hL C _ h)
                    · replace h := if_f c_20 h
                      refine v_bipush C (-13) (dk dcX11_shift_1 13 rfl) kb_m13 ?_
                      cases h
                      exact v_iret C rfl (dk dcX11_shift_1 14 rfl)
          · replace h := if_f c_13 h
            refine v_bipush C (-12) (dk dcX11_shift_0 29 rfl) kb_m12 ?_
            cases h
            exact v_iret C rfl (dk dcX11_shift_0 30 rfl)
        · replace h := if_f c_10 h
          refine v_bipush C (-11) (dk dcX11_shift_0 18 rfl) kb_m11 ?_
          cases h
          exact v_iret C rfl (dk dcX11_shift_0 19 rfl)
    · replace h := if_t c_6 h
      refine v_iconst C (-1) (dk dcX11_shift_0 6 rfl) ki_m1 ?_
      cases h
      exact v_iret C rfl (dk dcX11_shift_0 7 rfl)
set_option maxRecDepth 20000 in
set_option maxHeartbeats 4000000 in
theorem mtX11_set {l : Launch} {E : WEt} {wx : va_W} (L : Nat) (hL : 3 ≤ L)  {g : STt} {x1 : Int32} {x2 : Int32} {g' : STt} {rr : Int32} (h : fX11_set g x1 x2 = some (g', rr)) : MT l E yX11_set cX11_set 4 (some .int) (L + 1) [.ref (aE E 28 0), .int x1, .int x2] (cellsM E g ++ wx) (cellsM E g' ++ wx) (some (.int rr)) := by
  refine mt_of (by decide +kernel) (Nat.le_of_ble_eq_true rfl) ?_
  intro p e s m args below meth c C
  replace C : CX p s m args meth c cX11_set 4 RX11 (some .int) E := C
  unfold fX11_set at h
  refine vj_sub (lv' := [(0, .ref (aE E 28 0)), (1, .int x1), (2, .int x2)]) [0, 1, 2] rfl ?_
  refine v_iload_n C 1 (dk dcX11_set_0 0 rfl) rfl rfl ?_
  refine v_iconst C 0 (dk dcX11_set_0 1 rfl) ki_0 ?_
  refine v_bipush C 13 (dk dcX11_set_0 2 rfl) kb_13 ?_
  obtain ⟨r_2, h_1, h⟩ := bnd1_s h
  refine v_callS1 C (mtX11_in (L - 1) (by omega) h_1) wmX11_in wd_1266 (by omega) (by decide) rfl rfl (Nat.le_of_ble_eq_true rfl) (dk dcX11_set_0 3 rfl) ?_
  refine v_if_ne C 12 (dk dcX11_set_0 4 rfl) (by decide) (fun c_3 => ?_) (fun c_3 => ?_)
  · replace h := if_f c_3 h
    refine v_iload_n C 2 (dk dcX11_set_0 7 rfl) rfl rfl ?_
    refine v_iconst C 0 (dk dcX11_set_0 8 rfl) ki_0 ?_
    refine v_aload_n C 0 (dk dcX11_set_0 9 rfl) rfl rfl ?_
    refine v_iload_n C 1 (dk dcX11_set_0 10 rfl) rfl rfl ?_
    obtain ⟨r_5, h_4, h⟩ := bnd1_s h
    refine v_callV1 C (mtX11_mostOf (L - 1) (by omega) h_4) wmX11_mostOf wd_1281 (by omega) (by decide) rfl _ (ce_Mo) rfl rfl (Nat.le_of_ble_eq_true rfl) (dk dcX11_set_0 11 rfl) ?_
    obtain ⟨r_7, h_6, h⟩ := bnd1_s h
    refine v_callS1 C (mtX11_in (L - 1) (by omega) h_6) wmX11_in wd_1266 (by omega) (by decide) rfl rfl (Nat.le_of_ble_eq_true rfl) (dk dcX11_set_0 12 rfl) ?_
    refine v_if_ne C 28 (dk dcX11_set_0 13 rfl) (by decide) (fun c_8 => ?_) (fun c_8 => ?_)
    · replace h := if_f c_8 h
      refine v_aload_n C 0 (dk dcX11_set_0 16 rfl) rfl rfl ?_
      refine gt_Mo_is C wd_1112 (dk dcX11_set_0 17 rfl) ?_
      refine v_iload_n C 1 (dk dcX11_set_0 18 rfl) rfl rfl ?_
      obtain ⟨b_9, h⟩ := gd_t h
      refine ld_m_is C b_9 (dk dcX11_set_0 19 rfl) ?_
      refine v_istore_n C (lv' := [(3, .int (g.2.1 57 0 x1.toNatClampNeg)), (0, .ref (aE E 28 0)), (1, .int x1), (2, .int x2)]) (dk dcX11_set_0 20 rfl) rfl (by decide) rfl ?_
      refine v_aload_n C 1 (dk dcX11_set_0 21 rfl) rfl rfl ?_
      refine gt_Mo_is C wd_1112 (dk dcX11_set_0 22 rfl) ?_
      refine v_iload_n C 2 (dk dcX11_set_0 23 rfl) rfl rfl ?_
      refine v_iload_n C 3 (dk dcX11_set_0 24 rfl) rfl rfl ?_
      obtain ⟨b_10, h⟩ := gd_t h
      refine st_m_is C b_10 (dk dcX11_set_0 25 rfl) ?_
      refine v_iload_n C 0 (dk dcX11_set_0 26 rfl) rfl rfl ?_
      cases h
      exact v_iret C rfl (dk dcX11_set_0 27 rfl)
    · replace h := if_t c_8 h
      refine v_bipush C (-2) (dk dcX11_set_0 14 rfl) kb_m2 ?_
      cases h
      exact v_iret C rfl (dk dcX11_set_0 15 rfl)
  · replace h := if_t c_3 h
    refine v_iconst C (-1) (dk dcX11_set_0 5 rfl) ki_m1 ?_
    cases h
    exact v_iret C rfl (dk dcX11_set_0 6 rfl)
set_option maxRecDepth 20000 in
set_option maxHeartbeats 4000000 in
theorem mtX11_row {l : Launch} {E : WEt} {wx : va_W} (L : Nat) (hL : 4 ≤ L)  {g : STt} {x1 : Int32} {g' : STt} {rr : Int32} (h : fX11_row g x1 = some (g', rr)) : MT l E yX11_row cX11_row 2 (some .int) (L + 1) [.ref (aE E 28 0), .int x1] (cellsM E g ++ wx) (cellsM E g' ++ wx) (some (.int rr)) := by
  refine mt_of (by decide +kernel) (Nat.le_of_ble_eq_true rfl) ?_
  intro p e s m args below meth c C
  replace C : CX p s m args meth c cX11_row 2 RX11 (some .int) E := C
  unfold fX11_row at h
  refine vj_sub (lv' := [(0, .ref (aE E 28 0)), (1, .int x1)]) [0, 1] rfl ?_
  refine v_iload_n C 1 (dk dcX11_row_0 0 rfl) rfl rfl ?_
  refine v_iconst C (-1) (dk dcX11_row_0 1 rfl) ki_m1 ?_
  refine v_icmp_ne C 12 (dk dcX11_row_0 2 rfl) (by decide) (fun c_1 => ?_) (fun c_1 => ?_)
  · replace h := if_f c_1 h
    refine v_iload_n C 1 (dk dcX11_row_0 8 rfl) rfl rfl ?_
    obtain ⟨r_3, h_2, h⟩ := bnd1_s h
    refine v_callS1 C (mtX11_isAct (L - 1) (by omega) h_2) wmX11_isAct wd_1390 (by omega) (by decide) rfl rfl (Nat.le_of_ble_eq_true rfl) (dk dcX11_row_0 9 rfl) ?_
    refine v_if_ne C 21 (dk dcX11_row_0 10 rfl) (by decide) (fun c_4 => ?_) (fun c_4 => ?_)
    · replace h := if_f c_4 h
      refine v_aload_n C 0 (dk dcX11_row_0 13 rfl) rfl rfl ?_
      refine gt_Mo_rowMany C wd_1133 (dk dcX11_row_0 14 rfl) ?_
      refine v_bipush C 12 (dk dcX11_row_0 15 rfl) kb_12 ?_
      refine v_icmp_ne C 33 (dk dcX11_row_0 16 rfl) (by decide) (fun c_5 => ?_) (fun c_5 => ?_)
      · replace h := if_f c_5 h
        refine v_aload_n C 0 (dk dcX11_row_0 19 rfl) rfl rfl ?_
        refine gt_Mo_row C wd_1134 (dk dcX11_row_0 20 rfl) ?_
        refine v_aload_n C 0 (dk dcX11_row_0 21 rfl) rfl rfl ?_
        refine gt_Mo_rowMany C wd_1133 (dk dcX11_row_0 22 rfl) ?_
        refine v_iload_n C 1 (dk dcX11_row_0 23 rfl) rfl rfl ?_
        obtain ⟨b_6, h⟩ := gd_t h
        refine st_m_row C b_6 (dk dcX11_row_0 24 rfl) ?_
        refine v_aload_n C 0 (dk dcX11_row_0 25 rfl) rfl rfl ?_
        refine v_dup C rfl (dk dcX11_row_0 26 rfl) ?_
        refine gt_Mo_rowMany C wd_1133 (dk dcX11_row_0 27 rfl) ?_
        refine v_iconst C 1 (dk dcX11_row_0 28 rfl) ki_1 ?_
        refine v_iadd C (dk dcX11_row_0 29 rfl) ?_
        refine pt_Mo_rowMany C wd_1133 (dk dcX11_row_0 30 rfl) ?_
        refine v_aload_n C 0 (dk dcX11_row_0 31 rfl) rfl rfl ?_
        refine gt_Mo_rowMany C wd_1133 (dk dcX11_row_0 32 rfl) ?_
        cases h
        exact v_iret C rfl (dk dcX11_row_0 33 rfl)
      · replace h := if_t c_5 h
        refine v_bipush C (-4) (dk dcX11_row_0 17 rfl) kb_m4 ?_
        cases h
        exact v_iret C rfl (dk dcX11_row_0 18 rfl)
    · replace h := if_t c_4 h
      refine v_iconst C (-1) (dk dcX11_row_0 11 rfl) ki_m1 ?_
      cases h
      exact v_iret C rfl (dk dcX11_row_0 12 rfl)
  · replace h := if_t c_1 h
    refine v_aload_n C 0 (dk dcX11_row_0 3 rfl) rfl rfl ?_
    refine v_iconst C 0 (dk dcX11_row_0 4 rfl) ki_0 ?_
    refine pt_Mo_rowMany C wd_1133 (dk dcX11_row_0 5 rfl) ?_
    refine v_iconst C 0 (dk dcX11_row_0 6 rfl) ki_0 ?_
    cases h
    exact v_iret C rfl (dk dcX11_row_0 7 rfl)
set_option maxRecDepth 20000 in
set_option maxHeartbeats 4000000 in
theorem vX11_round_j27 {L : Nat} (hL : 11 ≤ L) (C : CX p s m args meth c cX11_round 2 RX11 (some .int) E) {g : STt} (r : STt × Int32) (h : fX11_round_j27 g = some r) : VJ p l e (rmL (L + 1)) s m args below meth c (QE below E (cellsM E r.1 ++ wx) (some (.int r.2)) args s) E 2 (cellsM E g ++ wx) [] [] 27 := by
  unfold fX11_round_j27 at h
  refine v_iconst C 1 (dk dcX11_round_0 14 rfl) ki_1 ?_
  refine v_goto C 32 (dk dcX11_round_0 15 rfl) (by decide) ?_
  cases h
  exact v_iret C rfl (dk dcX11_round_0 17 rfl)
set_option maxRecDepth 20000 in
set_option maxHeartbeats 4000000 in
theorem mtX11_round {l : Launch} {E : WEt} {wx : va_W} (L : Nat) (hL : 11 ≤ L)  {g : STt} {g' : STt} {rr : Int32} (h : fX11_round g = some (g', rr)) : MT l E yX11_round cX11_round 2 (some .int) (L + 1) [.ref (aE E 28 0)] (cellsM E g ++ wx) (cellsM E g' ++ wx) (some (.int rr)) := by
  refine mt_of (by decide +kernel) (Nat.le_of_ble_eq_true rfl) ?_
  intro p e s m args below meth c C
  replace C : CX p s m args meth c cX11_round 2 RX11 (some .int) E := C
  unfold fX11_round at h
  refine vj_sub (lv' := [(0, .ref (aE E 28 0))]) [0] rfl ?_
  refine v_aload_n C 0 (dk dcX11_round_0 0 rfl) rfl rfl ?_
  obtain ⟨r_2, h_1, h⟩ := bnd1_s h
  refine v_callV1 C (mtX11_isOver (L - 1) (by omega) h_1) wmX11_isOver wd_1361 (by omega) (by decide) rfl _ (ce_Mo) rfl rfl (Nat.le_of_ble_eq_true rfl) (dk dcX11_round_0 1 rfl) ?_
  refine v_if_eq C 10 (dk dcX11_round_0 2 rfl) (by decide) (fun c_3 => ?_) (fun c_3 => ?_)
  · replace h := if_t c_3 h
    refine v_aload_n C 0 (dk dcX11_round_0 5 rfl) rfl rfl ?_
    obtain ⟨g_5, r_6, h_4, h⟩ := bnd_s h
    refine v_callV1 C (mtX11_waitsFor (L - 1) (by omega) h_4) wmX11_waitsFor wd_1477 (by omega) (by decide) rfl _ (ce_Mo) rfl rfl (Nat.le_of_ble_eq_true rfl) (dk dcX11_round_0 6 rfl) ?_
    refine v_istore_n C (lv' := [(1, .int r_6), (0, .ref (aE E 28 0))]) (dk dcX11_round_0 7 rfl) rfl (by decide) rfl ?_
    refine v_iload_n C 0 (dk dcX11_round_0 8 rfl) rfl rfl ?_
    refine v_if_lt C 27 (dk dcX11_round_0 9 rfl) (by decide) (fun c_7 => ?_) (fun c_7 => ?_)
    · replace h := if_t c_7 h
      exact vj_sub [] rfl (vX11_round_j27 hL C _ h)
    · replace h := if_f c_7 h
      refine v_aload_n C 1 (dk dcX11_round_0 10 rfl) rfl rfl ?_
      obtain ⟨r_9, h_8, h⟩ := bnd1_s h
      refine v_callV1 C (mtX11_fordHalves (L - 1) (by omega) h_8) wmX11_fordHalves wd_1419 (by omega) (by decide) rfl _ (ce_Mo) rfl rfl (Nat.le_of_ble_eq_true rfl) (dk dcX11_round_0 11 rfl) ?_
      refine v_iload_n C 0 (dk dcX11_round_0 12 rfl) rfl rfl ?_
      refine v_icmp_ge C 31 (dk dcX11_round_0 13 rfl) (by decide) (fun c_10 => ?_) (fun c_10 => ?_)
      · replace h := if_t c_10 h
        refine v_iconst C 0 (dk dcX11_round_0 16 rfl) ki_0 ?_
        cases h
        exact v_iret C rfl (dk dcX11_round_0 17 rfl)
      · replace h := if_f c_10 h
        exact vj_sub [] rfl (vX11_round_j27 hL C _ h)
  · replace h := if_f c_3 h
    refine v_bipush C (-3) (dk dcX11_round_0 3 rfl) kb_m3 ?_
    cases h
    exact v_iret C rfl (dk dcX11_round_0 4 rfl)
set_option maxRecDepth 20000 in
set_option maxHeartbeats 4000000 in
theorem mtX11_read {l : Launch} {E : WEt} {wx : va_W} (L : Nat) (hL : 4 ≤ L)  {g : STt} {x1 : Int32} {x2 : Int32} {rr : Int64} (h : fX11_read g x1 x2 = some rr) : MT l E yX11_read cX11_read 3 (some .long) (L + 1) [.ref (aE E 28 0), .int x1, .int x2] (cellsM E g ++ wx) (cellsM E g ++ wx) (some (.long rr)) := by
  refine mt_of (by decide +kernel) (Nat.le_of_ble_eq_true rfl) ?_
  intro p e s m args below meth c C
  replace C : CX p s m args meth c cX11_read 3 RX11 (some .long) E := C
  unfold fX11_read at h
  refine vj_sub (lv' := [(0, .ref (aE E 28 0)), (1, .int x1), (2, .int x2)]) [0, 1, 2] rfl ?_
  refine v_iload_n C 1 (dk dcX11_read_0 0 rfl) rfl rfl ?_
  obtain ⟨r_2, h_1, h⟩ := bnd1_s h
  refine v_callS1 C (mtX11_isTape (L - 1) (by omega) h_1) wmX11_isTape wd_1526 (by omega) (by decide) rfl rfl (Nat.le_of_ble_eq_true rfl) (dk dcX11_read_0 1 rfl) ?_
  refine v_if_eq C 46 (dk dcX11_read_0 2 rfl) (by decide) (fun c_3 => ?_) (fun c_3 => ?_)
  · replace h := if_t c_3 h
    refine v_ldc2 C wd_1497 (dk dcX11_read_0 27 rfl) ?_
    cases h
    exact v_lret C rfl (dk dcX11_read_0 28 rfl)
  · replace h := if_f c_3 h
    refine v_aload_n C 0 (dk dcX11_read_0 3 rfl) rfl rfl ?_
    refine gt_Mo_tapeSort C wd_1142 (dk dcX11_read_0 4 rfl) ?_
    refine v_iload_n C 1 (dk dcX11_read_0 5 rfl) rfl rfl ?_
    obtain ⟨b_4, h⟩ := gd_t h
    refine ld_m_tapeSort C b_4 (dk dcX11_read_0 6 rfl) ?_
    refine v_if_lt C 46 (dk dcX11_read_0 7 rfl) (by decide) (fun c_5 => ?_) (fun c_5 => ?_)
    · replace h := if_t c_5 h
      refine v_ldc2 C wd_1497 (dk dcX11_read_0 27 rfl) ?_
      cases h
      exact v_lret C rfl (dk dcX11_read_0 28 rfl)
    · replace h := if_f c_5 h
      refine v_iload_n C 2 (dk dcX11_read_0 8 rfl) rfl rfl ?_
      refine v_iconst C 0 (dk dcX11_read_0 9 rfl) ki_0 ?_
      refine v_aload_n C 0 (dk dcX11_read_0 10 rfl) rfl rfl ?_
      refine gt_Mo_tapeSize C wd_1143 (dk dcX11_read_0 11 rfl) ?_
      refine v_iload_n C 1 (dk dcX11_read_0 12 rfl) rfl rfl ?_
      obtain ⟨b_6, h⟩ := gd_t h
      refine ld_m_tapeSize C b_6 (dk dcX11_read_0 13 rfl) ?_
      refine v_iconst C 1 (dk dcX11_read_0 14 rfl) ki_1 ?_
      refine v_isub C (dk dcX11_read_0 15 rfl) ?_
      obtain ⟨r_8, h_7, h⟩ := bnd1_s h
      refine v_callS1 C (mtX11_in (L - 1) (by omega) h_7) wmX11_in wd_1266 (by omega) (by decide) rfl rfl (Nat.le_of_ble_eq_true rfl) (dk dcX11_read_0 16 rfl) ?_
      refine v_if_eq C 46 (dk dcX11_read_0 17 rfl) (by decide) (fun c_9 => ?_) (fun c_9 => ?_)
      · replace h := if_t c_9 h
        refine v_ldc2 C wd_1497 (dk dcX11_read_0 27 rfl) ?_
        cases h
        exact v_lret C rfl (dk dcX11_read_0 28 rfl)
      · replace h := if_f c_9 h
        refine v_aload_n C 0 (dk dcX11_read_0 18 rfl) rfl rfl ?_
        refine gt_Mo_items C wd_1144 (dk dcX11_read_0 19 rfl) ?_
        refine v_bipush C 60 (dk dcX11_read_0 20 rfl) kb_60 ?_
        refine v_iload_n C 1 (dk dcX11_read_0 21 rfl) rfl rfl ?_
        refine v_imul C (dk dcX11_read_0 22 rfl) ?_
        refine v_iload_n C 2 (dk dcX11_read_0 23 rfl) rfl rfl ?_
        refine v_iadd C (dk dcX11_read_0 24 rfl) ?_
        obtain ⟨b_10, h⟩ := gd_t h
        refine ld_m_items C b_10 (dk dcX11_read_0 25 rfl) ?_
        refine v_goto C 49 (dk dcX11_read_0 26 rfl) (by decide) ?_
        cases h
        exact v_lret C rfl (dk dcX11_read_0 28 rfl)
set_option maxRecDepth 20000 in
set_option maxHeartbeats 4000000 in
theorem mtX11_place {l : Launch} {E : WEt} {wx : va_W} (L : Nat) (hL : 3 ≤ L)  {g : STt} {x1 : Int32} {x2 : Int32} {x3 : Int32} {g' : STt} {rr : Int32} (h : fX11_place g x1 x2 x3 = some (g', rr)) : MT l E yX11_place cX11_place 4 (some .int) (L + 1) [.ref (aE E 28 0), .int x1, .int x2, .int x3] (cellsM E g ++ wx) (cellsM E g' ++ wx) (some (.int rr)) := by
  refine mt_of (by decide +kernel) (Nat.le_of_ble_eq_true rfl) ?_
  intro p e s m args below meth c C
  replace C : CX p s m args meth c cX11_place 4 RX11 (some .int) E := C
  unfold fX11_place at h
  refine vj_sub (lv' := [(0, .ref (aE E 28 0)), (1, .int x1), (2, .int x2), (3, .int x3)]) [0, 1, 2, 3] rfl ?_
  refine v_iload_n C 1 (dk dcX11_place_0 0 rfl) rfl rfl ?_
  refine v_iconst C 0 (dk dcX11_place_0 1 rfl) ki_0 ?_
  refine v_bipush C 6 (dk dcX11_place_0 2 rfl) kb_6 ?_
  obtain ⟨r_2, h_1, h⟩ := bnd1_s h
  refine v_callS1 C (mtX11_in (L - 1) (by omega) h_1) wmX11_in wd_1266 (by omega) (by decide) rfl rfl (Nat.le_of_ble_eq_true rfl) (dk dcX11_place_0 3 rfl) ?_
  refine v_if_eq C 19 (dk dcX11_place_0 4 rfl) (by decide) (fun c_3 => ?_) (fun c_3 => ?_)
  · replace h := if_t c_3 h
    refine v_iconst C (-1) (dk dcX11_place_0 10 rfl) ki_m1 ?_
    cases h
    exact v_iret C rfl (dk dcX11_place_0 11 rfl)
  · replace h := if_f c_3 h
    refine v_iload_n C 3 (dk dcX11_place_0 5 rfl) rfl rfl ?_
    refine v_iconst C 0 (dk dcX11_place_0 6 rfl) ki_0 ?_
    refine v_iconst C 5 (dk dcX11_place_0 7 rfl) ki_5 ?_
    obtain ⟨r_5, h_4, h⟩ := bnd1_s h
    refine v_callS1 C (mtX11_in (L - 1) (by omega) h_4) wmX11_in wd_1266 (by omega) (by decide) rfl rfl (Nat.le_of_ble_eq_true rfl) (dk dcX11_place_0 8 rfl) ?_
    refine v_if_ne C 21 (dk dcX11_place_0 9 rfl) (by decide) (fun c_6 => ?_) (fun c_6 => ?_)
    · replace h := if_f c_6 h
      refine v_iload_n C 2 (dk dcX11_place_0 12 rfl) rfl rfl ?_
      refine v_iconst C 0 (dk dcX11_place_0 13 rfl) ki_0 ?_
      refine v_bipush C 9 (dk dcX11_place_0 14 rfl) kb_9 ?_
      obtain ⟨r_8, h_7, h⟩ := bnd1_s h
      refine v_callS1 C (mtX11_in (L - 1) (by omega) h_7) wmX11_in wd_1266 (by omega) (by decide) rfl rfl (Nat.le_of_ble_eq_true rfl) (dk dcX11_place_0 15 rfl) ?_
      refine v_if_ne C 34 (dk dcX11_place_0 16 rfl) (by decide) (fun c_9 => ?_) (fun c_9 => ?_)
      · replace h := if_f c_9 h
        refine v_aload_n C 0 (dk dcX11_place_0 19 rfl) rfl rfl ?_
        refine gt_Mo_places C wd_1108 (dk dcX11_place_0 20 rfl) ?_
        refine v_bipush C 10 (dk dcX11_place_0 21 rfl) kb_10 ?_
        refine v_icmp_ne C 46 (dk dcX11_place_0 22 rfl) (by decide) (fun c_10 => ?_) (fun c_10 => ?_)
        · replace h := if_f c_10 h
          refine v_aload_n C 0 (dk dcX11_place_0 25 rfl) rfl rfl ?_
          refine gt_Mo_kind C wd_1109 (dk dcX11_place_0 26 rfl) ?_
          refine v_aload_n C 0 (dk dcX11_place_0 27 rfl) rfl rfl ?_
          refine gt_Mo_places C wd_1108 (dk dcX11_place_0 28 rfl) ?_
          refine v_iload_n C 1 (dk dcX11_place_0 29 rfl) rfl rfl ?_
          obtain ⟨b_11, h⟩ := gd_t h
          refine st_m_kind C b_11 (dk dcX11_place_0 30 rfl) ?_
          refine v_aload_n C 0 (dk dcX11_place_0 31 rfl) rfl rfl ?_
          refine gt_Mo_number C wd_1110 (dk dcX11_place_0 32 rfl) ?_
          refine v_aload_n C 0 (dk dcX11_place_0 33 rfl) rfl rfl ?_
          refine gt_Mo_places C wd_1108 (dk dcX11_place_0 34 rfl) ?_
          refine v_iload_n C 2 (dk dcX11_place_0 35 rfl) rfl rfl ?_
          obtain ⟨b_12, h⟩ := gd_t h
          refine st_m_number C b_12 (dk dcX11_place_0 36 rfl) ?_
          refine v_aload_n C 0 (dk dcX11_place_0 37 rfl) rfl rfl ?_
          refine gt_Mo_thing C wd_1111 (dk dcX11_place_0 38 rfl) ?_
          refine v_aload_n C 0 (dk dcX11_place_0 39 rfl) rfl rfl ?_
          refine gt_Mo_places C wd_1108 (dk dcX11_place_0 40 rfl) ?_
          refine v_iload_n C 3 (dk dcX11_place_0 41 rfl) rfl rfl ?_
          obtain ⟨b_13, h⟩ := gd_t h
          refine st_m_thing C b_13 (dk dcX11_place_0 42 rfl) ?_
          refine v_aload_n C 0 (dk dcX11_place_0 43 rfl) rfl rfl ?_
          refine v_dup C rfl (dk dcX11_place_0 44 rfl) ?_
          refine gt_Mo_places C wd_1108 (dk dcX11_place_0 45 rfl) ?_
          refine v_iconst C 1 (dk dcX11_place_0 46 rfl) ki_1 ?_
          refine v_iadd C (dk dcX11_place_0 47 rfl) ?_
          refine pt_Mo_places C wd_1108 (dk dcX11_place_1 0 rfl) ?_
          refine v_aload_n C 0 (dk dcX11_place_1 1 rfl) rfl rfl ?_
          refine gt_Mo_places C wd_1108 (dk dcX11_place_1 2 rfl) ?_
          refine v_iconst C 1 (dk dcX11_place_1 3 rfl) ki_1 ?_
          refine v_isub C (dk dcX11_place_1 4 rfl) ?_
          cases h
          exact v_iret C rfl (dk dcX11_place_1 5 rfl)
        · replace h := if_t c_10 h
          refine v_bipush C (-4) (dk dcX11_place_0 23 rfl) kb_m4 ?_
          cases h
          exact v_iret C rfl (dk dcX11_place_0 24 rfl)
      · replace h := if_t c_9 h
        refine v_bipush C (-2) (dk dcX11_place_0 17 rfl) kb_m2 ?_
        cases h
        exact v_iret C rfl (dk dcX11_place_0 18 rfl)
    · replace h := if_t c_6 h
      refine v_iconst C (-1) (dk dcX11_place_0 10 rfl) ki_m1 ?_
      cases h
      exact v_iret C rfl (dk dcX11_place_0 11 rfl)
set_option maxRecDepth 20000 in
set_option maxHeartbeats 4000000 in
theorem vX11_ran_j19 {L : Nat} (hL : 2 ≤ L) (C : CX p s m args meth c cX11_ran 2 RX11 none E) {g : STt} (r : STt) (h : fX11_ran_j19 g = some r) : VJ p l e (rmL (L + 1)) s m args below meth c (QE below E (cellsM E r ++ wx) (none) args s) E 2 (cellsM E g ++ wx) [(0, .ref (aE E 28 0))] [] 19 := by
  unfold fX11_ran_j19 at h
  refine v_aload_n C 0 (dk dcX11_ran_0 10 rfl) rfl rfl ?_
  refine v_dup C rfl (dk dcX11_ran_0 11 rfl) ?_
  refine gt_Mo_traces C wd_1156 (dk dcX11_ran_0 12 rfl) ?_
  refine v_iconst C 1 (dk dcX11_ran_0 13 rfl) ki_1 ?_
  refine v_iadd C (dk dcX11_ran_0 14 rfl) ?_
  refine pt_Mo_traces C wd_1156 (dk dcX11_ran_0 15 rfl) ?_
  cases h
  exact v_vret C rfl (dk dcX11_ran_0 16 rfl)
set_option maxRecDepth 20000 in
set_option maxHeartbeats 4000000 in
theorem mtX11_ran {l : Launch} {E : WEt} {wx : va_W} (L : Nat) (hL : 2 ≤ L)  {g : STt} {x1 : Int32} {g' : STt} (h : fX11_ran g x1 = some g') : MT l E yX11_ran cX11_ran 2 none (L + 1) [.ref (aE E 28 0), .int x1] (cellsM E g ++ wx) (cellsM E g' ++ wx) none := by
  refine mt_of (by decide +kernel) (Nat.le_of_ble_eq_true rfl) ?_
  intro p e s m args below meth c C
  replace C : CX p s m args meth c cX11_ran 2 RX11 none E := C
  unfold fX11_ran at h
  refine vj_sub (lv' := [(0, .ref (aE E 28 0)), (1, .int x1)]) [0, 1] rfl ?_
  refine v_aload_n C 0 (dk dcX11_ran_0 0 rfl) rfl rfl ?_
  refine gt_Mo_traces C wd_1156 (dk dcX11_ran_0 1 rfl) ?_
  refine v_bipush C 20 (dk dcX11_ran_0 2 rfl) kb_20 ?_
  refine v_icmp_ge C 19 (dk dcX11_ran_0 3 rfl) (by decide) (fun c_1 => ?_) (fun c_1 => ?_)
  · replace h := if_t c_1 h
    exact vj_sub [0] rfl (vX11_ran_j19 hL C _ h)
  · replace h := if_f c_1 h
    refine v_aload_n C 0 (dk dcX11_ran_0 4 rfl) rfl rfl ?_
    refine gt_Mo_traced C wd_1157 (dk dcX11_ran_0 5 rfl) ?_
    refine v_aload_n C 0 (dk dcX11_ran_0 6 rfl) rfl rfl ?_
    refine gt_Mo_traces C wd_1156 (dk dcX11_ran_0 7 rfl) ?_
    refine v_iload_n C 1 (dk dcX11_ran_0 8 rfl) rfl rfl ?_
    obtain ⟨b_2, h⟩ := gd_t h
    refine st_m_traced C b_2 (dk dcX11_ran_0 9 rfl) ?_
    exact vj_sub [0] rfl (vX11_ran_j19 hL C _ h)
set_option maxRecDepth 20000 in
set_option maxHeartbeats 4000000 in
theorem mtX11_plainHolds {l : Launch} {E : WEt} {wx : va_W} (L : Nat) (hL : 3 ≤ L)  {g : STt} {x1 : Int32} {x2 : Int32} {g' : STt} {rr : Int32} (h : fX11_plainHolds g x1 x2 = some (g', rr)) : MT l E yX11_plainHolds cX11_plainHolds 3 (some .int) (L + 1) [.ref (aE E 28 0), .int x1, .int x2] (cellsM E g ++ wx) (cellsM E g' ++ wx) (some (.int rr)) := by
  refine mt_of (by decide +kernel) (Nat.le_of_ble_eq_true rfl) ?_
  intro p e s m args below meth c C
  replace C : CX p s m args meth c cX11_plainHolds 3 RX11 (some .int) E := C
  unfold fX11_plainHolds at h
  refine vj_sub (lv' := [(0, .ref (aE E 28 0)), (1, .int x1), (2, .int x2)]) [0, 1, 2] rfl ?_
  refine v_aload_n C 0 (dk dcX11_plainHolds_0 0 rfl) rfl rfl ?_
  refine v_bipush C 10 (dk dcX11_plainHolds_0 1 rfl) kb_10 ?_
  obtain ⟨g_2, h_1, h⟩ := bnd1_s h
  refine v_callV0 C (mtX11_ran (L - 1) (by omega) h_1) wmX11_ran wd_1545 (by omega) (by decide) rfl _ (ce_Mo) rfl rfl (Nat.le_of_ble_eq_true rfl) (dk dcX11_plainHolds_0 2 rfl) ?_
  refine v_iload_n C 2 (dk dcX11_plainHolds_0 3 rfl) rfl rfl ?_
  refine v_iload_n C 1 (dk dcX11_plainHolds_0 4 rfl) rfl rfl ?_
  refine v_iadd C (dk dcX11_plainHolds_0 5 rfl) ?_
  cases h
  exact v_iret C rfl (dk dcX11_plainHolds_0 6 rfl)
set_option maxRecDepth 20000 in
set_option maxHeartbeats 4000000 in
theorem vX11_holding_j104 {L : Nat} (hL : 4 ≤ L) (C : CX p s m args meth c cX11_holding 3 RX11 (some .int) E) {g : STt} {l1 : Int32} {l2 : Int32} (r : STt × Int32) (h : fX11_holding_j104 g l1 l2 = some r) : VJ p l e (rmL (L + 1)) s m args below meth c (QE below E (cellsM E r.1 ++ wx) (some (.int r.2)) args s) E 3 (cellsM E g ++ wx) [(0, .ref (aE E 28 0)), (1, .int l1), (2, .int l2)] [] 104 := by
  unfold fX11_holding_j104 at h
  refine v_aload_n C 0 (dk dcX11_holding_0 47 rfl) rfl rfl ?_
  refine v_iload_n C 1 (dk dcX11_holding_1 0 rfl) rfl rfl ?_
  refine v_iload_n C 2 (dk dcX11_holding_1 1 rfl) rfl rfl ?_
  obtain ⟨g_2, r_3, h_1, h⟩ := bnd_s h
  refine v_callV1 C (mtX11_plainHolds (L - 1) (by omega) h_1) wmX11_plainHolds wd_1549 (by omega) (by decide) rfl _ (ce_Mo) rfl rfl (Nat.le_of_ble_eq_true rfl) (dk dcX11_holding_1 2 rfl) ?_
  cases h
  exact v_iret C rfl (dk dcX11_holding_1 3 rfl)
set_option maxRecDepth 20000 in
set_option maxHeartbeats 4000000 in
theorem mtX11_holding {l : Launch} {E : WEt} {wx : va_W} (L : Nat) (hL : 4 ≤ L)  {g : STt} {x1 : Int32} {x2 : Int32} {g' : STt} {rr : Int32} (h : fX11_holding g x1 x2 = some (g', rr)) : MT l E yX11_holding cX11_holding 3 (some .int) (L + 1) [.ref (aE E 28 0), .int x1, .int x2] (cellsM E g ++ wx) (cellsM E g' ++ wx) (some (.int rr)) := by
  refine mt_of (by decide +kernel) (Nat.le_of_ble_eq_true rfl) ?_
  intro p e s m args below meth c C
  replace C : CX p s m args meth c cX11_holding 3 RX11 (some .int) E := C
  unfold fX11_holding at h
  refine vj_sub (lv' := [(0, .ref (aE E 28 0)), (1, .int x1), (2, .int x2)]) [0, 1, 2] rfl ?_
  refine v_aload_n C 0 (dk dcX11_holding_0 0 rfl) rfl rfl ?_
  refine gt_Mo_kind C wd_1109 (dk dcX11_holding_0 1 rfl) ?_
  refine v_iload_n C 1 (dk dcX11_holding_0 2 rfl) rfl rfl ?_
  obtain ⟨b_1, h⟩ := gd_t h
  refine ld_m_kind C b_1 (dk dcX11_holding_0 3 rfl) ?_
  by_cases c_2 : (g.2.1 54 0 x1.toNatClampNeg) = 2
  · replace h := if_t c_2 h
    refine v_tableIn C 40 (dk dcX11_holding_0 4 rfl) (by rw [c_2]; decide) (by rw [c_2]; decide) (by rw [c_2]; rfl) (by decide) ?_
    refine v_aload_n C 0 (dk dcX11_holding_0 5 rfl) rfl rfl ?_
    refine v_bipush C 30 (dk dcX11_holding_0 6 rfl) kb_30 ?_
    obtain ⟨g_4, h_3, h⟩ := bnd1_s h
    refine v_callV0 C (mtX11_ran (L - 1) (by omega) h_3) wmX11_ran wd_1545 (by omega) (by decide) rfl _ (ce_Mo) rfl rfl (Nat.le_of_ble_eq_true rfl) (dk dcX11_holding_0 7 rfl) ?_
    refine v_aload_n C 0 (dk dcX11_holding_0 8 rfl) rfl rfl ?_
    refine v_iload_n C 1 (dk dcX11_holding_0 9 rfl) rfl rfl ?_
    refine v_iload_n C 2 (dk dcX11_holding_0 10 rfl) rfl rfl ?_
    refine v_iconst C 3 (dk dcX11_holding_0 11 rfl) ki_3 ?_
    refine v_imul C (dk dcX11_holding_0 12 rfl) ?_
    obtain ⟨g_6, r_7, h_5, h⟩ := bnd_s h
    refine v_callV1 C (mtX11_plainHolds (L - 1) (by omega) h_5) wmX11_plainHolds wd_1549 (by omega) (by decide) rfl _ (ce_Mo) rfl rfl (Nat.le_of_ble_eq_true rfl) (dk dcX11_holding_0 13 rfl) ?_
    cases h
    exact v_iret C rfl (dk dcX11_holding_0 14 rfl)
  · replace h := if_f c_2 h
    by_cases c_3 : (g.2.1 54 0 x1.toNatClampNeg) = 3
    · replace h := if_t c_3 h
      refine v_tableIn C 104 (dk dcX11_holding_0 4 rfl) (by rw [c_3]; decide) (by rw [c_3]; decide) (by rw [c_3]; rfl) (by decide) ?_
      exact vj_sub [0, 1, 2] rfl (vX11_holding_j104 hL C _ h)
    · replace h := if_f c_3 h
      by_cases c_4 : (g.2.1 54 0 x1.toNatClampNeg) = 4
      · replace h := if_t c_4 h
        refine v_tableIn C 70 (dk dcX11_holding_0 4 rfl) (by rw [c_4]; decide) (by rw [c_4]; decide) (by rw [c_4]; rfl) (by decide) ?_
        refine v_aload_n C 0 (dk dcX11_holding_0 25 rfl) rfl rfl ?_
        refine v_bipush C 50 (dk dcX11_holding_0 26 rfl) kb_50 ?_
        obtain ⟨g_6, h_5, h⟩ := bnd1_s h
        refine v_callV0 C (mtX11_ran (L - 1) (by omega) h_5) wmX11_ran wd_1545 (by omega) (by decide) rfl _ (ce_Mo) rfl rfl (Nat.le_of_ble_eq_true rfl) (dk dcX11_holding_0 27 rfl) ?_
        refine v_aload_n C 0 (dk dcX11_holding_0 28 rfl) rfl rfl ?_
        refine v_iload_n C 1 (dk dcX11_holding_0 29 rfl) rfl rfl ?_
        refine v_iload_n C 2 (dk dcX11_holding_0 30 rfl) rfl rfl ?_
        obtain ⟨g_8, r_9, h_7, h⟩ := bnd_s h
        refine v_callV1 C (mtX11_plainHolds (L - 1) (by omega) h_7) wmX11_plainHolds wd_1549 (by omega) (by decide) rfl _ (ce_Mo) rfl rfl (Nat.le_of_ble_eq_true rfl) (dk dcX11_holding_0 31 rfl) ?_
        refine v_ineg C (dk dcX11_holding_0 32 rfl) ?_
        cases h
        exact v_iret C rfl (dk dcX11_holding_0 33 rfl)
      · replace h := if_f c_4 h
        by_cases c_5 : (g.2.1 54 0 x1.toNatClampNeg) = 5
        · replace h := if_t c_5 h
          refine v_tableIn C 55 (dk dcX11_holding_0 4 rfl) (by rw [c_5]; decide) (by rw [c_5]; decide) (by rw [c_5]; rfl) (by decide) ?_
          refine v_aload_n C 0 (dk dcX11_holding_0 15 rfl) rfl rfl ?_
          refine v_bipush C 30 (dk dcX11_holding_0 16 rfl) kb_30 ?_
          obtain ⟨g_7, h_6, h⟩ := bnd1_s h
          refine v_callV0 C (mtX11_ran (L - 1) (by omega) h_6) wmX11_ran wd_1545 (by omega) (by decide) rfl _ (ce_Mo) rfl rfl (Nat.le_of_ble_eq_true rfl) (dk dcX11_holding_0 17 rfl) ?_
          refine v_aload_n C 0 (dk dcX11_holding_0 18 rfl) rfl rfl ?_
          refine v_iload_n C 1 (dk dcX11_holding_0 19 rfl) rfl rfl ?_
          refine v_iload_n C 2 (dk dcX11_holding_0 20 rfl) rfl rfl ?_
          refine v_iconst C 3 (dk dcX11_holding_0 21 rfl) ki_3 ?_
          refine v_imul C (dk dcX11_holding_0 22 rfl) ?_
          obtain ⟨g_9, r_10, h_8, h⟩ := bnd_s h
          refine v_callV1 C (mtX11_plainHolds (L - 1) (by omega) h_8) wmX11_plainHolds wd_1549 (by omega) (by decide) rfl _ (ce_Mo) rfl rfl (Nat.le_of_ble_eq_true rfl) (dk dcX11_holding_0 23 rfl) ?_
          cases h
          exact v_iret C rfl (dk dcX11_holding_0 24 rfl)
        · replace h := if_f c_5 h
          by_cases c_6 : (g.2.1 54 0 x1.toNatClampNeg) = 6
          · replace h := if_t c_6 h
            refine v_tableIn C 84 (dk dcX11_holding_0 4 rfl) (by rw [c_6]; decide) (by rw [c_6]; decide) (by rw [c_6]; rfl) (by decide) ?_
            refine v_aload_n C 0 (dk dcX11_holding_0 34 rfl) rfl rfl ?_
            refine v_bipush C 71 (dk dcX11_holding_0 35 rfl) kb_71 ?_
            obtain ⟨g_8, h_7, h⟩ := bnd1_s h
            refine v_callV0 C (mtX11_ran (L - 1) (by omega) h_7) wmX11_ran wd_1545 (by omega) (by decide) rfl _ (ce_Mo) rfl rfl (Nat.le_of_ble_eq_true rfl) (dk dcX11_holding_0 36 rfl) ?_
            refine v_aload_n C 0 (dk dcX11_holding_0 37 rfl) rfl rfl ?_
            refine v_iload_n C 1 (dk dcX11_holding_0 38 rfl) rfl rfl ?_
            refine v_iload_n C 2 (dk dcX11_holding_0 39 rfl) rfl rfl ?_
            obtain ⟨g_10, r_11, h_9, h⟩ := bnd_s h
            refine v_callV1 C (mtX11_plainHolds (L - 1) (by omega) h_9) wmX11_plainHolds wd_1549 (by omega) (by decide) rfl _ (ce_Mo) rfl rfl (Nat.le_of_ble_eq_true rfl) (dk dcX11_holding_0 40 rfl) ?_
            refine v_aload_n C 0 (dk dcX11_holding_0 41 rfl) rfl rfl ?_
            refine gt_Mo_number C wd_1110 (dk dcX11_holding_0 42 rfl) ?_
            refine v_iload_n C 1 (dk dcX11_holding_0 43 rfl) rfl rfl ?_
            obtain ⟨b_12, h⟩ := gd_t h
            refine ld_m_number C b_12 (dk dcX11_holding_0 44 rfl) ?_
            refine v_ixor C (dk dcX11_holding_0 45 rfl) ?_
            cases h
            exact v_iret C rfl (dk dcX11_holding_0 46 rfl)
          · replace h := if_f c_6 h
            have ec_2 := i32_ne (k := 2) c_2 (by decide)
            have ec_3 := i32_ne (k := 3) c_3 (by decide)
            have ec_4 := i32_ne (k := 4) c_4 (by decide)
            have ec_5 := i32_ne (k := 5) c_5 (by decide)
            have ec_6 := i32_ne (k := 6) c_6 (by decide)
            refine v_tableOut C 104 (dk dcX11_holding_0 4 rfl) (by omega) (by decide) ?_
            exact vj_sub [0, 1, 2] rfl (vX11_holding_j104 hL C _ h)
set_option maxRecDepth 20000 in
set_option maxHeartbeats 4000000 in
theorem mtX11_plainChooses {l : Launch} {E : WEt} {wx : va_W} (L : Nat) (hL : 5 ≤ L)  {g : STt} {x1 : Int32} {x2 : Int32} {g' : STt} {rr : Int32} (h : fX11_plainChooses g x1 x2 = some (g', rr)) : MT l E yX11_plainChooses cX11_plainChooses 3 (some .int) (L + 1) [.ref (aE E 28 0), .int x1, .int x2] (cellsM E g ++ wx) (cellsM E g' ++ wx) (some (.int rr)) := by
  refine mt_of (by decide +kernel) (Nat.le_of_ble_eq_true rfl) ?_
  intro p e s m args below meth c C
  replace C : CX p s m args meth c cX11_plainChooses 3 RX11 (some .int) E := C
  unfold fX11_plainChooses at h
  refine vj_sub (lv' := [(0, .ref (aE E 28 0)), (1, .int x1), (2, .int x2)]) [0, 1, 2] rfl ?_
  refine v_aload_n C 0 (dk dcX11_plainChooses_0 0 rfl) rfl rfl ?_
  refine v_bipush C 11 (dk dcX11_plainChooses_0 1 rfl) kb_11 ?_
  obtain ⟨g_2, h_1, h⟩ := bnd1_s h
  refine v_callV0 C (mtX11_ran (L - 1) (by omega) h_1) wmX11_ran wd_1545 (by omega) (by decide) rfl _ (ce_Mo) rfl rfl (Nat.le_of_ble_eq_true rfl) (dk dcX11_plainChooses_0 2 rfl) ?_
  refine v_aload_n C 0 (dk dcX11_plainChooses_0 3 rfl) rfl rfl ?_
  refine v_iload_n C 1 (dk dcX11_plainChooses_0 4 rfl) rfl rfl ?_
  refine v_iload_n C 2 (dk dcX11_plainChooses_0 5 rfl) rfl rfl ?_
  obtain ⟨g_4, r_5, h_3, h⟩ := bnd_s h
  refine v_callV1 C (mtX11_holding (L - 1) (by omega) h_3) wmX11_holding wd_1541 (by omega) (by decide) rfl _ (ce_Mo) rfl rfl (Nat.le_of_ble_eq_true rfl) (dk dcX11_plainChooses_0 6 rfl) ?_
  refine v_aload_n C 0 (dk dcX11_plainChooses_0 7 rfl) rfl rfl ?_
  refine gt_Mo_number C wd_1110 (dk dcX11_plainChooses_0 8 rfl) ?_
  refine v_iload_n C 1 (dk dcX11_plainChooses_0 9 rfl) rfl rfl ?_
  obtain ⟨b_6, h⟩ := gd_t h
  refine ld_m_number C b_6 (dk dcX11_plainChooses_0 10 rfl) ?_
  refine v_isub C (dk dcX11_plainChooses_0 11 rfl) ?_
  cases h
  exact v_iret C rfl (dk dcX11_plainChooses_0 12 rfl)
set_option maxRecDepth 20000 in
set_option maxHeartbeats 4000000 in
theorem mtX11_calledChooses {l : Launch} {E : WEt} {wx : va_W} (L : Nat) (hL : 6 ≤ L)  {g : STt} {x1 : Int32} {x2 : Int32} {g' : STt} {rr : Int32} (h : fX11_calledChooses g x1 x2 = some (g', rr)) : MT l E yX11_calledChooses cX11_calledChooses 4 (some .int) (L + 1) [.ref (aE E 28 0), .int x1, .int x2] (cellsM E g ++ wx) (cellsM E g' ++ wx) (some (.int rr)) := by
  refine mt_of (by decide +kernel) (Nat.le_of_ble_eq_true rfl) ?_
  intro p e s m args below meth c C
  replace C : CX p s m args meth c cX11_calledChooses 4 RX11 (some .int) E := C
  unfold fX11_calledChooses at h
  refine vj_sub (lv' := [(0, .ref (aE E 28 0)), (1, .int x1), (2, .int x2)]) [0, 1, 2] rfl ?_
  refine v_aload_n C 0 (dk dcX11_calledChooses_0 0 rfl) rfl rfl ?_
  refine v_bipush C 70 (dk dcX11_calledChooses_0 1 rfl) kb_70 ?_
  obtain ⟨g_2, h_1, h⟩ := bnd1_s h
  refine v_callV0 C (mtX11_ran (L - 1) (by omega) h_1) wmX11_ran wd_1545 (by omega) (by decide) rfl _ (ce_Mo) rfl rfl (Nat.le_of_ble_eq_true rfl) (dk dcX11_calledChooses_0 2 rfl) ?_
  refine v_aload_n C 0 (dk dcX11_calledChooses_0 3 rfl) rfl rfl ?_
  refine v_iload_n C 1 (dk dcX11_calledChooses_0 4 rfl) rfl rfl ?_
  refine v_iload_n C 2 (dk dcX11_calledChooses_0 5 rfl) rfl rfl ?_
  obtain ⟨g_4, r_5, h_3, h⟩ := bnd_s h
  refine v_callV1 C (mtX11_plainChooses (L - 1) (by omega) h_3) wmX11_plainChooses wd_1561 (by omega) (by decide) rfl _ (ce_Mo) rfl rfl (Nat.le_of_ble_eq_true rfl) (dk dcX11_calledChooses_0 6 rfl) ?_
  refine v_istore_n C (lv' := [(3, .int r_5), (0, .ref (aE E 28 0)), (1, .int x1), (2, .int x2)]) (dk dcX11_calledChooses_0 7 rfl) rfl (by decide) rfl ?_
  refine v_iload_n C 0 (dk dcX11_calledChooses_0 8 rfl) rfl rfl ?_
  refine v_aload_n C 1 (dk dcX11_calledChooses_0 9 rfl) rfl rfl ?_
  refine v_iload_n C 2 (dk dcX11_calledChooses_0 10 rfl) rfl rfl ?_
  refine v_iconst C 2 (dk dcX11_calledChooses_0 11 rfl) ki_2 ?_
  obtain ⟨g_7, r_8, h_6, h⟩ := bnd_s h
  refine v_callV1 C (mtX11_plainHolds (L - 1) (by omega) h_6) wmX11_plainHolds wd_1549 (by omega) (by decide) rfl _ (ce_Mo) rfl rfl (Nat.le_of_ble_eq_true rfl) (dk dcX11_calledChooses_0 12 rfl) ?_
  refine v_iadd C (dk dcX11_calledChooses_0 13 rfl) ?_
  cases h
  exact v_iret C rfl (dk dcX11_calledChooses_0 14 rfl)
set_option maxRecDepth 20000 in
set_option maxHeartbeats 4000000 in
theorem mtX11_fearedChooses {l : Launch} {E : WEt} {wx : va_W} (L : Nat) (hL : 6 ≤ L)  {g : STt} {x1 : Int32} {x2 : Int32} {g' : STt} {rr : Int32} (h : fX11_fearedChooses g x1 x2 = some (g', rr)) : MT l E yX11_fearedChooses cX11_fearedChooses 3 (some .int) (L + 1) [.ref (aE E 28 0), .int x1, .int x2] (cellsM E g ++ wx) (cellsM E g' ++ wx) (some (.int rr)) := by
  refine mt_of (by decide +kernel) (Nat.le_of_ble_eq_true rfl) ?_
  intro p e s m args below meth c C
  replace C : CX p s m args meth c cX11_fearedChooses 3 RX11 (some .int) E := C
  unfold fX11_fearedChooses at h
  refine vj_sub (lv' := [(0, .ref (aE E 28 0)), (1, .int x1), (2, .int x2)]) [0, 1, 2] rfl ?_
  refine v_aload_n C 0 (dk dcX11_fearedChooses_0 0 rfl) rfl rfl ?_
  refine v_bipush C 20 (dk dcX11_fearedChooses_0 1 rfl) kb_20 ?_
  obtain ⟨g_2, h_1, h⟩ := bnd1_s h
  refine v_callV0 C (mtX11_ran (L - 1) (by omega) h_1) wmX11_ran wd_1545 (by omega) (by decide) rfl _ (ce_Mo) rfl rfl (Nat.le_of_ble_eq_true rfl) (dk dcX11_fearedChooses_0 2 rfl) ?_
  refine v_aload_n C 0 (dk dcX11_fearedChooses_0 3 rfl) rfl rfl ?_
  refine v_iload_n C 1 (dk dcX11_fearedChooses_0 4 rfl) rfl rfl ?_
  refine v_iload_n C 2 (dk dcX11_fearedChooses_0 5 rfl) rfl rfl ?_
  obtain ⟨g_4, r_5, h_3, h⟩ := bnd_s h
  refine v_callV1 C (mtX11_plainChooses (L - 1) (by omega) h_3) wmX11_plainChooses wd_1561 (by omega) (by decide) rfl _ (ce_Mo) rfl rfl (Nat.le_of_ble_eq_true rfl) (dk dcX11_fearedChooses_0 6 rfl) ?_
  refine v_bipush C 6 (dk dcX11_fearedChooses_0 7 rfl) kb_6 ?_
  refine v_ixor C (dk dcX11_fearedChooses_0 8 rfl) ?_
  cases h
  exact v_iret C rfl (dk dcX11_fearedChooses_0 9 rfl)
set_option maxRecDepth 20000 in
set_option maxHeartbeats 4000000 in
theorem mtX11_chooses {l : Launch} {E : WEt} {wx : va_W} (L : Nat) (hL : 7 ≤ L)  {g : STt} {x1 : Int32} {x2 : Int32} {g' : STt} {rr : Int32} (h : fX11_chooses g x1 x2 = some (g', rr)) : MT l E yX11_chooses cX11_chooses 3 (some .int) (L + 1) [.ref (aE E 28 0), .int x1, .int x2] (cellsM E g ++ wx) (cellsM E g' ++ wx) (some (.int rr)) := by
  refine mt_of (by decide +kernel) (Nat.le_of_ble_eq_true rfl) ?_
  intro p e s m args below meth c C
  replace C : CX p s m args meth c cX11_chooses 3 RX11 (some .int) E := C
  unfold fX11_chooses at h
  refine vj_sub (lv' := [(0, .ref (aE E 28 0)), (1, .int x1), (2, .int x2)]) [0, 1, 2] rfl ?_
  refine v_aload_n C 0 (dk dcX11_chooses_0 0 rfl) rfl rfl ?_
  refine gt_Mo_kind C wd_1109 (dk dcX11_chooses_0 1 rfl) ?_
  refine v_iload_n C 1 (dk dcX11_chooses_0 2 rfl) rfl rfl ?_
  obtain ⟨b_1, h⟩ := gd_t h
  refine ld_m_kind C b_1 (dk dcX11_chooses_0 3 rfl) ?_
  by_cases c_2 : (g.2.1 54 0 x1.toNatClampNeg) = 1
  · replace h := if_t c_2 h
    refine v_lookup C 40 (dk dcX11_chooses_0 4 rfl) (by decide) (by first | (rw [c_2]; done) | (rw [c_2]; rfl)) (by decide) ?_
    refine v_aload_n C 0 (dk dcX11_chooses_0 5 rfl) rfl rfl ?_
    refine v_iload_n C 1 (dk dcX11_chooses_0 6 rfl) rfl rfl ?_
    refine v_iload_n C 2 (dk dcX11_chooses_0 7 rfl) rfl rfl ?_
    obtain ⟨g_4, r_5, h_3, h⟩ := bnd_s h
    refine v_callV1 C (mtX11_fearedChooses (L - 1) (by omega) h_3) wmX11_fearedChooses wd_1557 (by omega) (by decide) rfl _ (ce_Mo) rfl rfl (Nat.le_of_ble_eq_true rfl) (dk dcX11_chooses_0 8 rfl) ?_
    cases h
    exact v_iret C rfl (dk dcX11_chooses_0 9 rfl)
  · replace h := if_f c_2 h
    by_cases c_3 : (g.2.1 54 0 x1.toNatClampNeg) = 4
    · replace h := if_t c_3 h
      refine v_lookup C 47 (dk dcX11_chooses_0 4 rfl) (by decide) (by first | (rw [c_3]; done) | (rw [c_3]; rfl)) (by decide) ?_
      refine v_aload_n C 0 (dk dcX11_chooses_0 10 rfl) rfl rfl ?_
      refine v_bipush C 51 (dk dcX11_chooses_0 11 rfl) kb_51 ?_
      obtain ⟨g_5, h_4, h⟩ := bnd1_s h
      refine v_callV0 C (mtX11_ran (L - 1) (by omega) h_4) wmX11_ran wd_1545 (by omega) (by decide) rfl _ (ce_Mo) rfl rfl (Nat.le_of_ble_eq_true rfl) (dk dcX11_chooses_0 12 rfl) ?_
      refine v_aload_n C 0 (dk dcX11_chooses_0 13 rfl) rfl rfl ?_
      refine v_iload_n C 1 (dk dcX11_chooses_0 14 rfl) rfl rfl ?_
      refine v_iload_n C 2 (dk dcX11_chooses_0 15 rfl) rfl rfl ?_
      refine v_iconst C 1 (dk dcX11_chooses_0 16 rfl) ki_1 ?_
      refine v_iadd C (dk dcX11_chooses_0 17 rfl) ?_
      obtain ⟨g_7, r_8, h_6, h⟩ := bnd_s h
      refine v_callV1 C (mtX11_fearedChooses (L - 1) (by omega) h_6) wmX11_fearedChooses wd_1557 (by omega) (by decide) rfl _ (ce_Mo) rfl rfl (Nat.le_of_ble_eq_true rfl) (dk dcX11_chooses_0 18 rfl) ?_
      cases h
      exact v_iret C rfl (dk dcX11_chooses_0 19 rfl)
    · replace h := if_f c_3 h
      by_cases c_4 : (g.2.1 54 0 x1.toNatClampNeg) = 6
      · replace h := if_t c_4 h
        refine v_lookup C 62 (dk dcX11_chooses_0 4 rfl) (by decide) (by first | (rw [c_4]; done) | (rw [c_4]; rfl)) (by decide) ?_
        refine v_aload_n C 0 (dk dcX11_chooses_0 20 rfl) rfl rfl ?_
        refine v_iload_n C 1 (dk dcX11_chooses_0 21 rfl) rfl rfl ?_
        refine v_iload_n C 2 (dk dcX11_chooses_0 22 rfl) rfl rfl ?_
        obtain ⟨g_6, r_7, h_5, h⟩ := bnd_s h
        refine v_callV1 C (mtX11_calledChooses (L - 1) (by omega) h_5) wmX11_calledChooses wd_1565 (by omega) (by decide) rfl _ (ce_Mo) rfl rfl (Nat.le_of_ble_eq_true rfl) (dk dcX11_chooses_0 23 rfl) ?_
        cases h
        exact v_iret C rfl (dk dcX11_chooses_0 24 rfl)
      · replace h := if_f c_4 h
        refine v_lookup C (off := 63) 69 (dk dcX11_chooses_0 4 rfl) (by decide) ((lv_osw c_2 (by decide)).trans ((lv_osw c_3 (by decide)).trans ((lv_osw c_4 (by decide)).trans rfl))) (by decide) ?_
        refine v_aload_n C 0 (dk dcX11_chooses_0 25 rfl) rfl rfl ?_
        refine v_iload_n C 1 (dk dcX11_chooses_0 26 rfl) rfl rfl ?_
        refine v_iload_n C 2 (dk dcX11_chooses_0 27 rfl) rfl rfl ?_
        obtain ⟨g_6, r_7, h_5, h⟩ := bnd_s h
        refine v_callV1 C (mtX11_plainChooses (L - 1) (by omega) h_5) wmX11_plainChooses wd_1561 (by omega) (by decide) rfl _ (ce_Mo) rfl rfl (Nat.le_of_ble_eq_true rfl) (dk dcX11_chooses_0 28 rfl) ?_
        cases h
        exact v_iret C rfl (dk dcX11_chooses_0 29 rfl)
end MS
