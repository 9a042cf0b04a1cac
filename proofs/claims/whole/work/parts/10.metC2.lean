section MS
variable {p : Program} {l : Launch} {e : Env} {s : State} {m : MethodId} {args : Array Value} {below : List Frame} {meth : Method} {c : Code} {E : WEt} {wx : va_W}
set_option maxRecDepth 20000 in
set_option maxHeartbeats 4000000 in
theorem mtX5_add {l : Launch} {E : WEt} {wx : va_W} (L : Nat) (hL : 2 ≤ L)  {g : STt} {d0 : Nat} (hd0 : d0 < 8) {x1 : Int32} {g' : STt} {rr : Int32} (h : fX5_add g d0 x1 = some (g', rr)) : MT l E yX5_add cX5_add 2 (some .boolean) (L + 1) [.ref (aE E 17 d0), .int x1] (cellsC E g ++ wx) (cellsC E g' ++ wx) (some (.int rr)) := by
  refine mt_of (by decide +kernel) (Nat.le_of_ble_eq_true rfl) ?_
  intro p e s m args below meth c C
  replace C : CX p s m args meth c cX5_add 2 RX5 (some .boolean) E := C
  unfold fX5_add at h
  refine vj_sub (lv' := [(0, .ref (aE E 17 d0)), (1, .int x1)]) [0, 1] rfl ?_
  refine v_aload_n C 0 (dk dcX5_add_0 0 rfl) rfl rfl ?_
  refine gt_Strip_size C hd0 wd_141 (dk dcX5_add_0 1 rfl) ?_
  refine v_if_lt C 19 (dk dcX5_add_0 2 rfl) (by decide) (fun c_1 => ?_) (fun c_1 => ?_)
  · replace h := if_t c_1 h
    refine v_iconst C 0 (dk dcX5_add_0 9 rfl) ki_0 ?_
    cases h
    exact v_zret C (x := 0) rfl rfl (dk dcX5_add_0 10 rfl)
  · replace h := if_f c_1 h
    refine v_aload_n C 0 (dk dcX5_add_0 3 rfl) rfl rfl ?_
    refine gt_Strip_size C hd0 wd_141 (dk dcX5_add_0 4 rfl) ?_
    refine v_aload_n C 0 (dk dcX5_add_0 5 rfl) rfl rfl ?_
    refine gt_Strip_items C hd0 wd_140 (dk dcX5_add_0 6 rfl) ?_
    refine al_stripItems C hd0 (dk dcX5_add_0 7 rfl) ?_
    refine v_icmp_lt C 21 (dk dcX5_add_0 8 rfl) (by decide) (fun c_2 => ?_) (fun c_2 => ?_)
    · replace h := if_t c_2 h
      refine v_aload_n C 0 (dk dcX5_add_0 11 rfl) rfl rfl ?_
      refine gt_Strip_items C hd0 wd_140 (dk dcX5_add_0 12 rfl) ?_
      refine v_aload_n C 0 (dk dcX5_add_0 13 rfl) rfl rfl ?_
      refine gt_Strip_size C hd0 wd_141 (dk dcX5_add_0 14 rfl) ?_
      refine v_iload_n C 1 (dk dcX5_add_0 15 rfl) rfl rfl ?_
      obtain ⟨b_3, h⟩ := gd_t h
      refine st_stripItems C hd0 b_3 (dk dcX5_add_0 16 rfl) ?_
      refine v_aload_n C 0 (dk dcX5_add_0 17 rfl) rfl rfl ?_
      refine v_dup C rfl (dk dcX5_add_0 18 rfl) ?_
      refine gt_Strip_size C hd0 wd_141 (dk dcX5_add_0 19 rfl) ?_
      refine v_iconst C 1 (dk dcX5_add_0 20 rfl) ki_1 ?_
      refine v_iadd C (dk dcX5_add_0 21 rfl) ?_
      refine pt_Strip_size C hd0 wd_141 (dk dcX5_add_0 22 rfl) ?_
      refine v_iconst C 1 (dk dcX5_add_0 23 rfl) ki_1 ?_
      cases h
      exact v_zret C (x := 1) rfl rfl (dk dcX5_add_0 24 rfl)
    · replace h := if_f c_2 h
      refine v_iconst C 0 (dk dcX5_add_0 9 rfl) ki_0 ?_
      cases h
      exact v_zret C (x := 0) rfl rfl (dk dcX5_add_0 10 rfl)
set_option maxRecDepth 20000 in
set_option maxHeartbeats 4000000 in
theorem mtX5_clear {l : Launch} {E : WEt} {wx : va_W} (L : Nat) (hL : 2 ≤ L)  {g : STt} {d0 : Nat} (hd0 : d0 < 8) {g' : STt} (h : fX5_clear g d0 = some g') : MT l E yX5_clear cX5_clear 1 none (L + 1) [.ref (aE E 17 d0)] (cellsC E g ++ wx) (cellsC E g' ++ wx) none := by
  refine mt_of (by decide +kernel) (Nat.le_of_ble_eq_true rfl) ?_
  intro p e s m args below meth c C
  replace C : CX p s m args meth c cX5_clear 1 RX5 none E := C
  unfold fX5_clear at h
  refine vj_sub (lv' := [(0, .ref (aE E 17 d0))]) [0] rfl ?_
  refine v_aload_n C 0 (dk dcX5_clear_0 0 rfl) rfl rfl ?_
  refine v_iconst C 0 (dk dcX5_clear_0 1 rfl) ki_0 ?_
  refine pt_Strip_size C hd0 wd_141 (dk dcX5_clear_0 2 rfl) ?_
  cases h
  exact v_vret C rfl (dk dcX5_clear_0 3 rfl)
set_option maxRecDepth 20000 in
set_option maxHeartbeats 4000000 in
theorem mtX5_get {l : Launch} {E : WEt} {wx : va_W} (L : Nat) (hL : 2 ≤ L)  {g : STt} {d0 : Nat} (hd0 : d0 < 8) {x1 : Int32} {rr : Int32} (h : fX5_get g d0 x1 = some rr) : MT l E yX5_get cX5_get 2 (some .int) (L + 1) [.ref (aE E 17 d0), .int x1] (cellsC E g ++ wx) (cellsC E g ++ wx) (some (.int rr)) := by
  refine mt_of (by decide +kernel) (Nat.le_of_ble_eq_true rfl) ?_
  intro p e s m args below meth c C
  replace C : CX p s m args meth c cX5_get 2 RX5 (some .int) E := C
  unfold fX5_get at h
  refine vj_sub (lv' := [(0, .ref (aE E 17 d0)), (1, .int x1)]) [0, 1] rfl ?_
  refine v_iload_n C 1 (dk dcX5_get_0 0 rfl) rfl rfl ?_
  refine v_if_lt C 30 (dk dcX5_get_0 1 rfl) (by decide) (fun c_1 => ?_) (fun c_1 => ?_)
  · replace h := if_t c_1 h
    refine v_iconst C (-1) (dk dcX5_get_0 16 rfl) ki_m1 ?_
    cases h
    exact v_iret C rfl (dk dcX5_get_0 17 rfl)
  · replace h := if_f c_1 h
    refine v_iload_n C 1 (dk dcX5_get_0 2 rfl) rfl rfl ?_
    refine v_aload_n C 0 (dk dcX5_get_0 3 rfl) rfl rfl ?_
    refine gt_Strip_size C hd0 wd_141 (dk dcX5_get_0 4 rfl) ?_
    refine v_icmp_ge C 30 (dk dcX5_get_0 5 rfl) (by decide) (fun c_2 => ?_) (fun c_2 => ?_)
    · replace h := if_t c_2 h
      refine v_iconst C (-1) (dk dcX5_get_0 16 rfl) ki_m1 ?_
      cases h
      exact v_iret C rfl (dk dcX5_get_0 17 rfl)
    · replace h := if_f c_2 h
      refine v_iload_n C 1 (dk dcX5_get_0 6 rfl) rfl rfl ?_
      refine v_aload_n C 0 (dk dcX5_get_0 7 rfl) rfl rfl ?_
      refine gt_Strip_items C hd0 wd_140 (dk dcX5_get_0 8 rfl) ?_
      refine al_stripItems C hd0 (dk dcX5_get_0 9 rfl) ?_
      refine v_icmp_ge C 30 (dk dcX5_get_0 10 rfl) (by decide) (fun c_3 => ?_) (fun c_3 => ?_)
      · replace h := if_t c_3 h
        refine v_iconst C (-1) (dk dcX5_get_0 16 rfl) ki_m1 ?_
        cases h
        exact v_iret C rfl (dk dcX5_get_0 17 rfl)
      · replace h := if_f c_3 h
        refine v_aload_n C 0 (dk dcX5_get_0 11 rfl) rfl rfl ?_
        refine gt_Strip_items C hd0 wd_140 (dk dcX5_get_0 12 rfl) ?_
        refine v_iload_n C 1 (dk dcX5_get_0 13 rfl) rfl rfl ?_
        obtain ⟨b_4, h⟩ := gd_t h
        refine ld_stripItems C hd0 b_4 (dk dcX5_get_0 14 rfl) ?_
        refine v_goto C 31 (dk dcX5_get_0 15 rfl) (by decide) ?_
        cases h
        exact v_iret C rfl (dk dcX5_get_0 17 rfl)
set_option maxRecDepth 20000 in
set_option maxHeartbeats 4000000 in
theorem mtX5_size {l : Launch} {E : WEt} {wx : va_W} (L : Nat) (hL : 2 ≤ L)  {g : STt} {d0 : Nat} (hd0 : d0 < 8) {rr : Int32} (h : fX5_size g d0 = some rr) : MT l E yX5_size cX5_size 1 (some .int) (L + 1) [.ref (aE E 17 d0)] (cellsC E g ++ wx) (cellsC E g ++ wx) (some (.int rr)) := by
  refine mt_of (by decide +kernel) (Nat.le_of_ble_eq_true rfl) ?_
  intro p e s m args below meth c C
  replace C : CX p s m args meth c cX5_size 1 RX5 (some .int) E := C
  unfold fX5_size at h
  refine vj_sub (lv' := [(0, .ref (aE E 17 d0))]) [0] rfl ?_
  refine v_aload_n C 0 (dk dcX5_size_0 0 rfl) rfl rfl ?_
  refine gt_Strip_size C hd0 wd_141 (dk dcX5_size_0 1 rfl) ?_
  cases h
  exact v_iret C rfl (dk dcX5_size_0 2 rfl)
set_option maxRecDepth 20000 in
set_option maxHeartbeats 4000000 in
theorem vX5_become_l6c {L : Nat} (hL : 3 ≤ L) (C : CX p s m args meth c cX5_become 3 RX5 none E) {l0 : Nat} {l1 : Nat} (hl0 : l0 < 8) (hl1 : l1 < 8) {K6 : (STt × Int32) → Option STt} (hK6 : ∀ {g : STt} {l2 : Int32} (r : STt), K6 (g, l2) = some r → VJ p l e (rmL (L + 1)) s m args below meth c (QE below E (cellsC E r ++ wx) (none) args s) E 3 (cellsC E g ++ wx) [(0, .ref (aE E 17 l0)), (1, .ref (aE E 17 l1)), (2, .int l2)] [] 6) {g : STt} {l2 : Int32} (r : STt) (h : fX5_become_l6c K6 l0 l1 g l2 = some r) : VJ p l e (rmL (L + 1)) s m args below meth c (QE below E (cellsC E r ++ wx) (none) args s) E 3 (cellsC E g ++ wx) [(0, .ref (aE E 17 l0)), (1, .ref (aE E 17 l1)), (2, .int l2)] [] 6 := by
  unfold fX5_become_l6c at h
  refine v_iload_n C 2 (dk dcX5_become_0 4 rfl) rfl rfl ?_
  refine v_aload_n C 1 (dk dcX5_become_0 5 rfl) rfl rfl ?_
  obtain ⟨r_2, h_1, h⟩ := bnd1_s h
  refine v_callV1 C (mtX5_size (L - 1) (by omega) hl1 h_1) wmX5_size wd_991 (by omega) (by decide) rfl _ (ce_Strip hl1) rfl rfl (Nat.le_of_ble_eq_true rfl) (dk dcX5_become_0 6 rfl) ?_
  refine v_icmp_ge C 30 (dk dcX5_become_0 7 rfl) (by decide) (fun c_3 => ?_) (fun c_3 => ?_)
  · replace h := if_t c_3 h
    cases h
    exact v_vret C rfl (dk dcX5_become_0 16 rfl)
  · replace h := if_f c_3 h
    refine v_aload_n C 0 (dk dcX5_become_0 8 rfl) rfl rfl ?_
    refine v_aload_n C 1 (dk dcX5_become_0 9 rfl) rfl rfl ?_
    refine v_iload_n C 2 (dk dcX5_become_0 10 rfl) rfl rfl ?_
    obtain ⟨r_5, h_4, h⟩ := bnd1_s h
    refine v_callV1 C (mtX5_get (L - 1) (by omega) hl1 h_4) wmX5_get wd_929 (by omega) (by decide) rfl _ (ce_Strip hl1) rfl rfl (Nat.le_of_ble_eq_true rfl) (dk dcX5_become_0 11 rfl) ?_
    obtain ⟨g_7, r_8, h_6, h⟩ := bnd_s h
    refine v_callV1 C (mtX5_add (L - 1) (by omega) hl0 h_6) wmX5_add wd_992 (by omega) (by decide) rfl _ (ce_Strip hl0) rfl rfl (Nat.le_of_ble_eq_true rfl) (dk dcX5_become_0 12 rfl) ?_
    refine v_pop C rfl (dk dcX5_become_0 13 rfl) ?_
    refine v_iinc C (lv' := [(2, .int (l2 + 1)), (0, .ref (aE E 17 l0)), (1, .ref (aE E 17 l1))]) (l2 + 1) 2 (dk dcX5_become_0 14 rfl) rfl (congrArg (fun z => l2 + z) ki_1) (by decide) rfl ?_
    refine v_goto C 6 (dk dcX5_become_0 15 rfl) (by decide) ?_
    exact vj_sub [1, 2, 0] rfl (hK6 _ h)
set_option maxRecDepth 20000 in
set_option maxHeartbeats 4000000 in
theorem vX5_become_l6 {L : Nat} (hL : 3 ≤ L) (C : CX p s m args meth c cX5_become 3 RX5 none E) {l0 : Nat} {l1 : Nat} (hl0 : l0 < 8) (hl1 : l1 < 8) {g : STt} {l2 : Int32} (r : STt) (h : fX5_become_l6 l0 l1 g l2 = some r) : VJ p l e (rmL (L + 1)) s m args below meth c (QE below E (cellsC E r ++ wx) (none) args s) E 3 (cellsC E g ++ wx) [(0, .ref (aE E 17 l0)), (1, .ref (aE E 17 l1)), (2, .int l2)] [] 6 :=
  iterO_ind (F := fun K z => fX5_become_l6c K l0 l1 z.1 z.2) (fun z r => VJ p l e (rmL (L + 1)) s m args below meth c (QE below E (cellsC E r ++ wx) (none) args s) E 3 (cellsC E z.1 ++ wx) [(0, .ref (aE E 17 l0)), (1, .ref (aE E 17 l1)), (2, .int z.2)] [] 6) (fun K hK z r h => vX5_become_l6c hL C hl0 hl1 (fun {g} {l2} r h => hK (g, l2) r h) r h) fuelN (g, l2) r h
set_option maxRecDepth 20000 in
set_option maxHeartbeats 4000000 in
theorem mtX5_become {l : Launch} {E : WEt} {wx : va_W} (L : Nat) (hL : 3 ≤ L)  {g : STt} {d0 : Nat} (hd0 : d0 < 8) {d1 : Nat} (hd1 : d1 < 8) {g' : STt} (h : fX5_become g d0 d1 = some g') : MT l E yX5_become cX5_become 3 none (L + 1) [.ref (aE E 17 d0), .ref (aE E 17 d1)] (cellsC E g ++ wx) (cellsC E g' ++ wx) none := by
  refine mt_of (by decide +kernel) (Nat.le_of_ble_eq_true rfl) ?_
  intro p e s m args below meth c C
  replace C : CX p s m args meth c cX5_become 3 RX5 none E := C
  unfold fX5_become at h
  refine vj_sub (lv' := [(0, .ref (aE E 17 d0)), (1, .ref (aE E 17 d1))]) [0, 1] rfl ?_
  refine v_aload_n C 0 (dk dcX5_become_0 0 rfl) rfl rfl ?_
  obtain ⟨g_2, h_1, h⟩ := bnd1_s h
  refine v_callV0 C (mtX5_clear (L - 1) (by omega) hd0 h_1) wmX5_clear wd_990 (by omega) (by decide) rfl _ (ce_Strip hd0) rfl rfl (Nat.le_of_ble_eq_true rfl) (dk dcX5_become_0 1 rfl) ?_
  refine v_iconst C 0 (dk dcX5_become_0 2 rfl) ki_0 ?_
  refine v_istore_n C (lv' := [(2, .int 0), (0, .ref (aE E 17 d0)), (1, .ref (aE E 17 d1))]) (dk dcX5_become_0 3 rfl) rfl (by decide) rfl ?_
  exact vj_sub [1, 2, 0] rfl (vX5_become_l6 hL C hd0 hd1 _ h)
set_option maxRecDepth 20000 in
set_option maxHeartbeats 4000000 in
theorem mtX3_become {l : Launch} {E : WEt} {wx : va_W} (L : Nat) (hL : 4 ≤ L)  {g : STt} {d0 : Nat} (hd0 : d0 < 2) {d1 : Nat} (hd1 : d1 < 2) {g' : STt} (h : fX3_become g d0 d1 = some g') : MT l E yX3_become cX3_become 2 none (L + 1) [.ref (aE E 16 d0), .ref (aE E 16 d1)] (cellsC E g ++ wx) (cellsC E g' ++ wx) none := by
  refine mt_of (by decide +kernel) (Nat.le_of_ble_eq_true rfl) ?_
  intro p e s m args below meth c C
  replace C : CX p s m args meth c cX3_become 2 RX3 none E := C
  unfold fX3_become at h
  refine vj_sub (lv' := [(0, .ref (aE E 16 d0)), (1, .ref (aE E 16 d1))]) [0, 1] rfl ?_
  refine v_aload_n C 0 (dk dcX3_become_0 0 rfl) rfl rfl ?_
  refine gt_Moment_donkey C hd0 wd_225 (dk dcX3_become_0 1 rfl) ?_
  refine v_aload_n C 1 (dk dcX3_become_0 2 rfl) rfl rfl ?_
  refine gt_Moment_donkey C hd1 wd_225 (dk dcX3_become_0 3 rfl) ?_
  obtain ⟨g_2, h_1, h⟩ := bnd1_s h
  refine v_callV0 C (mtX1_become (L - 1) (by omega) (Nat.lt_of_lt_of_le hd0 (by decide)) (Nat.lt_of_lt_of_le hd1 (by decide)) h_1) wmX1_become wd_985 (by omega) (by decide) rfl _ (ce_Donkey (Nat.lt_of_lt_of_le hd0 (by decide))) rfl rfl (Nat.le_of_ble_eq_true rfl) (dk dcX3_become_0 4 rfl) ?_
  refine v_aload_n C 0 (dk dcX3_become_0 5 rfl) rfl rfl ?_
  refine gt_Moment_acts C hd0 wd_228 (dk dcX3_become_0 6 rfl) ?_
  refine v_aload_n C 1 (dk dcX3_become_0 7 rfl) rfl rfl ?_
  refine gt_Moment_acts C hd1 wd_228 (dk dcX3_become_0 8 rfl) ?_
  obtain ⟨g_4, h_3, h⟩ := bnd1_s h
  refine v_callV0 C (mtX5_become (L - 1) (by omega) (by omega) (by omega) h_3) wmX5_become wd_986 (by omega) (by decide) rfl _ (ce_Strip (by omega)) rfl rfl (Nat.le_of_ble_eq_true rfl) (dk dcX3_become_0 9 rfl) ?_
  refine v_aload_n C 0 (dk dcX3_become_0 10 rfl) rfl rfl ?_
  refine gt_Moment_seen C hd0 wd_231 (dk dcX3_become_0 11 rfl) ?_
  refine v_aload_n C 1 (dk dcX3_become_0 12 rfl) rfl rfl ?_
  refine gt_Moment_seen C hd1 wd_231 (dk dcX3_become_0 13 rfl) ?_
  obtain ⟨g_6, h_5, h⟩ := bnd1_s h
  refine v_callV0 C (mtX5_become (L - 1) (by omega) (by omega) (by omega) h_5) wmX5_become wd_986 (by omega) (by decide) rfl _ (ce_Strip (by omega)) rfl rfl (Nat.le_of_ble_eq_true rfl) (dk dcX3_become_0 14 rfl) ?_
  refine v_aload_n C 0 (dk dcX3_become_0 15 rfl) rfl rfl ?_
  refine gt_Moment_beasts C hd0 wd_234 (dk dcX3_become_0 16 rfl) ?_
  refine v_aload_n C 1 (dk dcX3_become_0 17 rfl) rfl rfl ?_
  refine gt_Moment_beasts C hd1 wd_234 (dk dcX3_become_0 18 rfl) ?_
  obtain ⟨g_8, h_7, h⟩ := bnd1_s h
  refine v_callV0 C (mtX5_become (L - 1) (by omega) (by omega) (by omega) h_7) wmX5_become wd_986 (by omega) (by decide) rfl _ (ce_Strip (by omega)) rfl rfl (Nat.le_of_ble_eq_true rfl) (dk dcX3_become_0 19 rfl) ?_
  refine v_aload_n C 0 (dk dcX3_become_0 20 rfl) rfl rfl ?_
  refine v_aload_n C 1 (dk dcX3_become_0 21 rfl) rfl rfl ?_
  refine gt_Moment_odds C hd1 wd_236 (dk dcX3_become_0 22 rfl) ?_
  refine pt_Moment_odds C hd0 wd_236 (dk dcX3_become_0 23 rfl) ?_
  refine v_aload_n C 0 (dk dcX3_become_0 24 rfl) rfl rfl ?_
  refine v_aload_n C 1 (dk dcX3_become_0 25 rfl) rfl rfl ?_
  refine gt_Moment_held C hd1 wd_239 (dk dcX3_become_0 26 rfl) ?_
  refine pt_Moment_held C hd0 wd_239 (dk dcX3_become_0 27 rfl) ?_
  cases h
  exact v_vret C rfl (dk dcX3_become_0 28 rfl)
set_option maxRecDepth 20000 in
set_option maxHeartbeats 4000000 in
theorem mtX9_obey {l : Launch} {E : WEt} {wx : va_W} (L : Nat) (hL : 2 ≤ L)  {g : STt} {d1 : Nat} (hd1 : d1 < 7) {g' : STt} (h : fX9_obey g d1 = some g') : MT l E yX9_obey cX9_obey 2 none (L + 1) [.ref (aE E 7 0), .ref (aE E 21 d1)] (cellsC E g ++ wx) (cellsC E g' ++ wx) none := by
  refine mt_of (by decide +kernel) (Nat.le_of_ble_eq_true rfl) ?_
  intro p e s m args below meth c C
  replace C : CX p s m args meth c cX9_obey 2 RX9 none E := C
  unfold fX9_obey at h
  refine vj_sub (lv' := [(0, .ref (aE E 7 0)), (1, .ref (aE E 21 d1))]) [0, 1] rfl ?_
  refine v_aload_n C 0 (dk dcX9_obey_0 0 rfl) rfl rfl ?_
  refine v_aload_n C 1 (dk dcX9_obey_0 1 rfl) rfl rfl ?_
  refine pt_Walk_law C wd_187 (dk dcX9_obey_0 2 rfl) ?_
  cases h
  exact v_vret C rfl (dk dcX9_obey_0 3 rfl)
set_option maxRecDepth 20000 in
set_option maxHeartbeats 4000000 in
theorem mtX10_undo {l : Launch} {E : WEt} {wx : va_W} (L : Nat) (hL : 5 ≤ L)  {g : STt} {g' : STt} {rr : Int32} (h : fX10_undo g = some (g', rr)) : MT l E yX10_undo cX10_undo 1 (some .int) (L + 1) [.ref (aE E 0 0)] (cellsC E g ++ wx) (cellsC E g' ++ wx) (some (.int rr)) := by
  refine mt_of (by decide +kernel) (Nat.le_of_ble_eq_true rfl) ?_
  intro p e s m args below meth c C
  replace C : CX p s m args meth c cX10_undo 1 RX10 (some .int) E := C
  unfold fX10_undo at h
  refine vj_sub (lv' := [(0, .ref (aE E 0 0))]) [0] rfl ?_
  refine v_aload_n C 0 (dk dcX10_undo_0 0 rfl) rfl rfl ?_
  refine gt_DB_imageTaken C wd_347 (dk dcX10_undo_0 1 rfl) ?_
  refine v_if_ne C 10 (dk dcX10_undo_0 2 rfl) (by decide) (fun c_1 => ?_) (fun c_1 => ?_)
  · replace h := if_f c_1 h
    refine v_aload_n C 0 (dk dcX10_undo_0 5 rfl) rfl rfl ?_
    refine gt_DB_present C wd_345 (dk dcX10_undo_0 6 rfl) ?_
    refine v_aload_n C 0 (dk dcX10_undo_0 7 rfl) rfl rfl ?_
    refine gt_DB_kept C wd_346 (dk dcX10_undo_0 8 rfl) ?_
    obtain ⟨g_3, h_2, h⟩ := bnd1_s h
    refine v_callV0 C (mtX3_become (L - 1) (by omega) (by decide) (by decide) h_2) wmX3_become wd_981 (by omega) (by decide) rfl _ (ce_Moment (by decide)) rfl rfl (Nat.le_of_ble_eq_true rfl) (dk dcX10_undo_0 9 rfl) ?_
    refine v_aload_n C 0 (dk dcX10_undo_0 10 rfl) rfl rfl ?_
    refine gt_DB_walk C wd_341 (dk dcX10_undo_0 11 rfl) ?_
    refine v_aload_n C 0 (dk dcX10_undo_0 12 rfl) rfl rfl ?_
    obtain ⟨r_5, h_4, h⟩ := bnd1_s h
    refine v_callV1 C (mtX10_heldLaw (L - 1) (by omega) h_4) wmX10_heldLaw wd_997 (by omega) (by decide) rfl _ (ce_DB) rfl rfl (Nat.le_of_ble_eq_true rfl) (dk dcX10_undo_0 13 rfl) ?_
    obtain ⟨b_6, h⟩ := gd_t h
    obtain ⟨g_8, h_7, h⟩ := bnd1_s h
    refine v_callV0 C (mtX9_obey (L - 1) (by omega) b_6 h_7) wmX9_obey wd_642 (by omega) (by decide) rfl _ (ce_Walk) rfl rfl (Nat.le_of_ble_eq_true rfl) (dk dcX10_undo_0 14 rfl) ?_
    refine v_aload_n C 0 (dk dcX10_undo_0 15 rfl) rfl rfl ?_
    refine gt_DB_present C wd_345 (dk dcX10_undo_0 16 rfl) ?_
    refine gt_Moment_donkey C (by decide) wd_227 (dk dcX10_undo_0 17 rfl) ?_
    refine v_bipush C 12 (dk dcX10_undo_0 18 rfl) kb_12 ?_
    obtain ⟨r_10, h_9, h⟩ := bnd1_s h
    refine v_callV1 C (mtX1_get (L - 1) (by omega) (by decide) h_9) wmX1_get wd_412 (by omega) (by decide) rfl _ (ce_Donkey (by decide)) rfl rfl (Nat.le_of_ble_eq_true rfl) (dk dcX10_undo_0 19 rfl) ?_
    cases h
    exact v_iret C rfl (dk dcX10_undo_0 20 rfl)
  · replace h := if_t c_1 h
    refine v_bipush C (-3) (dk dcX10_undo_0 3 rfl) kb_m3 ?_
    cases h
    exact v_iret C rfl (dk dcX10_undo_0 4 rfl)
set_option maxRecDepth 20000 in
set_option maxHeartbeats 4000000 in
theorem mtX0_kept {l : Launch} {E : WEt} {wx : va_W} (L : Nat) (hL : 3 ≤ L)  {g : STt} {x1 : Int32} {rr : Int32} (h : fX0_kept g x1 = some rr) : MT l E yX0_kept cX0_kept 2 (some .int) (L + 1) [.ref (aE E 14 0), .int x1] (cellsC E g ++ wx) (cellsC E g ++ wx) (some (.int rr)) := by
  refine mt_of (by decide +kernel) (Nat.le_of_ble_eq_true rfl) ?_
  intro p e s m args below meth c C
  replace C : CX p s m args meth c cX0_kept 2 RX0 (some .int) E := C
  unfold fX0_kept at h
  refine vj_sub (lv' := [(0, .ref (aE E 14 0)), (1, .int x1)]) [0, 1] rfl ?_
  refine v_aload_n C 0 (dk dcX0_kept_0 0 rfl) rfl rfl ?_
  refine gt_Bodies_numbers C wd_300 (dk dcX0_kept_0 1 rfl) ?_
  refine v_iload_n C 1 (dk dcX0_kept_0 2 rfl) rfl rfl ?_
  obtain ⟨r_2, h_1, h⟩ := bnd1_s h
  refine v_callV1 C (mtX5_get (L - 1) (by omega) (by decide) h_1) wmX5_get wd_1040 (by omega) (by decide) rfl _ (ce_Strip (by decide)) rfl rfl (Nat.le_of_ble_eq_true rfl) (dk dcX0_kept_0 3 rfl) ?_
  cases h
  exact v_iret C rfl (dk dcX0_kept_0 4 rfl)
set_option maxRecDepth 20000 in
set_option maxHeartbeats 4000000 in
theorem mtX10_trace {l : Launch} {E : WEt} {wx : va_W} (L : Nat) (hL : 4 ≤ L)  {g : STt} {x1 : Int32} {rr : Int32} (h : fX10_trace g x1 = some rr) : MT l E yX10_trace cX10_trace 2 (some .int) (L + 1) [.ref (aE E 0 0), .int x1] (cellsC E g ++ wx) (cellsC E g ++ wx) (some (.int rr)) := by
  refine mt_of (by decide +kernel) (Nat.le_of_ble_eq_true rfl) ?_
  intro p e s m args below meth c C
  replace C : CX p s m args meth c cX10_trace 2 RX10 (some .int) E := C
  unfold fX10_trace at h
  refine vj_sub (lv' := [(0, .ref (aE E 0 0)), (1, .int x1)]) [0, 1] rfl ?_
  refine v_aload_n C 0 (dk dcX10_trace_0 0 rfl) rfl rfl ?_
  refine gt_DB_bodies C wd_343 (dk dcX10_trace_0 1 rfl) ?_
  refine v_iload_n C 1 (dk dcX10_trace_0 2 rfl) rfl rfl ?_
  obtain ⟨r_2, h_1, h⟩ := bnd1_s h
  refine v_callV1 C (mtX0_kept (L - 1) (by omega) h_1) wmX0_kept wd_1036 (by omega) (by decide) rfl _ (ce_Bodies) rfl rfl (Nat.le_of_ble_eq_true rfl) (dk dcX10_trace_0 3 rfl) ?_
  cases h
  exact v_iret C rfl (dk dcX10_trace_0 4 rfl)
set_option maxRecDepth 20000 in
set_option maxHeartbeats 4000000 in
theorem mtX9_lastOf {l : Launch} {E : WEt} {wx : va_W} (L : Nat) (hL : 3 ≤ L)  {g : STt} {x1 : Int32} {rr : Int32} (h : fX9_lastOf g x1 = some rr) : MT l E yX9_lastOf cX9_lastOf 2 (some .int) (L + 1) [.ref (aE E 7 0), .int x1] (cellsC E g ++ wx) (cellsC E g ++ wx) (some (.int rr)) := by
  refine mt_of (by decide +kernel) (Nat.le_of_ble_eq_true rfl) ?_
  intro p e s m args below meth c C
  replace C : CX p s m args meth c cX9_lastOf 2 RX9 (some .int) E := C
  unfold fX9_lastOf at h
  refine vj_sub (lv' := [(0, .ref (aE E 7 0)), (1, .int x1)]) [0, 1] rfl ?_
  refine v_aload_n C 0 (dk dcX9_lastOf_0 0 rfl) rfl rfl ?_
  obtain ⟨b_1, h⟩ := gd_t h
  refine gt_Walk_law C wd_187 (dk dcX9_lastOf_0 1 rfl) ?_
  refine v_iload_n C 1 (dk dcX9_lastOf_0 2 rfl) rfl rfl ?_
  obtain ⟨r_3, h_2, h⟩ := bnd1_s h
  refine v_callV1 C (mtX2_last (L - 1) (by omega) b_1 h_2) wmX2_last wd_655 (by omega) (by decide) rfl _ (ce_Law b_1) rfl rfl (Nat.le_of_ble_eq_true rfl) (dk dcX9_lastOf_0 3 rfl) ?_
  cases h
  exact v_iret C rfl (dk dcX9_lastOf_0 4 rfl)
set_option maxRecDepth 20000 in
set_option maxHeartbeats 4000000 in
theorem mtX9_togetherOf {l : Launch} {E : WEt} {wx : va_W} (L : Nat) (hL : 4 ≤ L)  {g : STt} {d1 : Nat} (hd1 : d1 < 10) {x2 : Int32} {g' : STt} {rr : Int32} (h : fX9_togetherOf g d1 x2 = some (g', rr)) : MT l E yX9_togetherOf cX9_togetherOf 3 (some .int) (L + 1) [.ref (aE E 7 0), .ref (aE E 19 d1), .int x2] (cellsC E g ++ wx) (cellsC E g' ++ wx) (some (.int rr)) := by
  refine mt_of (by decide +kernel) (Nat.le_of_ble_eq_true rfl) ?_
  intro p e s m args below meth c C
  replace C : CX p s m args meth c cX9_togetherOf 3 RX9 (some .int) E := C
  unfold fX9_togetherOf at h
  refine vj_sub (lv' := [(0, .ref (aE E 7 0)), (1, .ref (aE E 19 d1)), (2, .int x2)]) [0, 1, 2] rfl ?_
  refine v_aload_n C 0 (dk dcX9_togetherOf_0 0 rfl) rfl rfl ?_
  refine v_aload_n C 1 (dk dcX9_togetherOf_0 1 rfl) rfl rfl ?_
  obtain ⟨g_2, h_1, h⟩ := bnd1_s h
  refine v_callV0 C (mtX9_lookAround (L - 1) (by omega) hd1 h_1) wmX9_lookAround wd_673 (by omega) (by decide) rfl _ (ce_Walk) rfl rfl (Nat.le_of_ble_eq_true rfl) (dk dcX9_togetherOf_0 2 rfl) ?_
  refine v_aload_n C 0 (dk dcX9_togetherOf_0 3 rfl) rfl rfl ?_
  obtain ⟨b_3, h⟩ := gd_t h
  refine gt_Walk_law C wd_187 (dk dcX9_togetherOf_0 4 rfl) ?_
  refine v_iload_n C 2 (dk dcX9_togetherOf_0 5 rfl) rfl rfl ?_
  refine v_aload_n C 0 (dk dcX9_togetherOf_0 6 rfl) rfl rfl ?_
  refine gt_Walk_facts C wd_188 (dk dcX9_togetherOf_0 7 rfl) ?_
  obtain ⟨r_5, h_4, h⟩ := bnd1_s h
  refine v_callV1 C (mtX2_together (L - 1) (by omega) b_3 h_4) wmX2_together wd_683 (by omega) (by decide) rfl _ (ce_Law b_3) rfl rfl (Nat.le_of_ble_eq_true rfl) (dk dcX9_togetherOf_0 8 rfl) ?_
  cases h
  exact v_iret C rfl (dk dcX9_togetherOf_0 9 rfl)
set_option maxRecDepth 20000 in
set_option maxHeartbeats 4000000 in
theorem mtX10_told {l : Launch} {E : WEt} {wx : va_W} (L : Nat) (hL : 5 ≤ L)  {g : STt} {x1 : Int32} {g' : STt} {rr : Int32} (h : fX10_told g x1 = some (g', rr)) : MT l E yX10_told cX10_told 2 (some .int) (L + 1) [.ref (aE E 0 0), .int x1] (cellsC E g ++ wx) (cellsC E g' ++ wx) (some (.int rr)) := by
  refine mt_of (by decide +kernel) (Nat.le_of_ble_eq_true rfl) ?_
  intro p e s m args below meth c C
  replace C : CX p s m args meth c cX10_told 2 RX10 (some .int) E := C
  unfold fX10_told at h
  refine vj_sub (lv' := [(0, .ref (aE E 0 0)), (1, .int x1)]) [0, 1] rfl ?_
  refine v_iload_n C 1 (dk dcX10_told_0 0 rfl) rfl rfl ?_
  refine v_if_lt C 10 (dk dcX10_told_0 1 rfl) (by decide) (fun c_1 => ?_) (fun c_1 => ?_)
  · replace h := if_t c_1 h
    refine v_iconst C (-1) (dk dcX10_told_0 5 rfl) ki_m1 ?_
    cases h
    exact v_iret C rfl (dk dcX10_told_0 6 rfl)
  · replace h := if_f c_1 h
    refine v_iload_n C 1 (dk dcX10_told_0 2 rfl) rfl rfl ?_
    refine v_bipush C 6 (dk dcX10_told_0 3 rfl) kb_6 ?_
    refine v_icmp_le C 12 (dk dcX10_told_0 4 rfl) (by decide) (fun c_2 => ?_) (fun c_2 => ?_)
    · replace h := if_t c_2 h
      refine v_iload_n C 1 (dk dcX10_told_0 7 rfl) rfl rfl ?_
      refine v_iconst C 2 (dk dcX10_told_0 8 rfl) ki_2 ?_
      refine v_icmp_le C 26 (dk dcX10_told_0 9 rfl) (by decide) (fun c_3 => ?_) (fun c_3 => ?_)
      · replace h := if_t c_3 h
        refine v_aload_n C 0 (dk dcX10_told_0 15 rfl) rfl rfl ?_
        obtain ⟨r_5, h_4, h⟩ := bnd1_s h
        refine v_callV1 C (mtX10_isOver (L - 1) (by omega) h_4) wmX10_isOver wd_659 (by omega) (by decide) rfl _ (ce_DB) rfl rfl (Nat.le_of_ble_eq_true rfl) (dk dcX10_told_0 16 rfl) ?_
        refine v_if_eq C 38 (dk dcX10_told_0 17 rfl) (by decide) (fun c_6 => ?_) (fun c_6 => ?_)
        · replace h := if_t c_6 h
          refine v_aload_n C 0 (dk dcX10_told_0 20 rfl) rfl rfl ?_
          refine gt_DB_walk C wd_341 (dk dcX10_told_0 21 rfl) ?_
          refine v_aload_n C 0 (dk dcX10_told_0 22 rfl) rfl rfl ?_
          refine gt_DB_present C wd_345 (dk dcX10_told_0 23 rfl) ?_
          refine gt_Moment_donkey C (by decide) wd_227 (dk dcX10_told_0 24 rfl) ?_
          refine v_iload_n C 1 (dk dcX10_told_0 25 rfl) rfl rfl ?_
          obtain ⟨g_8, r_9, h_7, h⟩ := bnd_s h
          refine v_callV1 C (mtX9_togetherOf (L - 1) (by omega) (by decide) h_7) wmX9_togetherOf wd_669 (by omega) (by decide) rfl _ (ce_Walk) rfl rfl (Nat.le_of_ble_eq_true rfl) (dk dcX10_told_0 26 rfl) ?_
          cases h
          exact v_iret C rfl (dk dcX10_told_0 27 rfl)
        · replace h := if_f c_6 h
          refine v_bipush C (-3) (dk dcX10_told_0 18 rfl) kb_m3 ?_
          refine v_goto C 53 (dk dcX10_told_0 19 rfl) (by decide) ?_
          cases h
          exact v_iret C rfl (dk dcX10_told_0 27 rfl)
      · replace h := if_f c_3 h
        refine v_aload_n C 0 (dk dcX10_told_0 10 rfl) rfl rfl ?_
        refine gt_DB_walk C wd_341 (dk dcX10_told_0 11 rfl) ?_
        refine v_iload_n C 1 (dk dcX10_told_0 12 rfl) rfl rfl ?_
        obtain ⟨r_5, h_4, h⟩ := bnd1_s h
        refine v_callV1 C (mtX9_lastOf (L - 1) (by omega) h_4) wmX9_lastOf wd_651 (by omega) (by decide) rfl _ (ce_Walk) rfl rfl (Nat.le_of_ble_eq_true rfl) (dk dcX10_told_0 13 rfl) ?_
        cases h
        exact v_iret C rfl (dk dcX10_told_0 14 rfl)
    · replace h := if_f c_2 h
      refine v_iconst C (-1) (dk dcX10_told_0 5 rfl) ki_m1 ?_
      cases h
      exact v_iret C rfl (dk dcX10_told_0 6 rfl)
set_option maxRecDepth 20000 in
set_option maxHeartbeats 4000000 in
theorem vX10_tapeOf_j22 {L : Nat} (hL : 2 ≤ L) (C : CX p s m args meth c cX10_tapeOf 2 RX10 (some (.object "DonkeyBridge$Tape")) E) {g : STt} (r : Option Nat) (h : fX10_tapeOf_j22 g = some r) : VJ p l e (rmL (L + 1)) s m args below meth c (QE below E (cellsC E g ++ wx) (some (oV E 26 r)) args s) E 2 (cellsC E g ++ wx) [] [] 22 := by
  unfold fX10_tapeOf_j22 at h
  refine v_null C (dk dcX10_tapeOf_0 12 rfl) ?_
  cases h
  exact v_aret C rfl ⟨_, rfl⟩ (Or.inl rfl) (dk dcX10_tapeOf_0 13 rfl)
set_option maxRecDepth 20000 in
set_option maxHeartbeats 4000000 in
theorem mtX10_tapeOf {l : Launch} {E : WEt} {wx : va_W} (L : Nat) (hL : 2 ≤ L)  {g : STt} {x1 : Int32} {rr : Option Nat} (h : fX10_tapeOf g x1 = some rr) : MT l E yX10_tapeOf cX10_tapeOf 2 (some (.object "DonkeyBridge$Tape")) (L + 1) [.ref (aE E 0 0), .int x1] (cellsC E g ++ wx) (cellsC E g ++ wx) (some (oV E 26 rr)) := by
  refine mt_of (by decide +kernel) (Nat.le_of_ble_eq_true rfl) ?_
  intro p e s m args below meth c C
  replace C : CX p s m args meth c cX10_tapeOf 2 RX10 (some (.object "DonkeyBridge$Tape")) E := C
  unfold fX10_tapeOf at h
  refine vj_sub (lv' := [(0, .ref (aE E 0 0)), (1, .int x1)]) [0, 1] rfl ?_
  refine v_iload_n C 1 (dk dcX10_tapeOf_0 0 rfl) rfl rfl ?_
  refine v_if_lt C 22 (dk dcX10_tapeOf_0 1 rfl) (by decide) (fun c_1 => ?_) (fun c_1 => ?_)
  · replace h := if_t c_1 h
    exact vj_sub [] rfl (vX10_tapeOf_j22 hL C _ h)
  · replace h := if_f c_1 h
    refine v_iload_n C 1 (dk dcX10_tapeOf_0 2 rfl) rfl rfl ?_
    refine v_aload_n C 0 (dk dcX10_tapeOf_0 3 rfl) rfl rfl ?_
    refine gt_DB_tapes C wd_344 (dk dcX10_tapeOf_0 4 rfl) ?_
    refine al_tapesArr C (dk dcX10_tapeOf_0 5 rfl) ?_
    refine v_icmp_ge C 22 (dk dcX10_tapeOf_0 6 rfl) (by decide) (fun c_2 => ?_) (fun c_2 => ?_)
    · replace h := if_t c_2 h
      exact vj_sub [] rfl (vX10_tapeOf_j22 hL C _ h)
    · replace h := if_f c_2 h
      refine v_aload_n C 0 (dk dcX10_tapeOf_0 7 rfl) rfl rfl ?_
      refine gt_DB_tapes C wd_344 (dk dcX10_tapeOf_0 8 rfl) ?_
      refine v_iload_n C 1 (dk dcX10_tapeOf_0 9 rfl) rfl rfl ?_
      obtain ⟨b_3, h⟩ := gd_t h
      refine ld_tapesArr C b_3 (dk dcX10_tapeOf_0 10 rfl) ?_
      refine v_goto C 23 (dk dcX10_tapeOf_0 11 rfl) (by decide) ?_
      cases h
      exact v_aret C rfl ⟨_, rfl⟩ (Or.inr ⟨_, rfl⟩) (dk dcX10_tapeOf_0 13 rfl)
set_option maxRecDepth 20000 in
set_option maxHeartbeats 4000000 in
theorem vJ7_fill_d0a16_l6c {L : Nat} (hL : 2 ≤ L) (C : CX p s m args meth c cJ7_fill_d0a16 5 RJ7 none E) {l0 : Nat} {l1 : Int64} {l4 : Int32} (hl0 : l0 < 6) {K6 : (STt × Int32) → Option STt} (hK6 : ∀ {g : STt} {l3 : Int32} (r : STt), K6 (g, l3) = some r → VJ p l e (rmL (L + 1)) s m args below meth c (QE below E (cellsC E r ++ wx) (none) args s) E 5 (cellsC E g ++ wx) [(0, .ref (aE E 27 l0)), (1, .long l1), (3, .int l3), (4, .int l4)] [] 6) {g : STt} {l3 : Int32} (r : STt) (h : fJ7_fill_d0a16_l6c K6 l0 l1 l4 g l3 = some r) : VJ p l e (rmL (L + 1)) s m args below meth c (QE below E (cellsC E r ++ wx) (none) args s) E 5 (cellsC E g ++ wx) [(0, .ref (aE E 27 l0)), (1, .long l1), (3, .int l3), (4, .int l4)] [] 6 := by
  unfold fJ7_fill_d0a16_l6c at h
  refine v_iload_n C 2 (dk dcJ7_fill_d0a16_0 5 rfl) rfl rfl ?_
  refine v_iload C 3 (dk dcJ7_fill_d0a16_0 6 rfl) rfl ?_
  refine v_icmp_ge C 22 (dk dcJ7_fill_d0a16_0 7 rfl) (by decide) (fun c_1 => ?_) (fun c_1 => ?_)
  · replace h := if_t c_1 h
    cases h
    exact v_vret C rfl (dk dcJ7_fill_d0a16_0 14 rfl)
  · replace h := if_f c_1 h
    refine v_aload_n C 0 (dk dcJ7_fill_d0a16_0 8 rfl) rfl rfl ?_
    refine v_iload_n C 2 (dk dcJ7_fill_d0a16_0 9 rfl) rfl rfl ?_
    refine v_lload_n C 1 (dk dcJ7_fill_d0a16_0 10 rfl) rfl rfl ?_
    obtain ⟨b_2, h⟩ := gd_t h
    refine st_tapeItems C hl0 b_2 (dk dcJ7_fill_d0a16_0 11 rfl) ?_
    refine v_iinc C (lv' := [(3, .int (l3 + 1)), (0, .ref (aE E 27 l0)), (1, .long l1), (4, .int l4)]) (l3 + 1) 2 (dk dcJ7_fill_d0a16_0 12 rfl) rfl (congrArg (fun z => l3 + z) ki_1) (by decide) rfl ?_
    refine v_goto C 6 (dk dcJ7_fill_d0a16_0 13 rfl) (by decide) ?_
    exact vj_sub [1, 2, 0, 3] rfl (hK6 _ h)
set_option maxRecDepth 20000 in
set_option maxHeartbeats 4000000 in
theorem vJ7_fill_d0a16_l6 {L : Nat} (hL : 2 ≤ L) (C : CX p s m args meth c cJ7_fill_d0a16 5 RJ7 none E) {l0 : Nat} {l1 : Int64} {l4 : Int32} (hl0 : l0 < 6) {g : STt} {l3 : Int32} (r : STt) (h : fJ7_fill_d0a16_l6 l0 l1 l4 g l3 = some r) : VJ p l e (rmL (L + 1)) s m args below meth c (QE below E (cellsC E r ++ wx) (none) args s) E 5 (cellsC E g ++ wx) [(0, .ref (aE E 27 l0)), (1, .long l1), (3, .int l3), (4, .int l4)] [] 6 :=
  iterO_ind (F := fun K z => fJ7_fill_d0a16_l6c K l0 l1 l4 z.1 z.2) (fun z r => VJ p l e (rmL (L + 1)) s m args below meth c (QE below E (cellsC E r ++ wx) (none) args s) E 5 (cellsC E z.1 ++ wx) [(0, .ref (aE E 27 l0)), (1, .long l1), (3, .int z.2), (4, .int l4)] [] 6) (fun K hK z r h => vJ7_fill_d0a16_l6c hL C hl0 (fun {g} {l3} r h => hK (g, l3) r h) r h) fuelN (g, l3) r h
set_option maxRecDepth 20000 in
set_option maxHeartbeats 4000000 in
theorem mtJ7_fill_d0a16 {l : Launch} {E : WEt} {wx : va_W} (L : Nat) (hL : 2 ≤ L)  {g : STt} {d0 : Nat} (hd0 : d0 < 6) {x1 : Int64} {g' : STt} (h : fJ7_fill_d0a16 g d0 x1 = some g') : MT l E yJ7_fill_d0a16 cJ7_fill_d0a16 5 none (L + 1) [.ref (aE E 27 d0), .long x1] (cellsC E g ++ wx) (cellsC E g' ++ wx) none := by
  refine mt_of (by decide +kernel) (Nat.le_of_ble_eq_true rfl) ?_
  intro p e s m args below meth c C
  replace C : CX p s m args meth c cJ7_fill_d0a16 5 RJ7 none E := C
  unfold fJ7_fill_d0a16 at h
  refine vj_sub (lv' := [(0, .ref (aE E 27 d0)), (1, .long x1)]) [0, 1] rfl ?_
  refine v_iconst C 0 (dk dcJ7_fill_d0a16_0 0 rfl) ki_0 ?_
  refine v_istore_n C (lv' := [(3, .int 0), (0, .ref (aE E 27 d0)), (1, .long x1)]) (dk dcJ7_fill_d0a16_0 1 rfl) rfl (by decide) rfl ?_
  refine v_aload_n C 1 (dk dcJ7_fill_d0a16_0 2 rfl) rfl rfl ?_
  refine al_tapeItems C hd0 (dk dcJ7_fill_d0a16_0 3 rfl) ?_
  refine v_istore C (lv' := [(4, .int 60), (3, .int 0), (0, .ref (aE E 27 d0)), (1, .long x1)]) (dk dcJ7_fill_d0a16_0 4 rfl) (by decide) rfl ?_
  exact vj_sub [2, 3, 1, 0] rfl (vJ7_fill_d0a16_l6 hL C hd0 _ h)
set_option maxRecDepth 20000 in
set_option maxHeartbeats 4000000 in
theorem mtX6_renew {l : Launch} {E : WEt} {wx : va_W} (L : Nat) (hL : 3 ≤ L)  {g : STt} {d0 : Nat} (hd0 : d0 < 6) {x1 : Int32} {x2 : Int32} {g' : STt} (h : fX6_renew g d0 x1 x2 = some g') : MT l E yX6_renew cX6_renew 3 none (L + 1) [.ref (aE E 26 d0), .int x1, .int x2] (cellsC E g ++ wx) (cellsC E g' ++ wx) none := by
  refine mt_of (by decide +kernel) (Nat.le_of_ble_eq_true rfl) ?_
  intro p e s m args below meth c C
  replace C : CX p s m args meth c cX6_renew 3 RX6 none E := C
  unfold fX6_renew at h
  refine vj_sub (lv' := [(0, .ref (aE E 26 d0)), (1, .int x1), (2, .int x2)]) [0, 1, 2] rfl ?_
  refine v_aload_n C 0 (dk dcX6_renew_0 0 rfl) rfl rfl ?_
  refine v_iload_n C 1 (dk dcX6_renew_0 1 rfl) rfl rfl ?_
  refine pt_Tape_sort C hd0 wd_326 (dk dcX6_renew_0 2 rfl) ?_
  refine v_aload_n C 0 (dk dcX6_renew_0 3 rfl) rfl rfl ?_
  refine v_iconst C 0 (dk dcX6_renew_0 4 rfl) ki_0 ?_
  refine v_bipush C 60 (dk dcX6_renew_0 5 rfl) kb_60 ?_
  refine v_iload_n C 2 (dk dcX6_renew_0 6 rfl) rfl rfl ?_
  refine v_mmin C (by omega) wd_1065 wn_minS wn_math wn_minC (Nat.le_of_ble_eq_true rfl) (dk dcX6_renew_0 7 rfl) ?_
  refine v_mmax C (by omega) wd_1066 wn_maxS wn_math wn_maxC (Nat.le_of_ble_eq_true rfl) (dk dcX6_renew_0 8 rfl) ?_
  refine pt_Tape_size C hd0 wd_327 (dk dcX6_renew_0 9 rfl) ?_
  refine v_aload_n C 0 (dk dcX6_renew_0 10 rfl) rfl rfl ?_
  refine gt_Tape_items C hd0 wd_325 (dk dcX6_renew_0 11 rfl) ?_
  refine v_lconst C 0 (dk dcX6_renew_0 12 rfl) rfl ?_
  obtain ⟨g_2, h_1, h⟩ := bnd1_s h
  refine v_callS0 C (mtJ7_fill_d0a16 (L - 1) (by omega) hd0 h_1) wmJ7_fill_d0a16 wd_1067 (by omega) (by decide) rfl rfl (Nat.le_of_ble_eq_true rfl) (dk dcX6_renew_0 13 rfl) ?_
  cases h
  exact v_vret C rfl (dk dcX6_renew_0 14 rfl)
set_option maxRecDepth 20000 in
set_option maxHeartbeats 4000000 in
theorem mtX10_tape {l : Launch} {E : WEt} {wx : va_W} (L : Nat) (hL : 4 ≤ L)  {g : STt} {x1 : Int32} {x2 : Int32} {x3 : Int32} {g' : STt} {rr : Int32} (h : fX10_tape g x1 x2 x3 = some (g', rr)) : MT l E yX10_tape cX10_tape 5 (some .int) (L + 1) [.ref (aE E 0 0), .int x1, .int x2, .int x3] (cellsC E g ++ wx) (cellsC E g' ++ wx) (some (.int rr)) := by
  refine mt_of (by decide +kernel) (Nat.le_of_ble_eq_true rfl) ?_
  intro p e s m args below meth c C
  replace C : CX p s m args meth c cX10_tape 5 RX10 (some .int) E := C
  unfold fX10_tape at h
  refine vj_sub (lv' := [(0, .ref (aE E 0 0)), (1, .int x1), (2, .int x2), (3, .int x3)]) [0, 1, 2, 3] rfl ?_
  refine v_aload_n C 0 (dk dcX10_tape_0 0 rfl) rfl rfl ?_
  refine v_iload_n C 1 (dk dcX10_tape_0 1 rfl) rfl rfl ?_
  obtain ⟨r_2, h_1, h⟩ := bnd1_s h
  refine v_callV1 C (mtX10_tapeOf (L - 1) (by omega) h_1) wmX10_tapeOf wd_952 (by omega) (by decide) rfl _ (ce_DB) rfl rfl (Nat.le_of_ble_eq_true rfl) (dk dcX10_tape_0 2 rfl) ?_
  rcases r_2 with _ | q_4
  · dsimp only [ocase] at h
    refine v_astoreN C (lv' := [(4, .null), (0, .ref (aE E 0 0)), (1, .int x1), (2, .int x2), (3, .int x3)]) (dk dcX10_tape_0 3 rfl) (by decide) rfl ?_
    refine v_aloadN C 0 (dk dcX10_tape_0 4 rfl) rfl ?_
    refine v_ifnonnullN C (dk dcX10_tape_0 5 rfl) ?_
    refine v_iconst C (-1) (dk dcX10_tape_0 6 rfl) ki_m1 ?_
    cases h
    exact v_iret C rfl (dk dcX10_tape_0 7 rfl)
  · dsimp only [ocase] at h
    obtain ⟨b_3, h⟩ := gd_t h
    refine v_astore C (lv' := [(4, .ref (aE E 26 q_4)), (0, .ref (aE E 0 0)), (1, .int x1), (2, .int x2), (3, .int x3)]) (dk dcX10_tape_0 3 rfl) (by decide) rfl ?_
    refine v_aload C 0 (dk dcX10_tape_0 4 rfl) rfl ?_
    refine v_ifnonnull C 14 (dk dcX10_tape_0 5 rfl) (by decide) ?_
    refine v_iload_n C 3 (dk dcX10_tape_0 8 rfl) rfl rfl ?_
    refine v_iconst C (-1) (dk dcX10_tape_0 9 rfl) ki_m1 ?_
    refine v_icmp_ne C 28 (dk dcX10_tape_0 10 rfl) (by decide) (fun c_5 => ?_) (fun c_5 => ?_)
    · replace h := if_f c_5 h
      refine v_iload_n C 3 (dk dcX10_tape_0 17 rfl) rfl rfl ?_
      refine v_if_lt C 43 (dk dcX10_tape_0 18 rfl) (by decide) (fun c_6 => ?_) (fun c_6 => ?_)
      · replace h := if_t c_6 h
        refine v_bipush C (-2) (dk dcX10_tape_0 25 rfl) kb_m2 ?_
        cases h
        exact v_iret C rfl (dk dcX10_tape_0 26 rfl)
      · replace h := if_f c_6 h
        refine v_iload_n C 3 (dk dcX10_tape_0 19 rfl) rfl rfl ?_
        refine v_iconst C 4 (dk dcX10_tape_0 20 rfl) ki_4 ?_
        refine v_icmp_gt C 43 (dk dcX10_tape_0 21 rfl) (by decide) (fun c_7 => ?_) (fun c_7 => ?_)
        · replace h := if_t c_7 h
          refine v_bipush C (-2) (dk dcX10_tape_0 25 rfl) kb_m2 ?_
          cases h
          exact v_iret C rfl (dk dcX10_tape_0 26 rfl)
        · replace h := if_f c_7 h
          refine v_iload_n C 4 (dk dcX10_tape_0 22 rfl) rfl rfl ?_
          refine v_bipush C 60 (dk dcX10_tape_0 23 rfl) kb_60 ?_
          refine v_icmp_le C 46 (dk dcX10_tape_0 24 rfl) (by decide) (fun c_8 => ?_) (fun c_8 => ?_)
          · replace h := if_t c_8 h
            refine v_iload_n C 4 (dk dcX10_tape_0 27 rfl) rfl rfl ?_
            refine v_if_ge C 53 (dk dcX10_tape_0 28 rfl) (by decide) (fun c_9 => ?_) (fun c_9 => ?_)
            · replace h := if_t c_9 h
              refine v_aload C 0 (dk dcX10_tape_0 31 rfl) rfl ?_
              refine v_iload_n C 3 (dk dcX10_tape_0 32 rfl) rfl rfl ?_
              refine v_iload_n C 4 (dk dcX10_tape_0 33 rfl) rfl rfl ?_
              obtain ⟨g_11, h_10, h⟩ := bnd1_s h
              refine v_callV0 C (mtX6_renew (L - 1) (by omega) b_3 h_10) wmX6_renew wd_1061 (by omega) (by decide) rfl _ (ce_Tape b_3) rfl rfl (Nat.le_of_ble_eq_true rfl) (dk dcX10_tape_0 34 rfl) ?_
              refine v_iconst C 1 (dk dcX10_tape_0 35 rfl) ki_1 ?_
              cases h
              exact v_iret C rfl (dk dcX10_tape_0 36 rfl)
            · replace h := if_f c_9 h
              refine v_bipush C (-14) (dk dcX10_tape_0 29 rfl) kb_m14 ?_
              cases h
              exact v_iret C rfl (dk dcX10_tape_0 30 rfl)
          · replace h := if_f c_8 h
            refine v_bipush C (-2) (dk dcX10_tape_0 25 rfl) kb_m2 ?_
            cases h
            exact v_iret C rfl (dk dcX10_tape_0 26 rfl)
    · replace h := if_t c_5 h
      refine v_aload C 0 (dk dcX10_tape_0 11 rfl) rfl ?_
      refine v_iconst C (-1) (dk dcX10_tape_0 12 rfl) ki_m1 ?_
      refine v_iconst C 0 (dk dcX10_tape_0 13 rfl) ki_0 ?_
      obtain ⟨g_7, h_6, h⟩ := bnd1_s h
      refine v_callV0 C (mtX6_renew (L - 1) (by omega) b_3 h_6) wmX6_renew wd_1061 (by omega) (by decide) rfl _ (ce_Tape b_3) rfl rfl (Nat.le_of_ble_eq_true rfl) (dk dcX10_tape_0 14 rfl) ?_
      refine v_iconst C 1 (dk dcX10_tape_0 15 rfl) ki_1 ?_
      cases h
      exact v_iret C rfl (dk dcX10_tape_0 16 rfl)
set_option maxRecDepth 20000 in
set_option maxHeartbeats 4000000 in
theorem mtX4_aboveOf {l : Launch} {E : WEt} {wx : va_W} (L : Nat) (hL : 2 ≤ L)  {g : STt} {x0 : Int32} {rr : Int32} (h : fX4_aboveOf g x0 = some rr) : MT l E yX4_aboveOf cX4_aboveOf 1 (some .int) (L + 1) [.int x0] (cellsC E g ++ wx) (cellsC E g ++ wx) (some (.int rr)) := by
  refine mt_of (by decide +kernel) (Nat.le_of_ble_eq_true rfl) ?_
  intro p e s m args below meth c C
  replace C : CX p s m args meth c cX4_aboveOf 1 RX4 (some .int) E := C
  unfold fX4_aboveOf at h
  refine vj_sub (lv' := [(0, .int x0)]) [0] rfl ?_
  refine v_iload_n C 0 (dk dcX4_aboveOf_0 0 rfl) rfl rfl ?_
  refine v_if_lt C 20 (dk dcX4_aboveOf_0 1 rfl) (by decide) (fun c_1 => ?_) (fun c_1 => ?_)
  · replace h := if_t c_1 h
    refine v_iconst C (-1) (dk dcX4_aboveOf_0 10 rfl) ki_m1 ?_
    cases h
    exact v_iret C rfl (dk dcX4_aboveOf_0 11 rfl)
  · replace h := if_f c_1 h
    refine v_iload_n C 0 (dk dcX4_aboveOf_0 2 rfl) rfl rfl ?_
    refine v_gets C C.2.2.2.2.2.2.1.2.1.1 wd_1025 rfl (dk dcX4_aboveOf_0 3 rfl) ?_
    refine v_tlen C C.2.2.2.2.2.2.1.2.1.2 (v := 7) rfl (dk dcX4_aboveOf_0 4 rfl) ?_
    refine v_icmp_ge C 20 (dk dcX4_aboveOf_0 5 rfl) (by decide) (fun c_2 => ?_) (fun c_2 => ?_)
    · replace h := if_t c_2 h
      refine v_iconst C (-1) (dk dcX4_aboveOf_0 10 rfl) ki_m1 ?_
      cases h
      exact v_iret C rfl (dk dcX4_aboveOf_0 11 rfl)
    · replace h := if_f c_2 h
      refine v_gets C C.2.2.2.2.2.2.1.2.1.1 wd_1025 rfl (dk dcX4_aboveOf_0 6 rfl) ?_
      refine v_iload_n C 0 (dk dcX4_aboveOf_0 7 rfl) rfl rfl ?_
      obtain ⟨b_3, h⟩ := gd_t h
      refine v_ti C C.2.2.2.2.2.2.1.2.1.2 (inB_in b_3) (dk dcX4_aboveOf_0 8 rfl) ?_
      refine v_goto C 21 (dk dcX4_aboveOf_0 9 rfl) (by decide) ?_
      cases h
      exact v_iret C rfl (dk dcX4_aboveOf_0 11 rfl)
set_option maxRecDepth 20000 in
set_option maxHeartbeats 4000000 in
theorem vX4_isUnder_l4c {L : Nat} (hL : 3 ≤ L) (C : CX p s m args meth c cX4_isUnder 4 RX4 (some .boolean) E) {g : STt} {l1 : Int32} {K4 : (Int32 × Int32) → Option Int32} (hK4 : ∀ {l2 : Int32} {l3 : Int32} (r : Int32), K4 (l2, l3) = some r → VJ p l e (rmL (L + 1)) s m args below meth c (QE below E (cellsC E g ++ wx) (some (.int r)) args s) E 4 (cellsC E g ++ wx) [(1, .int l1), (2, .int l2), (3, .int l3)] [] 4) {l2 : Int32} {l3 : Int32} (r : Int32) (h : fX4_isUnder_l4c K4 g l1 l2 l3 = some r) : VJ p l e (rmL (L + 1)) s m args below meth c (QE below E (cellsC E g ++ wx) (some (.int r)) args s) E 4 (cellsC E g ++ wx) [(1, .int l1), (2, .int l2), (3, .int l3)] [] 4 := by
  unfold fX4_isUnder_l4c at h
  refine v_iload_n C 2 (dk dcX4_isUnder_0 4 rfl) rfl rfl ?_
  refine v_gets C C.2.2.2.2.2.2.1.2.1.1 wd_1025 rfl (dk dcX4_isUnder_0 5 rfl) ?_
  refine v_tlen C C.2.2.2.2.2.2.1.2.1.2 (v := 7) rfl (dk dcX4_isUnder_0 6 rfl) ?_
  refine v_icmp_ge C 34 (dk dcX4_isUnder_0 7 rfl) (by decide) (fun c_1 => ?_) (fun c_1 => ?_)
  · replace h := if_t c_1 h
    refine v_iconst C 0 (dk dcX4_isUnder_0 20 rfl) ki_0 ?_
    cases h
    exact v_zret C (x := 0) rfl rfl (dk dcX4_isUnder_0 21 rfl)
  · replace h := if_f c_1 h
    refine v_iload_n C 1 (dk dcX4_isUnder_0 8 rfl) rfl rfl ?_
    refine v_if_lt C 34 (dk dcX4_isUnder_0 9 rfl) (by decide) (fun c_2 => ?_) (fun c_2 => ?_)
    · replace h := if_t c_2 h
      refine v_iconst C 0 (dk dcX4_isUnder_0 20 rfl) ki_0 ?_
      cases h
      exact v_zret C (x := 0) rfl rfl (dk dcX4_isUnder_0 21 rfl)
    · replace h := if_f c_2 h
      refine v_iload_n C 1 (dk dcX4_isUnder_0 10 rfl) rfl rfl ?_
      refine v_iload_n C 0 (dk dcX4_isUnder_0 11 rfl) rfl rfl ?_
      refine v_icmp_ne C 23 (dk dcX4_isUnder_0 12 rfl) (by decide) (fun c_3 => ?_) (fun c_3 => ?_)
      · replace h := if_f c_3 h
        refine v_iload_n C 1 (dk dcX4_isUnder_0 15 rfl) rfl rfl ?_
        obtain ⟨r_5, h_4, h⟩ := bnd1_s h
        refine v_callS1 C (mtX4_aboveOf (L - 1) (by omega) h_4) wmX4_aboveOf wd_1048 (by omega) (by decide) rfl rfl (Nat.le_of_ble_eq_true rfl) (dk dcX4_isUnder_0 16 rfl) ?_
        refine v_istore_n C (lv' := [(2, .int r_5), (1, .int l1), (3, .int l3)]) (dk dcX4_isUnder_0 17 rfl) rfl (by decide) rfl ?_
        refine v_iinc C (lv' := [(3, .int (l3 + 1)), (2, .int r_5), (1, .int l1)]) (l3 + 1) 2 (dk dcX4_isUnder_0 18 rfl) rfl (congrArg (fun z => l3 + z) ki_1) (by decide) rfl ?_
        refine v_goto C 4 (dk dcX4_isUnder_0 19 rfl) (by decide) ?_
        exact vj_sub [2, 1, 0] rfl (hK4 _ h)
      · replace h := if_t c_3 h
        refine v_iconst C 1 (dk dcX4_isUnder_0 13 rfl) ki_1 ?_
        cases h
        exact v_zret C (x := 1) rfl rfl (dk dcX4_isUnder_0 14 rfl)
set_option maxRecDepth 20000 in
set_option maxHeartbeats 4000000 in
theorem vX4_isUnder_l4 {L : Nat} (hL : 3 ≤ L) (C : CX p s m args meth c cX4_isUnder 4 RX4 (some .boolean) E) {g : STt} {l1 : Int32} {l2 : Int32} {l3 : Int32} (r : Int32) (h : fX4_isUnder_l4 g l1 l2 l3 = some r) : VJ p l e (rmL (L + 1)) s m args below meth c (QE below E (cellsC E g ++ wx) (some (.int r)) args s) E 4 (cellsC E g ++ wx) [(1, .int l1), (2, .int l2), (3, .int l3)] [] 4 :=
  iterO_ind (F := fun K z => fX4_isUnder_l4c K g l1 z.1 z.2) (fun z r => VJ p l e (rmL (L + 1)) s m args below meth c (QE below E (cellsC E g ++ wx) (some (.int r)) args s) E 4 (cellsC E g ++ wx) [(1, .int l1), (2, .int z.1), (3, .int z.2)] [] 4) (fun K hK z r h => vX4_isUnder_l4c hL C (fun {l2} {l3} r h => hK (l2, l3) r h) r h) fuelN (l2, l3) r h
set_option maxRecDepth 20000 in
set_option maxHeartbeats 4000000 in
theorem mtX4_isUnder {l : Launch} {E : WEt} {wx : va_W} (L : Nat) (hL : 3 ≤ L)  {g : STt} {x0 : Int32} {x1 : Int32} {rr : Int32} (h : fX4_isUnder g x0 x1 = some rr) : MT l E yX4_isUnder cX4_isUnder 4 (some .boolean) (L + 1) [.int x0, .int x1] (cellsC E g ++ wx) (cellsC E g ++ wx) (some (.int rr)) := by
  refine mt_of (by decide +kernel) (Nat.le_of_ble_eq_true rfl) ?_
  intro p e s m args below meth c C
  replace C : CX p s m args meth c cX4_isUnder 4 RX4 (some .boolean) E := C
  unfold fX4_isUnder at h
  refine vj_sub (lv' := [(0, .int x0), (1, .int x1)]) [0, 1] rfl ?_
  refine v_iload_n C 0 (dk dcX4_isUnder_0 0 rfl) rfl rfl ?_
  refine v_istore_n C (lv' := [(2, .int x0), (0, .int x0), (1, .int x1)]) (dk dcX4_isUnder_0 1 rfl) rfl (by decide) rfl ?_
  refine v_iconst C 0 (dk dcX4_isUnder_0 2 rfl) ki_0 ?_
  refine v_istore_n C (lv' := [(3, .int 0), (2, .int x0), (0, .int x0), (1, .int x1)]) (dk dcX4_isUnder_0 3 rfl) rfl (by decide) rfl ?_
  exact vj_sub [3, 1, 0] rfl (vX4_isUnder_l4 hL C _ h)
set_option maxRecDepth 20000 in
set_option maxHeartbeats 4000000 in
theorem mtX10_taken {l : Launch} {E : WEt} {wx : va_W} (L : Nat) (hL : 4 ≤ L)  {g : STt} {x1 : Int32} {x2 : Int32} {rr : Int32} (h : fX10_taken g x1 x2 = some rr) : MT l E yX10_taken cX10_taken 4 (some .int) (L + 1) [.ref (aE E 0 0), .int x1, .int x2] (cellsC E g ++ wx) (cellsC E g ++ wx) (some (.int rr)) := by
  refine mt_of (by decide +kernel) (Nat.le_of_ble_eq_true rfl) ?_
  intro p e s m args below meth c C
  replace C : CX p s m args meth c cX10_taken 4 RX10 (some .int) E := C
  unfold fX10_taken at h
  refine vj_sub (lv' := [(0, .ref (aE E 0 0)), (1, .int x1), (2, .int x2)]) [0, 1, 2] rfl ?_
  refine v_iload_n C 2 (dk dcX10_taken_0 0 rfl) rfl rfl ?_
  refine v_if_lt C 10 (dk dcX10_taken_0 1 rfl) (by decide) (fun c_1 => ?_) (fun c_1 => ?_)
  · replace h := if_t c_1 h
    refine v_bipush C (-2) (dk dcX10_taken_0 5 rfl) kb_m2 ?_
    cases h
    exact v_iret C rfl (dk dcX10_taken_0 6 rfl)
  · replace h := if_f c_1 h
    refine v_iload_n C 2 (dk dcX10_taken_0 2 rfl) rfl rfl ?_
    refine v_bipush C 6 (dk dcX10_taken_0 3 rfl) kb_6 ?_
    refine v_icmp_le C 13 (dk dcX10_taken_0 4 rfl) (by decide) (fun c_2 => ?_) (fun c_2 => ?_)
    · replace h := if_t c_2 h
      refine v_aload_n C 0 (dk dcX10_taken_0 7 rfl) rfl rfl ?_
      refine gt_DB_road C wd_336 (dk dcX10_taken_0 8 rfl) ?_
      refine v_iload_n C 1 (dk dcX10_taken_0 9 rfl) rfl rfl ?_
      obtain ⟨r_4, h_3, h⟩ := bnd1_s h
      refine v_callV1 C (mtX4_has (L - 1) (by omega) h_3) wmX4_has wd_389 (by omega) (by decide) rfl _ (ce_Road) rfl rfl (Nat.le_of_ble_eq_true rfl) (dk dcX10_taken_0 10 rfl) ?_
      refine v_if_ne C 27 (dk dcX10_taken_0 11 rfl) (by decide) (fun c_5 => ?_) (fun c_5 => ?_)
      · replace h := if_f c_5 h
        refine v_aload_n C 0 (dk dcX10_taken_0 14 rfl) rfl rfl ?_
        refine gt_DB_road C wd_336 (dk dcX10_taken_0 15 rfl) ?_
        refine v_iload_n C 1 (dk dcX10_taken_0 16 rfl) rfl rfl ?_
        obtain ⟨r_7, h_6, h⟩ := bnd1_s h
        refine v_callV1 C (mtX4_kindOf (L - 1) (by omega) h_6) wmX4_kindOf wd_393 (by omega) (by decide) rfl _ (ce_Road) rfl rfl (Nat.le_of_ble_eq_true rfl) (dk dcX10_taken_0 17 rfl) ?_
        refine v_istore_n C (lv' := [(3, .int r_7), (0, .ref (aE E 0 0)), (1, .int x1), (2, .int x2)]) (dk dcX10_taken_0 18 rfl) rfl (by decide) rfl ?_
        refine v_iload_n C 0 (dk dcX10_taken_0 19 rfl) rfl rfl ?_
        refine v_iload_n C 3 (dk dcX10_taken_0 20 rfl) rfl rfl ?_
        obtain ⟨r_9, h_8, h⟩ := bnd1_s h
        refine v_callS1 C (mtX4_isUnder (L - 1) (by omega) h_8) wmX4_isUnder wd_1045 (by omega) (by decide) rfl rfl (Nat.le_of_ble_eq_true rfl) (dk dcX10_taken_0 21 rfl) ?_
        refine v_if_eq C 48 (dk dcX10_taken_0 22 rfl) (by decide) (fun c_10 => ?_) (fun c_10 => ?_)
        · replace h := if_t c_10 h
          refine v_bipush C (-12) (dk dcX10_taken_0 25 rfl) kb_m12 ?_
          cases h
          exact v_iret C rfl (dk dcX10_taken_0 26 rfl)
        · replace h := if_f c_10 h
          refine v_iload_n C 0 (dk dcX10_taken_0 23 rfl) rfl rfl ?_
          refine v_goto C 50 (dk dcX10_taken_0 24 rfl) (by decide) ?_
          cases h
          exact v_iret C rfl (dk dcX10_taken_0 26 rfl)
      · replace h := if_t c_5 h
        refine v_bipush C (-11) (dk dcX10_taken_0 12 rfl) kb_m11 ?_
        cases h
        exact v_iret C rfl (dk dcX10_taken_0 13 rfl)
    · replace h := if_f c_2 h
      refine v_bipush C (-2) (dk dcX10_taken_0 5 rfl) kb_m2 ?_
      cases h
      exact v_iret C rfl (dk dcX10_taken_0 6 rfl)
set_option maxRecDepth 20000 in
set_option maxHeartbeats 4000000 in
theorem mtX8_stageAfter {l : Launch} {E : WEt} {wx : va_W} (L : Nat) (hL : 3 ≤ L)  {g : STt} {x1 : Int32} {g' : STt} {rr : Nat} (h : fX8_stageAfter g x1 = some (g', rr)) : MT l E yX8_stageAfter cX8_stageAfter 3 (some (.object "DonkeyBridge$Donkey")) (L + 1) [.ref (aE E 10 0), .int x1] (cellsC E g ++ wx) (cellsC E g' ++ wx) (some (.ref (aE E 19 rr))) := by
  refine mt_of (by decide +kernel) (Nat.le_of_ble_eq_true rfl) ?_
  intro p e s m args below meth c C
  replace C : CX p s m args meth c cX8_stageAfter 3 RX8 (some (.object "DonkeyBridge$Donkey")) E := C
  unfold fX8_stageAfter at h
  refine vj_sub (lv' := [(0, .ref (aE E 10 0)), (1, .int x1)]) [0, 1] rfl ?_
  refine v_aload_n C 0 (dk dcX8_stageAfter_0 0 rfl) rfl rfl ?_
  refine v_iload_n C 1 (dk dcX8_stageAfter_0 1 rfl) rfl rfl ?_
  refine v_iconst C 1 (dk dcX8_stageAfter_0 2 rfl) ki_1 ?_
  refine v_iadd C (dk dcX8_stageAfter_0 3 rfl) ?_
  obtain ⟨r_2, h_1, h⟩ := bnd1_s h
  refine v_callV1 C (mtX8_stage (L - 1) (by omega) h_1) wmX8_stage wd_781 (by omega) (by decide) rfl _ (ce_Trial) rfl rfl (Nat.le_of_ble_eq_true rfl) (dk dcX8_stageAfter_0 4 rfl) ?_
  obtain ⟨b_3, h⟩ := gd_t h
  refine v_astore_n C (lv' := [(2, .ref (aE E 19 r_2)), (0, .ref (aE E 10 0)), (1, .int x1)]) (dk dcX8_stageAfter_0 5 rfl) rfl (by decide) rfl ?_
  refine v_aload_n C 0 (dk dcX8_stageAfter_0 6 rfl) rfl rfl ?_
  refine v_aload_n C 1 (dk dcX8_stageAfter_0 7 rfl) rfl rfl ?_
  refine v_iload_n C 2 (dk dcX8_stageAfter_0 8 rfl) rfl rfl ?_
  obtain ⟨r_5, h_4, h⟩ := bnd1_s h
  refine v_callV1 C (mtX8_stage (L - 1) (by omega) h_4) wmX8_stage wd_781 (by omega) (by decide) rfl _ (ce_Trial) rfl rfl (Nat.le_of_ble_eq_true rfl) (dk dcX8_stageAfter_0 9 rfl) ?_
  obtain ⟨b_6, h⟩ := gd_t h
  obtain ⟨g_8, h_7, h⟩ := bnd1_s h
  refine v_callV0 C (mtX1_become (L - 1) (by omega) b_3 b_6 h_7) wmX1_become wd_785 (by omega) (by decide) rfl _ (ce_Donkey b_3) rfl rfl (Nat.le_of_ble_eq_true rfl) (dk dcX8_stageAfter_0 10 rfl) ?_
  refine v_aload_n C 0 (dk dcX8_stageAfter_0 11 rfl) rfl rfl ?_
  cases h
  exact v_aret C rfl ⟨_, rfl⟩ (Or.inr ⟨_, rfl⟩) (dk dcX8_stageAfter_0 12 rfl)
set_option maxRecDepth 20000 in
set_option maxHeartbeats 4000000 in
theorem vX8_waysFrom_j11 {L : Nat} (hL : 6 ≤ L) {qX8_waysFrom : STt → Int32 → Int32 → Option (STt × Int64)} {qX8_waysWith : STt → Int32 → Int32 → Int32 → Option (STt × Int64)} (hcX8_waysFrom : ∀ {g : STt} {x1 : Int32} {x2 : Int32} {g' : STt} {rr : Int64}, qX8_waysFrom g x1 x2 = some (g', rr) → MT l E yX8_waysFrom cX8_waysFrom 4 (some .long) (L) [.ref (aE E 10 0), .int x1, .int x2] (cellsC E g ++ wx) (cellsC E g' ++ wx) (some (.long rr))) (hcX8_waysWith : ∀ {g : STt} {x1 : Int32} {x2 : Int32} {x3 : Int32} {g' : STt} {rr : Int64}, qX8_waysWith g x1 x2 x3 = some (g', rr) → MT l E yX8_waysWith cX8_waysWith 4 (some .long) (L) [.ref (aE E 10 0), .int x1, .int x2, .int x3] (cellsC E g ++ wx) (cellsC E g' ++ wx) (some (.long rr))) (C : CX p s m args meth c cX8_waysFrom 4 RX8 (some .long) E) {g : STt} {l1 : Int32} (r : STt × Int64) (h : fX8_waysFrom_j11 qX8_waysFrom qX8_waysWith g l1 = some r) : VJ p l e (rmL (L + 1)) s m args below meth c (QE below E (cellsC E r.1 ++ wx) (some (.long r.2)) args s) E 4 (cellsC E g ++ wx) [(0, .ref (aE E 10 0)), (1, .int l1)] [] 11 := by
  unfold fX8_waysFrom_j11 at h
  refine v_aload_n C 0 (dk dcX8_waysFrom_0 6 rfl) rfl rfl ?_
  refine v_iload_n C 1 (dk dcX8_waysFrom_0 7 rfl) rfl rfl ?_
  obtain ⟨r_2, h_1, h⟩ := bnd1_s h
  refine v_callV1 C (mtX8_stage (L - 1) (by omega) h_1) wmX8_stage wd_781 (by omega) (by decide) rfl _ (ce_Trial) rfl rfl (Nat.le_of_ble_eq_true rfl) (dk dcX8_waysFrom_0 8 rfl) ?_
  obtain ⟨b_3, h⟩ := gd_t h
  refine v_bipush C 12 (dk dcX8_waysFrom_0 9 rfl) kb_12 ?_
  obtain ⟨r_5, h_4, h⟩ := bnd1_s h
  refine v_callV1 C (mtX1_get (L - 1) (by omega) b_3 h_4) wmX1_get wd_792 (by omega) (by decide) rfl _ (ce_Donkey b_3) rfl rfl (Nat.le_of_ble_eq_true rfl) (dk dcX8_waysFrom_0 10 rfl) ?_
  refine v_aload_n C 0 (dk dcX8_waysFrom_0 11 rfl) rfl rfl ?_
  refine gt_Trial_goal C wd_271 (dk dcX8_waysFrom_0 12 rfl) ?_
  refine v_icmp_lt C 32 (dk dcX8_waysFrom_0 13 rfl) (by decide) (fun c_6 => ?_) (fun c_6 => ?_)
  · replace h := if_t c_6 h
    refine v_lconst C 0 (dk dcX8_waysFrom_0 16 rfl) rfl ?_
    cases h
    exact v_lret C rfl (dk dcX8_waysFrom_0 17 rfl)
  · replace h := if_f c_6 h
    refine v_lconst C 1 (dk dcX8_waysFrom_0 14 rfl) rfl ?_
    refine v_goto C 33 (dk dcX8_waysFrom_0 15 rfl) (by decide) ?_
    cases h
    exact v_lret C rfl (dk dcX8_waysFrom_0 17 rfl)
set_option maxRecDepth 20000 in
set_option maxHeartbeats 4000000 in
theorem vX8_waysFrom_j61 {L : Nat} (hL : 6 ≤ L) {qX8_waysFrom : STt → Int32 → Int32 → Option (STt × Int64)} {qX8_waysWith : STt → Int32 → Int32 → Int32 → Option (STt × Int64)} (hcX8_waysFrom : ∀ {g : STt} {x1 : Int32} {x2 : Int32} {g' : STt} {rr : Int64}, qX8_waysFrom g x1 x2 = some (g', rr) → MT l E yX8_waysFrom cX8_waysFrom 4 (some .long) (L) [.ref (aE E 10 0), .int x1, .int x2] (cellsC E g ++ wx) (cellsC E g' ++ wx) (some (.long rr))) (hcX8_waysWith : ∀ {g : STt} {x1 : Int32} {x2 : Int32} {x3 : Int32} {g' : STt} {rr : Int64}, qX8_waysWith g x1 x2 x3 = some (g', rr) → MT l E yX8_waysWith cX8_waysWith 4 (some .long) (L) [.ref (aE E 10 0), .int x1, .int x2, .int x3] (cellsC E g ++ wx) (cellsC E g' ++ wx) (some (.long rr))) (C : CX p s m args meth c cX8_waysFrom 4 RX8 (some .long) E) {g : STt} {l1 : Int32} {l2 : Int32} {s0 : Int32} (r : STt × Int64) (h : fX8_waysFrom_j61 qX8_waysFrom qX8_waysWith g l1 l2 s0 = some r) : VJ p l e (rmL (L + 1)) s m args below meth c (QE below E (cellsC E r.1 ++ wx) (some (.long r.2)) args s) E 4 (cellsC E g ++ wx) [(0, .ref (aE E 10 0)), (1, .int l1), (2, .int l2)] [.int s0] 61 := by
  unfold fX8_waysFrom_j61 at h
  refine v_istore_n C (lv' := [(3, .int s0), (0, .ref (aE E 10 0)), (1, .int l1), (2, .int l2)]) (dk dcX8_waysFrom_0 30 rfl) rfl (by decide) rfl ?_
  refine v_bipush C 10 (dk dcX8_waysFrom_0 31 rfl) kb_10 ?_
  refine v_iload_n C 0 (dk dcX8_waysFrom_0 32 rfl) rfl rfl ?_
  refine v_isub C (dk dcX8_waysFrom_0 33 rfl) ?_
  refine v_i2l C (dk dcX8_waysFrom_0 34 rfl) ?_
  refine v_aload_n C 1 (dk dcX8_waysFrom_0 35 rfl) rfl rfl ?_
  refine v_iload_n C 2 (dk dcX8_waysFrom_0 36 rfl) rfl rfl ?_
  refine v_iload_n C 3 (dk dcX8_waysFrom_0 37 rfl) rfl rfl ?_
  refine v_iconst C 0 (dk dcX8_waysFrom_0 38 rfl) ki_0 ?_
  obtain ⟨g_2, r_3, h_1, h⟩ := bnd_s h
  refine v_callV1 C (hcX8_waysWith h_1) wmX8_waysWith wd_901 (by omega) (by decide) rfl _ (ce_Trial) rfl rfl (Nat.le_of_ble_eq_true rfl) (dk dcX8_waysFrom_0 39 rfl) ?_
  refine v_lmul C (dk dcX8_waysFrom_0 40 rfl) ?_
  refine v_iload_n C 0 (dk dcX8_waysFrom_0 41 rfl) rfl rfl ?_
  refine v_i2l C (dk dcX8_waysFrom_0 42 rfl) ?_
  refine v_aload_n C 1 (dk dcX8_waysFrom_0 43 rfl) rfl rfl ?_
  refine v_iload_n C 2 (dk dcX8_waysFrom_0 44 rfl) rfl rfl ?_
  refine v_iload_n C 3 (dk dcX8_waysFrom_0 45 rfl) rfl rfl ?_
  refine v_bipush C 10 (dk dcX8_waysFrom_0 46 rfl) kb_10 ?_
  obtain ⟨g_5, r_6, h_4, h⟩ := bnd_s h
  refine v_callV1 C (hcX8_waysWith h_4) wmX8_waysWith wd_901 (by omega) (by decide) rfl _ (ce_Trial) rfl rfl (Nat.le_of_ble_eq_true rfl) (dk dcX8_waysFrom_0 47 rfl) ?_
  refine v_lmul C (dk dcX8_waysFrom_1 0 rfl) ?_
  refine v_ladd C (dk dcX8_waysFrom_1 1 rfl) ?_
  cases h
  exact v_lret C rfl (dk dcX8_waysFrom_1 2 rfl)
set_option maxRecDepth 20000 in
set_option maxHeartbeats 4000000 in
theorem moX8_waysFrom {l : Launch} {E : WEt} {wx : va_W} (L : Nat) (hL : 6 ≤ L) {qX8_waysFrom : STt → Int32 → Int32 → Option (STt × Int64)} {qX8_waysWith : STt → Int32 → Int32 → Int32 → Option (STt × Int64)} (hcX8_waysFrom : ∀ {g : STt} {x1 : Int32} {x2 : Int32} {g' : STt} {rr : Int64}, qX8_waysFrom g x1 x2 = some (g', rr) → MT l E yX8_waysFrom cX8_waysFrom 4 (some .long) (L) [.ref (aE E 10 0), .int x1, .int x2] (cellsC E g ++ wx) (cellsC E g' ++ wx) (some (.long rr))) (hcX8_waysWith : ∀ {g : STt} {x1 : Int32} {x2 : Int32} {x3 : Int32} {g' : STt} {rr : Int64}, qX8_waysWith g x1 x2 x3 = some (g', rr) → MT l E yX8_waysWith cX8_waysWith 4 (some .long) (L) [.ref (aE E 10 0), .int x1, .int x2, .int x3] (cellsC E g ++ wx) (cellsC E g' ++ wx) (some (.long rr)))  {g : STt} {x1 : Int32} {x2 : Int32} {g' : STt} {rr : Int64} (h : FX8_waysFrom qX8_waysFrom qX8_waysWith g x1 x2 = some (g', rr)) : MT l E yX8_waysFrom cX8_waysFrom 4 (some .long) (L + 1) [.ref (aE E 10 0), .int x1, .int x2] (cellsC E g ++ wx) (cellsC E g' ++ wx) (some (.long rr)) := by
  refine mt_of (by decide +kernel) (Nat.le_of_ble_eq_true rfl) ?_
  intro p e s m args below meth c C
  replace C : CX p s m args meth c cX8_waysFrom 4 RX8 (some .long) E := C
  unfold FX8_waysFrom at h
  refine vj_sub (lv' := [(0, .ref (aE E 10 0)), (1, .int x1), (2, .int x2)]) [0, 1, 2] rfl ?_
  refine v_iload_n C 1 (dk dcX8_waysFrom_0 0 rfl) rfl rfl ?_
  refine v_iload_n C 2 (dk dcX8_waysFrom_0 1 rfl) rfl rfl ?_
  refine v_icmp_ge C 11 (dk dcX8_waysFrom_0 2 rfl) (by decide) (fun c_1 => ?_) (fun c_1 => ?_)
  · replace h := if_t c_1 h
    exact vj_sub [0, 1] rfl (vX8_waysFrom_j11 hL hcX8_waysFrom hcX8_waysWith C _ h)
  · replace h := if_f c_1 h
    refine v_iload_n C 1 (dk dcX8_waysFrom_0 3 rfl) rfl rfl ?_
    refine v_bipush C 6 (dk dcX8_waysFrom_0 4 rfl) kb_6 ?_
    refine v_icmp_lt C 34 (dk dcX8_waysFrom_0 5 rfl) (by decide) (fun c_2 => ?_) (fun c_2 => ?_)
    · replace h := if_t c_2 h
      refine v_aload_n C 0 (dk dcX8_waysFrom_0 18 rfl) rfl rfl ?_
      refine gt_Trial_present C wd_264 (dk dcX8_waysFrom_0 19 rfl) ?_
      refine gt_Moment_acts C (by decide) wd_229 (dk dcX8_waysFrom_0 20 rfl) ?_
      refine v_iload_n C 1 (dk dcX8_waysFrom_0 21 rfl) rfl rfl ?_
      obtain ⟨r_4, h_3, h⟩ := bnd1_s h
      refine v_callV1 C (mtX5_get (L - 1) (by omega) (by decide) h_3) wmX5_get wd_798 (by omega) (by decide) rfl _ (ce_Strip (by decide)) rfl rfl (Nat.le_of_ble_eq_true rfl) (dk dcX8_waysFrom_0 22 rfl) ?_
      refine v_bipush C 6 (dk dcX8_waysFrom_0 23 rfl) kb_6 ?_
      refine v_icmp_ne C 54 (dk dcX8_waysFrom_0 24 rfl) (by decide) (fun c_5 => ?_) (fun c_5 => ?_)
      · replace h := if_f c_5 h
        refine v_aload_n C 0 (dk dcX8_waysFrom_0 27 rfl) rfl rfl ?_
        refine gt_Trial_present C wd_264 (dk dcX8_waysFrom_0 28 rfl) ?_
        refine gt_Moment_odds C (by decide) wd_238 (dk dcX8_waysFrom_0 29 rfl) ?_
        exact vj_sub [0, 1, 2] rfl (vX8_waysFrom_j61 hL hcX8_waysFrom hcX8_waysWith C _ h)
      · replace h := if_t c_5 h
        refine v_iconst C 0 (dk dcX8_waysFrom_0 25 rfl) ki_0 ?_
        refine v_goto C 61 (dk dcX8_waysFrom_0 26 rfl) (by decide) ?_
        exact vj_sub [0, 1, 2] rfl (vX8_waysFrom_j61 hL hcX8_waysFrom hcX8_waysWith C _ h)
    · replace h := if_f c_2 h
      exact vj_sub [0, 1] rfl (vX8_waysFrom_j11 hL hcX8_waysFrom hcX8_waysWith C _ h)
set_option maxRecDepth 20000 in
set_option maxHeartbeats 4000000 in
theorem moX8_waysWith {l : Launch} {E : WEt} {wx : va_W} (L : Nat) (hL : 6 ≤ L) {qX8_waysFrom : STt → Int32 → Int32 → Option (STt × Int64)} {qX8_waysWith : STt → Int32 → Int32 → Int32 → Option (STt × Int64)} (hcX8_waysFrom : ∀ {g : STt} {x1 : Int32} {x2 : Int32} {g' : STt} {rr : Int64}, qX8_waysFrom g x1 x2 = some (g', rr) → MT l E yX8_waysFrom cX8_waysFrom 4 (some .long) (L) [.ref (aE E 10 0), .int x1, .int x2] (cellsC E g ++ wx) (cellsC E g' ++ wx) (some (.long rr))) (hcX8_waysWith : ∀ {g : STt} {x1 : Int32} {x2 : Int32} {x3 : Int32} {g' : STt} {rr : Int64}, qX8_waysWith g x1 x2 x3 = some (g', rr) → MT l E yX8_waysWith cX8_waysWith 4 (some .long) (L) [.ref (aE E 10 0), .int x1, .int x2, .int x3] (cellsC E g ++ wx) (cellsC E g' ++ wx) (some (.long rr)))  {g : STt} {x1 : Int32} {x2 : Int32} {x3 : Int32} {g' : STt} {rr : Int64} (h : FX8_waysWith qX8_waysFrom qX8_waysWith g x1 x2 x3 = some (g', rr)) : MT l E yX8_waysWith cX8_waysWith 4 (some .long) (L + 1) [.ref (aE E 10 0), .int x1, .int x2, .int x3] (cellsC E g ++ wx) (cellsC E g' ++ wx) (some (.long rr)) := by
  refine mt_of (by decide +kernel) (Nat.le_of_ble_eq_true rfl) ?_
  intro p e s m args below meth c C
  replace C : CX p s m args meth c cX8_waysWith 4 RX8 (some .long) E := C
  unfold FX8_waysWith at h
  refine vj_sub (lv' := [(0, .ref (aE E 10 0)), (1, .int x1), (2, .int x2), (3, .int x3)]) [0, 1, 2, 3] rfl ?_
  refine v_aload_n C 0 (dk dcX8_waysWith_0 0 rfl) rfl rfl ?_
  refine gt_Trial_walk C wd_263 (dk dcX8_waysWith_0 1 rfl) ?_
  refine v_aload_n C 0 (dk dcX8_waysWith_0 2 rfl) rfl rfl ?_
  refine v_iload_n C 1 (dk dcX8_waysWith_0 3 rfl) rfl rfl ?_
  obtain ⟨g_2, r_3, h_1, h⟩ := bnd_s h
  refine v_callV1 C (mtX8_stageAfter (L - 1) (by omega) h_1) wmX8_stageAfter wd_816 (by omega) (by decide) rfl _ (ce_Trial) rfl rfl (Nat.le_of_ble_eq_true rfl) (dk dcX8_waysWith_0 4 rfl) ?_
  obtain ⟨b_4, h⟩ := gd_t h
  refine v_aload_n C 0 (dk dcX8_waysWith_0 5 rfl) rfl rfl ?_
  refine gt_Trial_present C wd_264 (dk dcX8_waysWith_0 6 rfl) ?_
  refine gt_Moment_acts C (by decide) wd_229 (dk dcX8_waysWith_0 7 rfl) ?_
  refine v_iload_n C 1 (dk dcX8_waysWith_0 8 rfl) rfl rfl ?_
  obtain ⟨r_6, h_5, h⟩ := bnd1_s h
  refine v_callV1 C (mtX5_get (L - 1) (by omega) (by decide) h_5) wmX5_get wd_798 (by omega) (by decide) rfl _ (ce_Strip (by decide)) rfl rfl (Nat.le_of_ble_eq_true rfl) (dk dcX8_waysWith_0 9 rfl) ?_
  refine v_iload_n C 3 (dk dcX8_waysWith_0 10 rfl) rfl rfl ?_
  obtain ⟨g_8, r_9, h_7, h⟩ := bnd_s h
  refine v_callV1 C (mtX9_step (L - 1) (by omega) b_4 h_7) wmX9_step wd_799 (by omega) (by decide) rfl _ (ce_Walk) rfl rfl (Nat.le_of_ble_eq_true rfl) (dk dcX8_waysWith_0 11 rfl) ?_
  refine v_pop C rfl (dk dcX8_waysWith_0 12 rfl) ?_
  refine v_aload_n C 0 (dk dcX8_waysWith_0 13 rfl) rfl rfl ?_
  refine v_iload_n C 1 (dk dcX8_waysWith_0 14 rfl) rfl rfl ?_
  refine v_iconst C 1 (dk dcX8_waysWith_0 15 rfl) ki_1 ?_
  refine v_iadd C (dk dcX8_waysWith_0 16 rfl) ?_
  refine v_iload_n C 2 (dk dcX8_waysWith_0 17 rfl) rfl rfl ?_
  obtain ⟨g_11, r_12, h_10, h⟩ := bnd_s h
  refine v_callV1 C (hcX8_waysFrom h_10) wmX8_waysFrom wd_897 (by omega) (by decide) rfl _ (ce_Trial) rfl rfl (Nat.le_of_ble_eq_true rfl) (dk dcX8_waysWith_0 18 rfl) ?_
  cases h
  exact v_lret C rfl (dk dcX8_waysWith_0 19 rfl)
set_option maxRecDepth 20000 in
set_option maxHeartbeats 4000000 in
theorem mgX8_waysFrom {l : Launch} {E : WEt} {wx : va_W} : ∀ (n L : Nat), 6 ≤ L → (∀ {g : STt} {x1 : Int32} {x2 : Int32} {g' : STt} {rr : Int64}, (RGX8_waysFrom n).1 g x1 x2 = some (g', rr) → MT l E yX8_waysFrom cX8_waysFrom 4 (some .long) (L + n) [.ref (aE E 10 0), .int x1, .int x2] (cellsC E g ++ wx) (cellsC E g' ++ wx) (some (.long rr))) ∧ (∀ {g : STt} {x1 : Int32} {x2 : Int32} {x3 : Int32} {g' : STt} {rr : Int64}, (RGX8_waysFrom n).2 g x1 x2 x3 = some (g', rr) → MT l E yX8_waysWith cX8_waysWith 4 (some .long) (L + n) [.ref (aE E 10 0), .int x1, .int x2, .int x3] (cellsC E g ++ wx) (cellsC E g' ++ wx) (some (.long rr))) := by
  intro n
  induction n with
  | zero => intro L hL; exact ⟨(by intros; rename_i h; cases h), (by intros; rename_i h; cases h)⟩
  | succ n ih =>
    intro L hL
    obtain ⟨i0, i1⟩ := ih L hL
    exact ⟨fun {_} {_} {_} {_} {_} h => moX8_waysFrom (L + n) (by omega) i0 i1 h, fun {_} {_} {_} {_} {_} {_} h => moX8_waysWith (L + n) (by omega) i0 i1 h⟩
set_option maxRecDepth 20000 in
set_option maxHeartbeats 4000000 in
theorem mtX8_waysFrom {l : Launch} {E : WEt} {wx : va_W} (L : Nat) (hL : 26 ≤ L) {g : STt} {x1 : Int32} {x2 : Int32} {g' : STt} {rr : Int64} (h : fX8_waysFrom fuelX8_waysFrom g x1 x2 = some (g', rr)) : MT l E yX8_waysFrom cX8_waysFrom 4 (some .long) (L + 1) [.ref (aE E 10 0), .int x1, .int x2] (cellsC E g ++ wx) (cellsC E g' ++ wx) (some (.long rr)) := by
  have e : L + 1 = (L + 1 - fuelX8_waysFrom) + fuelX8_waysFrom := by show L + 1 = (L + 1 - 20) + 20; omega
  rw [e]
  exact (mgX8_waysFrom fuelX8_waysFrom (L + 1 - fuelX8_waysFrom) (by show 6 ≤ L + 1 - 20; omega)).1  h
set_option maxRecDepth 20000 in
set_option maxHeartbeats 4000000 in
theorem mtX8_waysWith {l : Launch} {E : WEt} {wx : va_W} (L : Nat) (hL : 26 ≤ L) {g : STt} {x1 : Int32} {x2 : Int32} {x3 : Int32} {g' : STt} {rr : Int64} (h : fX8_waysWith fuelX8_waysFrom g x1 x2 x3 = some (g', rr)) : MT l E yX8_waysWith cX8_waysWith 4 (some .long) (L + 1) [.ref (aE E 10 0), .int x1, .int x2, .int x3] (cellsC E g ++ wx) (cellsC E g' ++ wx) (some (.long rr)) := by
  have e : L + 1 = (L + 1 - fuelX8_waysFrom) + fuelX8_waysFrom := by show L + 1 = (L + 1 - 20) + 20; omega
  rw [e]
  exact (mgX8_waysFrom fuelX8_waysFrom (L + 1 - fuelX8_waysFrom) (by show 6 ≤ L + 1 - 20; omega)).2  h
set_option maxRecDepth 20000 in
set_option maxHeartbeats 4000000 in
theorem vX8_chanceOf_j125 {L : Nat} (hL : 27 ≤ L) (C : CX p s m args meth c cX8_chanceOf 8 RX8 (some .long) E) {g : STt} {l2 : Int32} {l3 : Int64} {l5 : Int64} {l7 : Int32} {K48 : (Int64 × Int64 × Int32) → Option (STt × Int64)} (hK48 : ∀ {l3 : Int64} {l5 : Int64} {l7 : Int32} (r : STt × Int64), K48 (l3, l5, l7) = some r → VJ p l e (rmL (L + 1)) s m args below meth c (QE below E (cellsC E r.1 ++ wx) (some (.long r.2)) args s) E 8 (cellsC E g ++ wx) [(2, .int l2), (3, .long l3), (5, .long l5), (7, .int l7)] [] 48) (r : STt × Int64) (h : fX8_chanceOf_j125 K48 g l2 l3 l5 l7 = some r) : VJ p l e (rmL (L + 1)) s m args below meth c (QE below E (cellsC E r.1 ++ wx) (some (.long r.2)) args s) E 8 (cellsC E g ++ wx) [(2, .int l2), (3, .long l3), (5, .long l5), (7, .int l7)] [] 125 := by
  unfold fX8_chanceOf_j125 at h
  refine v_iinc C (lv' := [(7, .int (l7 + 1)), (2, .int l2), (3, .long l3), (5, .long l5)]) (l7 + 1) 3 (dk dcX8_chanceOf_1 21 rfl) rfl (congrArg (fun z => l7 + z) ki_1) (by decide) rfl ?_
  refine v_goto C 48 (dk dcX8_chanceOf_1 22 rfl) (by decide) ?_
  exact vj_sub [1, 2, 3, 0] rfl (hK48 _ h)
set_option maxRecDepth 20000 in
set_option maxHeartbeats 4000000 in
theorem vX8_chanceOf_j90 {L : Nat} (hL : 27 ≤ L) (C : CX p s m args meth c cX8_chanceOf 8 RX8 (some .long) E) {g : STt} {l2 : Int32} {l3 : Int64} {l5 : Int64} {l7 : Int32} {K48 : (Int64 × Int64 × Int32) → Option (STt × Int64)} (hK48 : ∀ {l3 : Int64} {l5 : Int64} {l7 : Int32} (r : STt × Int64), K48 (l3, l5, l7) = some r → VJ p l e (rmL (L + 1)) s m args below meth c (QE below E (cellsC E r.1 ++ wx) (some (.long r.2)) args s) E 8 (cellsC E g ++ wx) [(2, .int l2), (3, .long l3), (5, .long l5), (7, .int l7)] [] 48) (r : STt × Int64) (h : fX8_chanceOf_j90 K48 g l2 l3 l5 l7 = some r) : VJ p l e (rmL (L + 1)) s m args below meth c (QE below E (cellsC E r.1 ++ wx) (some (.long r.2)) args s) E 8 (cellsC E g ++ wx) [(2, .int l2), (3, .long l3), (5, .long l5), (7, .int l7)] [] 90 := by
  unfold fX8_chanceOf_j90 at h
  refine v_lload_n C 1 (dk dcX8_chanceOf_1 1 rfl) rfl rfl ?_
  refine v_ldc2 C wd_907 (dk dcX8_chanceOf_1 2 rfl) ?_
  refine v_lrem C (dk dcX8_chanceOf_1 3 rfl) (by decide) ?_
  refine v_lconst C 0 (dk dcX8_chanceOf_1 4 rfl) rfl ?_
  refine v_lcmp C (dk dcX8_chanceOf_1 5 rfl) ?_
  refine v_if_ne C 125 (dk dcX8_chanceOf_1 6 rfl) (by decide) (fun c_1 => ?_) (fun c_1 => ?_)
  · replace h := if_f c_1 h
    exact vj_sub [0, 1, 2, 3] rfl (vX8_chanceOf_j125 hL C hK48 _ h)
  · replace h := if_t c_1 h
    refine v_lload C 2 (dk dcX8_chanceOf_1 7 rfl) rfl ?_
    refine v_ldc2 C wd_907 (dk dcX8_chanceOf_1 8 rfl) ?_
    refine v_lrem C (dk dcX8_chanceOf_1 9 rfl) (by decide) ?_
    refine v_lconst C 0 (dk dcX8_chanceOf_1 10 rfl) rfl ?_
    refine v_lcmp C (dk dcX8_chanceOf_1 11 rfl) ?_
    refine v_if_ne C 125 (dk dcX8_chanceOf_1 12 rfl) (by decide) (fun c_2 => ?_) (fun c_2 => ?_)
    · replace h := if_f c_2 h
      exact vj_sub [0, 1, 2, 3] rfl (vX8_chanceOf_j125 hL C hK48 _ h)
    · replace h := if_t c_2 h
      refine v_lload_n C 1 (dk dcX8_chanceOf_1 13 rfl) rfl rfl ?_
      refine v_ldc2 C wd_907 (dk dcX8_chanceOf_1 14 rfl) ?_
      refine v_ldiv C (dk dcX8_chanceOf_1 15 rfl) (by decide) ?_
      refine v_lstore_n C (lv' := [(3, .long (l3 / 5)), (2, .int l2), (5, .long l5), (7, .int l7)]) (dk dcX8_chanceOf_1 16 rfl) rfl (by decide) rfl ?_
      refine v_lload C 2 (dk dcX8_chanceOf_1 17 rfl) rfl ?_
      refine v_ldc2 C wd_907 (dk dcX8_chanceOf_1 18 rfl) ?_
      refine v_ldiv C (dk dcX8_chanceOf_1 19 rfl) (by decide) ?_
      refine v_lstore C (lv' := [(5, .long (l5 / 5)), (3, .long (l3 / 5)), (2, .int l2), (7, .int l7)]) (dk dcX8_chanceOf_1 20 rfl) (by decide) rfl ?_
      exact vj_sub [2, 1, 0, 3] rfl (vX8_chanceOf_j125 hL C hK48 _ h)
set_option maxRecDepth 20000 in
set_option maxHeartbeats 4000000 in
theorem vX8_chanceOf_l48c {L : Nat} (hL : 27 ≤ L) (C : CX p s m args meth c cX8_chanceOf 8 RX8 (some .long) E) {g : STt} {l2 : Int32} {K48 : (Int64 × Int64 × Int32) → Option (STt × Int64)} (hK48 : ∀ {l3 : Int64} {l5 : Int64} {l7 : Int32} (r : STt × Int64), K48 (l3, l5, l7) = some r → VJ p l e (rmL (L + 1)) s m args below meth c (QE below E (cellsC E r.1 ++ wx) (some (.long r.2)) args s) E 8 (cellsC E g ++ wx) [(2, .int l2), (3, .long l3), (5, .long l5), (7, .int l7)] [] 48) {l3 : Int64} {l5 : Int64} {l7 : Int32} (r : STt × Int64) (h : fX8_chanceOf_l48c K48 g l2 l3 l5 l7 = some r) : VJ p l e (rmL (L + 1)) s m args below meth c (QE below E (cellsC E r.1 ++ wx) (some (.long r.2)) args s) E 8 (cellsC E g ++ wx) [(2, .int l2), (3, .long l3), (5, .long l5), (7, .int l7)] [] 48 := by
  unfold fX8_chanceOf_l48c at h
  refine v_iload C 3 (dk dcX8_chanceOf_0 26 rfl) rfl ?_
  refine v_bipush C 6 (dk dcX8_chanceOf_0 27 rfl) kb_6 ?_
  refine v_icmp_ge C 131 (dk dcX8_chanceOf_0 28 rfl) (by decide) (fun c_1 => ?_) (fun c_1 => ?_)
  · replace h := if_t c_1 h
    refine v_iload_n C 0 (dk dcX8_chanceOf_1 23 rfl) rfl rfl ?_
    refine v_if_ne C 139 (dk dcX8_chanceOf_1 24 rfl) (by decide) (fun c_2 => ?_) (fun c_2 => ?_)
    · replace h := if_f c_2 h
      refine v_lload C 2 (dk dcX8_chanceOf_1 27 rfl) rfl ?_
      cases h
      exact v_lret C rfl (dk dcX8_chanceOf_1 28 rfl)
    · replace h := if_t c_2 h
      refine v_lload_n C 1 (dk dcX8_chanceOf_1 25 rfl) rfl rfl ?_
      refine v_goto C 141 (dk dcX8_chanceOf_1 26 rfl) (by decide) ?_
      cases h
      exact v_lret C rfl (dk dcX8_chanceOf_1 28 rfl)
  · replace h := if_f c_1 h
    refine v_lload_n C 1 (dk dcX8_chanceOf_0 29 rfl) rfl rfl ?_
    refine v_ldc2 C wd_906 (dk dcX8_chanceOf_0 30 rfl) ?_
    refine v_lrem C (dk dcX8_chanceOf_0 31 rfl) (by decide) ?_
    refine v_lconst C 0 (dk dcX8_chanceOf_0 32 rfl) rfl ?_
    refine v_lcmp C (dk dcX8_chanceOf_0 33 rfl) ?_
    refine v_if_ne C 90 (dk dcX8_chanceOf_0 34 rfl) (by decide) (fun c_2 => ?_) (fun c_2 => ?_)
    · replace h := if_f c_2 h
      exact vj_sub [0, 1, 2, 3] rfl (vX8_chanceOf_j90 hL C hK48 _ h)
    · replace h := if_t c_2 h
      refine v_lload C 2 (dk dcX8_chanceOf_0 35 rfl) rfl ?_
      refine v_ldc2 C wd_906 (dk dcX8_chanceOf_0 36 rfl) ?_
      refine v_lrem C (dk dcX8_chanceOf_0 37 rfl) (by decide) ?_
      refine v_lconst C 0 (dk dcX8_chanceOf_0 38 rfl) rfl ?_
      refine v_lcmp C (dk dcX8_chanceOf_0 39 rfl) ?_
      refine v_if_ne C 90 (dk dcX8_chanceOf_0 40 rfl) (by decide) (fun c_3 => ?_) (fun c_3 => ?_)
      · replace h := if_f c_3 h
        exact vj_sub [0, 1, 2, 3] rfl (vX8_chanceOf_j90 hL C hK48 _ h)
      · replace h := if_t c_3 h
        refine v_lload_n C 1 (dk dcX8_chanceOf_0 41 rfl) rfl rfl ?_
        refine v_ldc2 C wd_906 (dk dcX8_chanceOf_0 42 rfl) ?_
        refine v_ldiv C (dk dcX8_chanceOf_0 43 rfl) (by decide) ?_
        refine v_lstore_n C (lv' := [(3, .long (l3 / 2)), (2, .int l2), (5, .long l5), (7, .int l7)]) (dk dcX8_chanceOf_0 44 rfl) rfl (by decide) rfl ?_
        refine v_lload C 2 (dk dcX8_chanceOf_0 45 rfl) rfl ?_
        refine v_ldc2 C wd_906 (dk dcX8_chanceOf_0 46 rfl) ?_
        refine v_ldiv C (dk dcX8_chanceOf_0 47 rfl) (by decide) ?_
        refine v_lstore C (lv' := [(5, .long (l5 / 2)), (3, .long (l3 / 2)), (2, .int l2), (7, .int l7)]) (dk dcX8_chanceOf_1 0 rfl) (by decide) rfl ?_
        exact vj_sub [2, 1, 0, 3] rfl (vX8_chanceOf_j90 hL C hK48 _ h)
set_option maxRecDepth 20000 in
set_option maxHeartbeats 4000000 in
theorem vX8_chanceOf_l48 {L : Nat} (hL : 27 ≤ L) (C : CX p s m args meth c cX8_chanceOf 8 RX8 (some .long) E) {g : STt} {l2 : Int32} {l3 : Int64} {l5 : Int64} {l7 : Int32} (r : STt × Int64) (h : fX8_chanceOf_l48 g l2 l3 l5 l7 = some r) : VJ p l e (rmL (L + 1)) s m args below meth c (QE below E (cellsC E r.1 ++ wx) (some (.long r.2)) args s) E 8 (cellsC E g ++ wx) [(2, .int l2), (3, .long l3), (5, .long l5), (7, .int l7)] [] 48 :=
  iterO_ind (F := fun K z => fX8_chanceOf_l48c K g l2 z.1 z.2.1 z.2.2) (fun z r => VJ p l e (rmL (L + 1)) s m args below meth c (QE below E (cellsC E r.1 ++ wx) (some (.long r.2)) args s) E 8 (cellsC E g ++ wx) [(2, .int l2), (3, .long z.1), (5, .long z.2.1), (7, .int z.2.2)] [] 48) (fun K hK z r h => vX8_chanceOf_l48c hL C (fun {l3} {l5} {l7} r h => hK (l3, l5, l7) r h) r h) fuelN (l3, l5, l7) r h
set_option maxRecDepth 20000 in
set_option maxHeartbeats 4000000 in
theorem vX8_chanceOf_j45 {L : Nat} (hL : 27 ≤ L) (C : CX p s m args meth c cX8_chanceOf 8 RX8 (some .long) E) {g : STt} {l2 : Int32} {l3 : Int64} {l5 : Int64} (r : STt × Int64) (h : fX8_chanceOf_j45 g l2 l3 l5 = some r) : VJ p l e (rmL (L + 1)) s m args below meth c (QE below E (cellsC E r.1 ++ wx) (some (.long r.2)) args s) E 8 (cellsC E g ++ wx) [(2, .int l2), (3, .long l3), (5, .long l5)] [] 45 := by
  unfold fX8_chanceOf_j45 at h
  refine v_iconst C 0 (dk dcX8_chanceOf_0 24 rfl) ki_0 ?_
  refine v_istore C (lv' := [(7, .int 0), (2, .int l2), (3, .long l3), (5, .long l5)]) (dk dcX8_chanceOf_0 25 rfl) (by decide) rfl ?_
  exact vj_sub [1, 2, 3, 0] rfl (vX8_chanceOf_l48 hL C _ h)
set_option maxRecDepth 20000 in
set_option maxHeartbeats 4000000 in
theorem vX8_chanceOf_l18c {L : Nat} (hL : 27 ≤ L) (C : CX p s m args meth c cX8_chanceOf 8 RX8 (some .long) E) {g : STt} {l1 : Int32} {l2 : Int32} {l3 : Int64} {K18 : (Int64 × Int32) → Option (STt × Int64)} (hK18 : ∀ {l5 : Int64} {l7 : Int32} (r : STt × Int64), K18 (l5, l7) = some r → VJ p l e (rmL (L + 1)) s m args below meth c (QE below E (cellsC E r.1 ++ wx) (some (.long r.2)) args s) E 8 (cellsC E g ++ wx) [(1, .int l1), (2, .int l2), (3, .long l3), (5, .long l5), (7, .int l7)] [] 18) {l5 : Int64} {l7 : Int32} (r : STt × Int64) (h : fX8_chanceOf_l18c K18 g l1 l2 l3 l5 l7 = some r) : VJ p l e (rmL (L + 1)) s m args below meth c (QE below E (cellsC E r.1 ++ wx) (some (.long r.2)) args s) E 8 (cellsC E g ++ wx) [(1, .int l1), (2, .int l2), (3, .long l3), (5, .long l5), (7, .int l7)] [] 18 := by
  unfold fX8_chanceOf_l18c at h
  refine v_iload C 4 (dk dcX8_chanceOf_0 12 rfl) rfl ?_
  refine v_iload_n C 0 (dk dcX8_chanceOf_0 13 rfl) rfl rfl ?_
  refine v_icmp_ge C 45 (dk dcX8_chanceOf_0 14 rfl) (by decide) (fun c_1 => ?_) (fun c_1 => ?_)
  · replace h := if_t c_1 h
    exact vj_sub [1, 2, 3] rfl (vX8_chanceOf_j45 hL C _ h)
  · replace h := if_f c_1 h
    refine v_iload C 4 (dk dcX8_chanceOf_0 15 rfl) rfl ?_
    refine v_bipush C 6 (dk dcX8_chanceOf_0 16 rfl) kb_6 ?_
    refine v_icmp_ge C 45 (dk dcX8_chanceOf_0 17 rfl) (by decide) (fun c_2 => ?_) (fun c_2 => ?_)
    · replace h := if_t c_2 h
      exact vj_sub [1, 2, 3] rfl (vX8_chanceOf_j45 hL C _ h)
    · replace h := if_f c_2 h
      refine v_lload C 3 (dk dcX8_chanceOf_0 18 rfl) rfl ?_
      refine v_ldc2 C wd_905 (dk dcX8_chanceOf_0 19 rfl) ?_
      refine v_lmul C (dk dcX8_chanceOf_0 20 rfl) ?_
      refine v_lstore C (lv' := [(5, .long (l5 * 10)), (1, .int l1), (2, .int l2), (3, .long l3), (7, .int l7)]) (dk dcX8_chanceOf_0 21 rfl) (by decide) rfl ?_
      refine v_iinc C (lv' := [(7, .int (l7 + 1)), (5, .long (l5 * 10)), (1, .int l1), (2, .int l2), (3, .long l3)]) (l7 + 1) 4 (dk dcX8_chanceOf_0 22 rfl) rfl (congrArg (fun z => l7 + z) ki_1) (by decide) rfl ?_
      refine v_goto C 18 (dk dcX8_chanceOf_0 23 rfl) (by decide) ?_
      exact vj_sub [2, 3, 4, 1, 0] rfl (hK18 _ h)
set_option maxRecDepth 20000 in
set_option maxHeartbeats 4000000 in
theorem vX8_chanceOf_l18 {L : Nat} (hL : 27 ≤ L) (C : CX p s m args meth c cX8_chanceOf 8 RX8 (some .long) E) {g : STt} {l1 : Int32} {l2 : Int32} {l3 : Int64} {l5 : Int64} {l7 : Int32} (r : STt × Int64) (h : fX8_chanceOf_l18 g l1 l2 l3 l5 l7 = some r) : VJ p l e (rmL (L + 1)) s m args below meth c (QE below E (cellsC E r.1 ++ wx) (some (.long r.2)) args s) E 8 (cellsC E g ++ wx) [(1, .int l1), (2, .int l2), (3, .long l3), (5, .long l5), (7, .int l7)] [] 18 :=
  iterO_ind (F := fun K z => fX8_chanceOf_l18c K g l1 l2 l3 z.1 z.2) (fun z r => VJ p l e (rmL (L + 1)) s m args below meth c (QE below E (cellsC E r.1 ++ wx) (some (.long r.2)) args s) E 8 (cellsC E g ++ wx) [(1, .int l1), (2, .int l2), (3, .long l3), (5, .long z.1), (7, .int z.2)] [] 18) (fun K hK z r h => vX8_chanceOf_l18c hL C (fun {l5} {l7} r h => hK (l5, l7) r h) r h) fuelN (l5, l7) r h
set_option maxRecDepth 20000 in
set_option maxHeartbeats 4000000 in
theorem mtX8_chanceOf {l : Launch} {E : WEt} {wx : va_W} (L : Nat) (hL : 27 ≤ L)  {g : STt} {x1 : Int32} {x2 : Int32} {g' : STt} {rr : Int64} (h : fX8_chanceOf g x1 x2 = some (g', rr)) : MT l E yX8_chanceOf cX8_chanceOf 8 (some .long) (L + 1) [.ref (aE E 10 0), .int x1, .int x2] (cellsC E g ++ wx) (cellsC E g' ++ wx) (some (.long rr)) := by
  refine mt_of (by decide +kernel) (Nat.le_of_ble_eq_true rfl) ?_
  intro p e s m args below meth c C
  replace C : CX p s m args meth c cX8_chanceOf 8 RX8 (some .long) E := C
  unfold fX8_chanceOf at h
  refine vj_sub (lv' := [(0, .ref (aE E 10 0)), (1, .int x1), (2, .int x2)]) [0, 1, 2] rfl ?_
  refine v_aload_n C 0 (dk dcX8_chanceOf_0 0 rfl) rfl rfl ?_
  obtain ⟨g_2, r_3, h_1, h⟩ := bnd_s h
  refine v_callV1 C (mtX8_begin (L - 1) (by omega) h_1) wmX8_begin wd_777 (by omega) (by decide) rfl _ (ce_Trial) rfl rfl (Nat.le_of_ble_eq_true rfl) (dk dcX8_chanceOf_0 1 rfl) ?_
  obtain ⟨b_4, h⟩ := gd_t h
  refine v_pop C rfl (dk dcX8_chanceOf_0 2 rfl) ?_
  refine v_aload_n C 0 (dk dcX8_chanceOf_0 3 rfl) rfl rfl ?_
  refine v_iconst C 0 (dk dcX8_chanceOf_0 4 rfl) ki_0 ?_
  refine v_iload_n C 1 (dk dcX8_chanceOf_0 5 rfl) rfl rfl ?_
  obtain ⟨g_6, r_7, h_5, h⟩ := bnd_s h
  refine v_callV1 C (mtX8_waysFrom (L - 1) (by omega) h_5) wmX8_waysFrom wd_897 (by omega) (by decide) rfl _ (ce_Trial) rfl rfl (Nat.le_of_ble_eq_true rfl) (dk dcX8_chanceOf_0 6 rfl) ?_
  refine v_lstore_n C (lv' := [(3, .long r_7), (0, .ref (aE E 10 0)), (1, .int x1), (2, .int x2)]) (dk dcX8_chanceOf_0 7 rfl) rfl (by decide) rfl ?_
  refine v_lconst C 1 (dk dcX8_chanceOf_0 8 rfl) rfl ?_
  refine v_lstore C (lv' := [(5, .long 1), (3, .long r_7), (0, .ref (aE E 10 0)), (1, .int x1), (2, .int x2)]) (dk dcX8_chanceOf_0 9 rfl) (by decide) rfl ?_
  refine v_iconst C 0 (dk dcX8_chanceOf_0 10 rfl) ki_0 ?_
  refine v_istore C (lv' := [(7, .int 0), (5, .long 1), (3, .long r_7), (0, .ref (aE E 10 0)), (1, .int x1), (2, .int x2)]) (dk dcX8_chanceOf_0 11 rfl) (by decide) rfl ?_
  exact vj_sub [4, 5, 2, 1, 0] rfl (vX8_chanceOf_l18 hL C _ h)
set_option maxRecDepth 20000 in
set_option maxHeartbeats 4000000 in
theorem mtX10_sure {l : Launch} {E : WEt} {wx : va_W} (L : Nat) (hL : 28 ≤ L)  {g : STt} {x1 : Int32} {x2 : Int32} {g' : STt} {rr : Int64} (h : fX10_sure g x1 x2 = some (g', rr)) : MT l E yX10_sure cX10_sure 3 (some .long) (L + 1) [.ref (aE E 0 0), .int x1, .int x2] (cellsC E g ++ wx) (cellsC E g' ++ wx) (some (.long rr)) := by
  refine mt_of (by decide +kernel) (Nat.le_of_ble_eq_true rfl) ?_
  intro p e s m args below meth c C
  replace C : CX p s m args meth c cX10_sure 3 RX10 (some .long) E := C
  unfold fX10_sure at h
  refine vj_sub (lv' := [(0, .ref (aE E 0 0)), (1, .int x1), (2, .int x2)]) [0, 1, 2] rfl ?_
  refine v_iload_n C 1 (dk dcX10_sure_0 0 rfl) rfl rfl ?_
  refine v_iconst C 1 (dk dcX10_sure_0 1 rfl) ki_1 ?_
  refine v_icmp_lt C 34 (dk dcX10_sure_0 2 rfl) (by decide) (fun c_1 => ?_) (fun c_1 => ?_)
  · replace h := if_t c_1 h
    refine v_ldc2 C wd_892 (dk dcX10_sure_0 17 rfl) ?_
    cases h
    exact v_lret C rfl (dk dcX10_sure_0 18 rfl)
  · replace h := if_f c_1 h
    refine v_iload_n C 1 (dk dcX10_sure_0 3 rfl) rfl rfl ?_
    refine v_bipush C 6 (dk dcX10_sure_0 4 rfl) kb_6 ?_
    refine v_icmp_gt C 34 (dk dcX10_sure_0 5 rfl) (by decide) (fun c_2 => ?_) (fun c_2 => ?_)
    · replace h := if_t c_2 h
      refine v_ldc2 C wd_892 (dk dcX10_sure_0 17 rfl) ?_
      cases h
      exact v_lret C rfl (dk dcX10_sure_0 18 rfl)
    · replace h := if_f c_2 h
      refine v_iload_n C 1 (dk dcX10_sure_0 6 rfl) rfl rfl ?_
      refine v_aload_n C 0 (dk dcX10_sure_0 7 rfl) rfl rfl ?_
      refine gt_DB_present C wd_345 (dk dcX10_sure_0 8 rfl) ?_
      refine gt_Moment_acts C (by decide) wd_230 (dk dcX10_sure_0 9 rfl) ?_
      obtain ⟨r_4, h_3, h⟩ := bnd1_s h
      refine v_callV1 C (mtX5_size (L - 1) (by omega) (by decide) h_3) wmX5_size wd_768 (by omega) (by decide) rfl _ (ce_Strip (by decide)) rfl rfl (Nat.le_of_ble_eq_true rfl) (dk dcX10_sure_0 10 rfl) ?_
      refine v_icmp_gt C 34 (dk dcX10_sure_0 11 rfl) (by decide) (fun c_5 => ?_) (fun c_5 => ?_)
      · replace h := if_t c_5 h
        refine v_ldc2 C wd_892 (dk dcX10_sure_0 17 rfl) ?_
        cases h
        exact v_lret C rfl (dk dcX10_sure_0 18 rfl)
      · replace h := if_f c_5 h
        refine v_iload_n C 2 (dk dcX10_sure_0 12 rfl) rfl rfl ?_
        refine v_if_lt C 34 (dk dcX10_sure_0 13 rfl) (by decide) (fun c_6 => ?_) (fun c_6 => ?_)
        · replace h := if_t c_6 h
          refine v_ldc2 C wd_892 (dk dcX10_sure_0 17 rfl) ?_
          cases h
          exact v_lret C rfl (dk dcX10_sure_0 18 rfl)
        · replace h := if_f c_6 h
          refine v_iload_n C 2 (dk dcX10_sure_0 14 rfl) rfl rfl ?_
          refine v_iconst C 1 (dk dcX10_sure_0 15 rfl) ki_1 ?_
          refine v_icmp_le C 38 (dk dcX10_sure_0 16 rfl) (by decide) (fun c_7 => ?_) (fun c_7 => ?_)
          · replace h := if_t c_7 h
            refine v_aload_n C 0 (dk dcX10_sure_0 19 rfl) rfl rfl ?_
            refine gt_DB_trial C wd_342 (dk dcX10_sure_0 20 rfl) ?_
            refine v_iload_n C 1 (dk dcX10_sure_0 21 rfl) rfl rfl ?_
            refine v_iload_n C 2 (dk dcX10_sure_0 22 rfl) rfl rfl ?_
            obtain ⟨g_9, r_10, h_8, h⟩ := bnd_s h
            refine v_callV1 C (mtX8_chanceOf (L - 1) (by omega) h_8) wmX8_chanceOf wd_893 (by omega) (by decide) rfl _ (ce_Trial) rfl rfl (Nat.le_of_ble_eq_true rfl) (dk dcX10_sure_0 23 rfl) ?_
            cases h
            exact v_lret C rfl (dk dcX10_sure_0 24 rfl)
          · replace h := if_f c_7 h
            refine v_ldc2 C wd_892 (dk dcX10_sure_0 17 rfl) ?_
            cases h
            exact v_lret C rfl (dk dcX10_sure_0 18 rfl)
set_option maxRecDepth 20000 in
set_option maxHeartbeats 4000000 in
theorem vX5_placeOfLeast_j31 {L : Nat} (hL : 3 ≤ L) (C : CX p s m args meth c cX5_placeOfLeast 3 RX5 (some .int) E) {g : STt} {l0 : Nat} {l1 : Int32} {l2 : Int32} (hl0 : l0 < 8) {K4 : (Int32 × Int32) → Option Int32} (hK4 : ∀ {l1 : Int32} {l2 : Int32} (r : Int32), K4 (l1, l2) = some r → VJ p l e (rmL (L + 1)) s m args below meth c (QE below E (cellsC E g ++ wx) (some (.int r)) args s) E 3 (cellsC E g ++ wx) [(0, .ref (aE E 17 l0)), (1, .int l1), (2, .int l2)] [] 4) (r : Int32) (h : fX5_placeOfLeast_j31 K4 g l0 l1 l2 = some r) : VJ p l e (rmL (L + 1)) s m args below meth c (QE below E (cellsC E g ++ wx) (some (.int r)) args s) E 3 (cellsC E g ++ wx) [(0, .ref (aE E 17 l0)), (1, .int l1), (2, .int l2)] [] 31 := by
  unfold fX5_placeOfLeast_j31 at h
  refine v_iinc C (lv' := [(2, .int (l2 + 1)), (0, .ref (aE E 17 l0)), (1, .int l1)]) (l2 + 1) 2 (dk dcX5_placeOfLeast_0 19 rfl) rfl (congrArg (fun z => l2 + z) ki_1) (by decide) rfl ?_
  refine v_goto C 4 (dk dcX5_placeOfLeast_0 20 rfl) (by decide) ?_
  exact vj_sub [1, 2, 0] rfl (hK4 _ h)
set_option maxRecDepth 20000 in
set_option maxHeartbeats 4000000 in
theorem vX5_placeOfLeast_j29 {L : Nat} (hL : 3 ≤ L) (C : CX p s m args meth c cX5_placeOfLeast 3 RX5 (some .int) E) {g : STt} {l0 : Nat} {l2 : Int32} (hl0 : l0 < 8) {K4 : (Int32 × Int32) → Option Int32} (hK4 : ∀ {l1 : Int32} {l2 : Int32} (r : Int32), K4 (l1, l2) = some r → VJ p l e (rmL (L + 1)) s m args below meth c (QE below E (cellsC E g ++ wx) (some (.int r)) args s) E 3 (cellsC E g ++ wx) [(0, .ref (aE E 17 l0)), (1, .int l1), (2, .int l2)] [] 4) (r : Int32) (h : fX5_placeOfLeast_j29 K4 g l0 l2 = some r) : VJ p l e (rmL (L + 1)) s m args below meth c (QE below E (cellsC E g ++ wx) (some (.int r)) args s) E 3 (cellsC E g ++ wx) [(0, .ref (aE E 17 l0)), (2, .int l2)] [] 29 := by
  unfold fX5_placeOfLeast_j29 at h
  refine v_iload_n C 1 (dk dcX5_placeOfLeast_0 17 rfl) rfl rfl ?_
  refine v_istore_n C (lv' := [(1, .int l2), (0, .ref (aE E 17 l0)), (2, .int l2)]) (dk dcX5_placeOfLeast_0 18 rfl) rfl (by decide) rfl ?_
  exact vj_sub [1, 0, 2] rfl (vX5_placeOfLeast_j31 hL C hl0 hK4 _ h)
set_option maxRecDepth 20000 in
set_option maxHeartbeats 4000000 in
theorem vX5_placeOfLeast_l4c {L : Nat} (hL : 3 ≤ L) (C : CX p s m args meth c cX5_placeOfLeast 3 RX5 (some .int) E) {g : STt} {l0 : Nat} (hl0 : l0 < 8) {K4 : (Int32 × Int32) → Option Int32} (hK4 : ∀ {l1 : Int32} {l2 : Int32} (r : Int32), K4 (l1, l2) = some r → VJ p l e (rmL (L + 1)) s m args below meth c (QE below E (cellsC E g ++ wx) (some (.int r)) args s) E 3 (cellsC E g ++ wx) [(0, .ref (aE E 17 l0)), (1, .int l1), (2, .int l2)] [] 4) {l1 : Int32} {l2 : Int32} (r : Int32) (h : fX5_placeOfLeast_l4c K4 g l0 l1 l2 = some r) : VJ p l e (rmL (L + 1)) s m args below meth c (QE below E (cellsC E g ++ wx) (some (.int r)) args s) E 3 (cellsC E g ++ wx) [(0, .ref (aE E 17 l0)), (1, .int l1), (2, .int l2)] [] 4 := by
  unfold fX5_placeOfLeast_l4c at h
  refine v_iload_n C 2 (dk dcX5_placeOfLeast_0 4 rfl) rfl rfl ?_
  refine v_aload_n C 0 (dk dcX5_placeOfLeast_0 5 rfl) rfl rfl ?_
  refine gt_Strip_size C hl0 wd_141 (dk dcX5_placeOfLeast_0 6 rfl) ?_
  refine v_icmp_ge C 37 (dk dcX5_placeOfLeast_0 7 rfl) (by decide) (fun c_1 => ?_) (fun c_1 => ?_)
  · replace h := if_t c_1 h
    refine v_iload_n C 1 (dk dcX5_placeOfLeast_0 21 rfl) rfl rfl ?_
    cases h
    exact v_iret C rfl (dk dcX5_placeOfLeast_0 22 rfl)
  · replace h := if_f c_1 h
    refine v_iload_n C 1 (dk dcX5_placeOfLeast_0 8 rfl) rfl rfl ?_
    refine v_if_lt C 29 (dk dcX5_placeOfLeast_0 9 rfl) (by decide) (fun c_2 => ?_) (fun c_2 => ?_)
    · replace h := if_t c_2 h
      exact vj_sub [0, 2] rfl (vX5_placeOfLeast_j29 hL C hl0 hK4 _ h)
    · replace h := if_f c_2 h
      refine v_aload_n C 0 (dk dcX5_placeOfLeast_0 10 rfl) rfl rfl ?_
      refine v_iload_n C 2 (dk dcX5_placeOfLeast_0 11 rfl) rfl rfl ?_
      obtain ⟨r_4, h_3, h⟩ := bnd1_s h
      refine v_callV1 C (mtX5_get (L - 1) (by omega) hl0 h_3) wmX5_get wd_929 (by omega) (by decide) rfl _ (ce_Strip hl0) rfl rfl (Nat.le_of_ble_eq_true rfl) (dk dcX5_placeOfLeast_0 12 rfl) ?_
      refine v_aload_n C 0 (dk dcX5_placeOfLeast_0 13 rfl) rfl rfl ?_
      refine v_iload_n C 1 (dk dcX5_placeOfLeast_0 14 rfl) rfl rfl ?_
      obtain ⟨r_6, h_5, h⟩ := bnd1_s h
      refine v_callV1 C (mtX5_get (L - 1) (by omega) hl0 h_5) wmX5_get wd_929 (by omega) (by decide) rfl _ (ce_Strip hl0) rfl rfl (Nat.le_of_ble_eq_true rfl) (dk dcX5_placeOfLeast_0 15 rfl) ?_
      refine v_icmp_ge C 31 (dk dcX5_placeOfLeast_0 16 rfl) (by decide) (fun c_7 => ?_) (fun c_7 => ?_)
      · replace h := if_t c_7 h
        exact vj_sub [0, 1, 2] rfl (vX5_placeOfLeast_j31 hL C hl0 hK4 _ h)
      · replace h := if_f c_7 h
        exact vj_sub [0, 2] rfl (vX5_placeOfLeast_j29 hL C hl0 hK4 _ h)
set_option maxRecDepth 20000 in
set_option maxHeartbeats 4000000 in
theorem vX5_placeOfLeast_l4 {L : Nat} (hL : 3 ≤ L) (C : CX p s m args meth c cX5_placeOfLeast 3 RX5 (some .int) E) {g : STt} {l0 : Nat} (hl0 : l0 < 8) {l1 : Int32} {l2 : Int32} (r : Int32) (h : fX5_placeOfLeast_l4 g l0 l1 l2 = some r) : VJ p l e (rmL (L + 1)) s m args below meth c (QE below E (cellsC E g ++ wx) (some (.int r)) args s) E 3 (cellsC E g ++ wx) [(0, .ref (aE E 17 l0)), (1, .int l1), (2, .int l2)] [] 4 :=
  iterO_ind (F := fun K z => fX5_placeOfLeast_l4c K g l0 z.1 z.2) (fun z r => VJ p l e (rmL (L + 1)) s m args below meth c (QE below E (cellsC E g ++ wx) (some (.int r)) args s) E 3 (cellsC E g ++ wx) [(0, .ref (aE E 17 l0)), (1, .int z.1), (2, .int z.2)] [] 4) (fun K hK z r h => vX5_placeOfLeast_l4c hL C hl0 (fun {l1} {l2} r h => hK (l1, l2) r h) r h) fuelN (l1, l2) r h
set_option maxRecDepth 20000 in
set_option maxHeartbeats 4000000 in
theorem mtX5_placeOfLeast {l : Launch} {E : WEt} {wx : va_W} (L : Nat) (hL : 3 ≤ L)  {g : STt} {d0 : Nat} (hd0 : d0 < 8) {rr : Int32} (h : fX5_placeOfLeast g d0 = some rr) : MT l E yX5_placeOfLeast cX5_placeOfLeast 3 (some .int) (L + 1) [.ref (aE E 17 d0)] (cellsC E g ++ wx) (cellsC E g ++ wx) (some (.int rr)) := by
  refine mt_of (by decide +kernel) (Nat.le_of_ble_eq_true rfl) ?_
  intro p e s m args below meth c C
  replace C : CX p s m args meth c cX5_placeOfLeast 3 RX5 (some .int) E := C
  unfold fX5_placeOfLeast at h
  refine vj_sub (lv' := [(0, .ref (aE E 17 d0))]) [0] rfl ?_
  refine v_iconst C (-1) (dk dcX5_placeOfLeast_0 0 rfl) ki_m1 ?_
  refine v_istore_n C (lv' := [(1, .int (-1)), (0, .ref (aE E 17 d0))]) (dk dcX5_placeOfLeast_0 1 rfl) rfl (by decide) rfl ?_
  refine v_iconst C 0 (dk dcX5_placeOfLeast_0 2 rfl) ki_0 ?_
  refine v_istore_n C (lv' := [(2, .int 0), (1, .int (-1)), (0, .ref (aE E 17 d0))]) (dk dcX5_placeOfLeast_0 3 rfl) rfl (by decide) rfl ?_
  exact vj_sub [2, 1, 0] rfl (vX5_placeOfLeast_l4 hL C hd0 _ h)
set_option maxRecDepth 20000 in
set_option maxHeartbeats 4000000 in
theorem mtX9_fearThere {l : Launch} {E : WEt} {wx : va_W} (L : Nat) (hL : 3 ≤ L)  {g : STt} {d1 : Nat} (hd1 : d1 < 10) {rr : Int32} (h : fX9_fearThere g d1 = some rr) : MT l E yX9_fearThere cX9_fearThere 2 (some .int) (L + 1) [.ref (aE E 7 0), .ref (aE E 19 d1)] (cellsC E g ++ wx) (cellsC E g ++ wx) (some (.int rr)) := by
  refine mt_of (by decide +kernel) (Nat.le_of_ble_eq_true rfl) ?_
  intro p e s m args below meth c C
  replace C : CX p s m args meth c cX9_fearThere 2 RX9 (some .int) E := C
  unfold fX9_fearThere at h
  refine vj_sub (lv' := [(0, .ref (aE E 7 0)), (1, .ref (aE E 19 d1))]) [0, 1] rfl ?_
  refine v_aload_n C 1 (dk dcX9_fearThere_0 0 rfl) rfl rfl ?_
  refine v_aload_n C 0 (dk dcX9_fearThere_0 1 rfl) rfl rfl ?_
  refine gt_Walk_road C wd_186 (dk dcX9_fearThere_0 2 rfl) ?_
  refine v_aload_n C 1 (dk dcX9_fearThere_0 3 rfl) rfl rfl ?_
  refine v_bipush C 12 (dk dcX9_fearThere_0 4 rfl) kb_12 ?_
  obtain ⟨r_2, h_1, h⟩ := bnd1_s h
  refine v_callV1 C (mtX1_get (L - 1) (by omega) hd1 h_1) wmX1_get wd_667 (by omega) (by decide) rfl _ (ce_Donkey hd1) rfl rfl (Nat.le_of_ble_eq_true rfl) (dk dcX9_fearThere_0 5 rfl) ?_
  obtain ⟨r_4, h_3, h⟩ := bnd1_s h
  refine v_callV1 C (mtX4_thingOf (L - 1) (by omega) h_3) wmX4_thingOf wd_677 (by omega) (by decide) rfl _ (ce_Road) rfl rfl (Nat.le_of_ble_eq_true rfl) (dk dcX9_fearThere_0 6 rfl) ?_
  obtain ⟨r_6, h_5, h⟩ := bnd1_s h
  refine v_callV1 C (mtX1_get (L - 1) (by omega) hd1 h_5) wmX1_get wd_667 (by omega) (by decide) rfl _ (ce_Donkey hd1) rfl rfl (Nat.le_of_ble_eq_true rfl) (dk dcX9_fearThere_0 7 rfl) ?_
  cases h
  exact v_iret C rfl (dk dcX9_fearThere_0 8 rfl)
set_option maxRecDepth 20000 in
set_option maxHeartbeats 4000000 in
theorem mtX10_string {l : Launch} {E : WEt} {wx : va_W} (L : Nat) (hL : 5 ≤ L)  {g : STt} {x1 : Int32} {g' : STt} {rr : Int32} (h : fX10_string g x1 = some (g', rr)) : MT l E yX10_string cX10_string 5 (some .int) (L + 1) [.ref (aE E 0 0), .int x1] (cellsC E g ++ wx) (cellsC E g' ++ wx) (some (.int rr)) := by
  refine mt_of (by decide +kernel) (Nat.le_of_ble_eq_true rfl) ?_
  intro p e s m args below meth c C
  replace C : CX p s m args meth c cX10_string 5 RX10 (some .int) E := C
  unfold fX10_string at h
  refine vj_sub (lv' := [(0, .ref (aE E 0 0)), (1, .int x1)]) [0, 1] rfl ?_
  refine v_iload_n C 1 (dk dcX10_string_0 0 rfl) rfl rfl ?_
  refine v_if_lt C 9 (dk dcX10_string_0 1 rfl) (by decide) (fun c_1 => ?_) (fun c_1 => ?_)
  · replace h := if_t c_1 h
    refine v_iconst C (-1) (dk dcX10_string_0 5 rfl) ki_m1 ?_
    cases h
    exact v_iret C rfl (dk dcX10_string_0 6 rfl)
  · replace h := if_f c_1 h
    refine v_iload_n C 1 (dk dcX10_string_0 2 rfl) rfl rfl ?_
    refine v_iconst C 2 (dk dcX10_string_0 3 rfl) ki_2 ?_
    refine v_icmp_le C 11 (dk dcX10_string_0 4 rfl) (by decide) (fun c_2 => ?_) (fun c_2 => ?_)
    · replace h := if_t c_2 h
      refine v_aload_n C 0 (dk dcX10_string_0 7 rfl) rfl rfl ?_
      obtain ⟨r_4, h_3, h⟩ := bnd1_s h
      refine v_callV1 C (mtX10_isOver (L - 1) (by omega) h_3) wmX10_isOver wd_659 (by omega) (by decide) rfl _ (ce_DB) rfl rfl (Nat.le_of_ble_eq_true rfl) (dk dcX10_string_0 8 rfl) ?_
      refine v_if_eq C 21 (dk dcX10_string_0 9 rfl) (by decide) (fun c_5 => ?_) (fun c_5 => ?_)
      · replace h := if_t c_5 h
        refine v_aload_n C 0 (dk dcX10_string_0 12 rfl) rfl rfl ?_
        refine gt_DB_present C wd_345 (dk dcX10_string_0 13 rfl) ?_
        refine gt_Moment_beasts C (by decide) wd_235 (dk dcX10_string_0 14 rfl) ?_
        obtain ⟨r_7, h_6, h⟩ := bnd1_s h
        refine v_callV1 C (mtX5_placeOfLeast (L - 1) (by omega) (by decide) h_6) wmX5_placeOfLeast wd_925 (by omega) (by decide) rfl _ (ce_Strip (by decide)) rfl rfl (Nat.le_of_ble_eq_true rfl) (dk dcX10_string_0 15 rfl) ?_
        refine v_istore_n C (lv' := [(2, .int r_7), (0, .ref (aE E 0 0)), (1, .int x1)]) (dk dcX10_string_0 16 rfl) rfl (by decide) rfl ?_
        refine v_iload_n C 0 (dk dcX10_string_0 17 rfl) rfl rfl ?_
        refine v_if_ge C 39 (dk dcX10_string_0 18 rfl) (by decide) (fun c_8 => ?_) (fun c_8 => ?_)
        · replace h := if_t c_8 h
          refine v_iload_n C 2 (dk dcX10_string_0 21 rfl) rfl rfl ?_
          refine v_if_ne C 45 (dk dcX10_string_0 22 rfl) (by decide) (fun c_9 => ?_) (fun c_9 => ?_)
          · replace h := if_f c_9 h
            refine v_aload_n C 1 (dk dcX10_string_0 25 rfl) rfl rfl ?_
            refine gt_DB_walk C wd_341 (dk dcX10_string_0 26 rfl) ?_
            refine v_aload_n C 1 (dk dcX10_string_0 27 rfl) rfl rfl ?_
            refine gt_DB_present C wd_345 (dk dcX10_string_0 28 rfl) ?_
            refine gt_Moment_donkey C (by decide) wd_227 (dk dcX10_string_0 29 rfl) ?_
            obtain ⟨r_11, h_10, h⟩ := bnd1_s h
            refine v_callV1 C (mtX9_fearThere (L - 1) (by omega) (by decide) h_10) wmX9_fearThere wd_930 (by omega) (by decide) rfl _ (ce_Walk) rfl rfl (Nat.le_of_ble_eq_true rfl) (dk dcX10_string_0 30 rfl) ?_
            refine v_aload_n C 1 (dk dcX10_string_0 31 rfl) rfl rfl ?_
            refine gt_DB_present C wd_345 (dk dcX10_string_0 32 rfl) ?_
            refine gt_Moment_beasts C (by decide) wd_235 (dk dcX10_string_0 33 rfl) ?_
            refine v_iload_n C 0 (dk dcX10_string_0 34 rfl) rfl rfl ?_
            obtain ⟨r_13, h_12, h⟩ := bnd1_s h
            refine v_callV1 C (mtX5_get (L - 1) (by omega) (by decide) h_12) wmX5_get wd_934 (by omega) (by decide) rfl _ (ce_Strip (by decide)) rfl rfl (Nat.le_of_ble_eq_true rfl) (dk dcX10_string_0 35 rfl) ?_
            refine v_isub C (dk dcX10_string_0 36 rfl) ?_
            refine v_istore_n C (lv' := [(3, .int (r_11 - r_13)), (2, .int r_7), (0, .ref (aE E 0 0)), (1, .int x1)]) (dk dcX10_string_0 37 rfl) rfl (by decide) rfl ?_
            refine v_iconst C 0 (dk dcX10_string_0 38 rfl) ki_0 ?_
            refine v_iload_n C 0 (dk dcX10_string_0 39 rfl) rfl rfl ?_
            refine v_mmax C (by omega) wd_935 wn_maxS wn_math wn_maxC (Nat.le_of_ble_eq_true rfl) (dk dcX10_string_0 40 rfl) ?_
            refine v_bipush C 10 (dk dcX10_string_0 41 rfl) kb_10 ?_
            refine v_idiv C (dk dcX10_string_0 42 rfl) (by decide) ?_
            refine v_istore C (lv' := [(4, .int ((if (0 : Int32) < (r_11 - r_13) then (r_11 - r_13) else (0 : Int32)) / 10)), (3, .int (r_11 - r_13)), (2, .int r_7), (0, .ref (aE E 0 0)), (1, .int x1)]) (dk dcX10_string_0 43 rfl) (by decide) rfl ?_
            refine v_iload_n C 4 (dk dcX10_string_0 44 rfl) rfl rfl ?_
            refine v_iconst C 1 (dk dcX10_string_0 45 rfl) ki_1 ?_
            refine v_icmp_ne C 90 (dk dcX10_string_0 46 rfl) (by decide) (fun c_14 => ?_) (fun c_14 => ?_)
            · replace h := if_f c_14 h
              refine v_aload_n C 3 (dk dcX10_string_1 1 rfl) rfl rfl ?_
              refine gt_DB_walk C wd_341 (dk dcX10_string_1 2 rfl) ?_
              refine v_aload_n C 3 (dk dcX10_string_1 3 rfl) rfl rfl ?_
              refine gt_DB_present C wd_345 (dk dcX10_string_1 4 rfl) ?_
              refine gt_Moment_donkey C (by decide) wd_227 (dk dcX10_string_1 5 rfl) ?_
              refine v_iconst C 1 (dk dcX10_string_1 6 rfl) ki_1 ?_
              obtain ⟨g_16, r_17, h_15, h⟩ := bnd_s h
              refine v_callV1 C (mtX9_weigh (L - 1) (by omega) (by decide) h_15) wmX9_weigh wd_700 (by omega) (by decide) rfl _ (ce_Walk) rfl rfl (Nat.le_of_ble_eq_true rfl) (dk dcX10_string_1 7 rfl) ?_
              refine v_iload C 0 (dk dcX10_string_1 8 rfl) rfl ?_
              refine v_iadd C (dk dcX10_string_1 9 rfl) ?_
              refine v_if_le C 115 (dk dcX10_string_1 10 rfl) (by decide) (fun c_18 => ?_) (fun c_18 => ?_)
              · replace h := if_t c_18 h
                refine v_iconst C 0 (dk dcX10_string_1 13 rfl) ki_0 ?_
                cases h
                exact v_iret C rfl (dk dcX10_string_1 14 rfl)
              · replace h := if_f c_18 h
                refine v_iconst C 1 (dk dcX10_string_1 11 rfl) ki_1 ?_
                refine v_goto C 116 (dk dcX10_string_1 12 rfl) (by decide) ?_
                cases h
                exact v_iret C rfl (dk dcX10_string_1 14 rfl)
            · replace h := if_t c_14 h
              refine v_iload C 0 (dk dcX10_string_0 47 rfl) rfl ?_
              cases h
              exact v_iret C rfl (dk dcX10_string_1 0 rfl)
          · replace h := if_t c_9 h
            refine v_iload_n C 0 (dk dcX10_string_0 23 rfl) rfl rfl ?_
            cases h
            exact v_iret C rfl (dk dcX10_string_0 24 rfl)
        · replace h := if_f c_8 h
          refine v_bipush C (-5) (dk dcX10_string_0 19 rfl) kb_m5 ?_
          cases h
          exact v_iret C rfl (dk dcX10_string_0 20 rfl)
      · replace h := if_f c_5 h
        refine v_bipush C (-3) (dk dcX10_string_0 10 rfl) kb_m3 ?_
        cases h
        exact v_iret C rfl (dk dcX10_string_0 11 rfl)
    · replace h := if_f c_2 h
      refine v_iconst C (-1) (dk dcX10_string_0 5 rfl) ki_m1 ?_
      cases h
      exact v_iret C rfl (dk dcX10_string_0 6 rfl)
set_option maxRecDepth 20000 in
set_option maxHeartbeats 4000000 in
theorem mtX8_keepTried {l : Launch} {E : WEt} {wx : va_W} (L : Nat) (hL : 2 ≤ L)  {g : STt} {x1 : Int32} {g' : STt} (h : fX8_keepTried g x1 = some g') : MT l E yX8_keepTried cX8_keepTried 2 none (L + 1) [.ref (aE E 10 0), .int x1] (cellsC E g ++ wx) (cellsC E g' ++ wx) none := by
  refine mt_of (by decide +kernel) (Nat.le_of_ble_eq_true rfl) ?_
  intro p e s m args below meth c C
  replace C : CX p s m args meth c cX8_keepTried 2 RX8 none E := C
  unfold fX8_keepTried at h
  refine vj_sub (lv' := [(0, .ref (aE E 10 0)), (1, .int x1)]) [0, 1] rfl ?_
  refine v_aload_n C 0 (dk dcX8_keepTried_0 0 rfl) rfl rfl ?_
  refine v_iload_n C 1 (dk dcX8_keepTried_0 1 rfl) rfl rfl ?_
  refine pt_Trial_bestSize C wd_269 (dk dcX8_keepTried_0 2 rfl) ?_
  refine v_aload_n C 0 (dk dcX8_keepTried_0 3 rfl) rfl rfl ?_
  refine gt_Trial_tried C wd_267 (dk dcX8_keepTried_0 4 rfl) ?_
  refine v_iconst C 0 (dk dcX8_keepTried_0 5 rfl) ki_0 ?_
  refine v_aload_n C 0 (dk dcX8_keepTried_0 6 rfl) rfl rfl ?_
  refine gt_Trial_best C wd_268 (dk dcX8_keepTried_0 7 rfl) ?_
  refine v_iconst C 0 (dk dcX8_keepTried_0 8 rfl) ki_0 ?_
  refine v_aload_n C 0 (dk dcX8_keepTried_0 9 rfl) rfl rfl ?_
  refine gt_Trial_best C wd_268 (dk dcX8_keepTried_0 10 rfl) ?_
  refine al_best C (dk dcX8_keepTried_0 11 rfl) ?_
  obtain ⟨b_1, h⟩ := gd_t h
  refine v_copyi C (by omega) wd_824 wn_copy wn_copyS wn_sys _ _ rfl rfl (ce_tried) (ce_best) (cpB_1 b_1) (cpB_2 b_1) (cpB_3 b_1) (cpB_4 b_1) (cpB_5 b_1) (Nat.le_of_ble_eq_true rfl) (dk dcX8_keepTried_0 12 rfl) (se_best _) ?_
  cases h
  exact v_vret C rfl (dk dcX8_keepTried_0 13 rfl)
set_option maxRecDepth 20000 in
set_option maxHeartbeats 4000000 in
theorem vX8_trySooner_j20 {L : Nat} (hL : 6 ≤ L) {qX8_trySooner : STt → Int32 → Option STt} {qX8_trySoonerWith : STt → Int32 → Int32 → Option STt} (hcX8_trySooner : ∀ {g : STt} {x1 : Int32} {g' : STt}, qX8_trySooner g x1 = some g' → MT l E yX8_trySooner cX8_trySooner 3 none (L) [.ref (aE E 10 0), .int x1] (cellsC E g ++ wx) (cellsC E g' ++ wx) none) (hcX8_trySoonerWith : ∀ {g : STt} {x1 : Int32} {x2 : Int32} {g' : STt}, qX8_trySoonerWith g x1 x2 = some g' → MT l E yX8_trySoonerWith cX8_trySoonerWith 4 none (L) [.ref (aE E 10 0), .int x1, .int x2] (cellsC E g ++ wx) (cellsC E g' ++ wx) none) (C : CX p s m args meth c cX8_trySooner 3 RX8 none E) {g : STt} {l1 : Int32} {l2 : Int32} {K2 : (STt × Int32) → Option STt} (hK2 : ∀ {g : STt} {l2 : Int32} (r : STt), K2 (g, l2) = some r → VJ p l e (rmL (L + 1)) s m args below meth c (QE below E (cellsC E r ++ wx) (none) args s) E 3 (cellsC E g ++ wx) [(0, .ref (aE E 10 0)), (1, .int l1), (2, .int l2)] [] 2) (r : STt) (h : fX8_trySooner_j20 qX8_trySooner qX8_trySoonerWith K2 g l1 l2 = some r) : VJ p l e (rmL (L + 1)) s m args below meth c (QE below E (cellsC E r ++ wx) (none) args s) E 3 (cellsC E g ++ wx) [(0, .ref (aE E 10 0)), (1, .int l1), (2, .int l2)] [] 20 := by
  unfold fX8_trySooner_j20 at h
  refine v_iinc C (lv' := [(2, .int (l2 + 1)), (0, .ref (aE E 10 0)), (1, .int l1)]) (l2 + 1) 2 (dk dcX8_trySooner_0 12 rfl) rfl (congrArg (fun z => l2 + z) ki_1) (by decide) rfl ?_
  refine v_goto C 2 (dk dcX8_trySooner_0 13 rfl) (by decide) ?_
  exact vj_sub [1, 2, 0] rfl (hK2 _ h)
set_option maxRecDepth 20000 in
set_option maxHeartbeats 4000000 in
theorem vX8_trySooner_l2c {L : Nat} (hL : 6 ≤ L) {qX8_trySooner : STt → Int32 → Option STt} {qX8_trySoonerWith : STt → Int32 → Int32 → Option STt} (hcX8_trySooner : ∀ {g : STt} {x1 : Int32} {g' : STt}, qX8_trySooner g x1 = some g' → MT l E yX8_trySooner cX8_trySooner 3 none (L) [.ref (aE E 10 0), .int x1] (cellsC E g ++ wx) (cellsC E g' ++ wx) none) (hcX8_trySoonerWith : ∀ {g : STt} {x1 : Int32} {x2 : Int32} {g' : STt}, qX8_trySoonerWith g x1 x2 = some g' → MT l E yX8_trySoonerWith cX8_trySoonerWith 4 none (L) [.ref (aE E 10 0), .int x1, .int x2] (cellsC E g ++ wx) (cellsC E g' ++ wx) none) (C : CX p s m args meth c cX8_trySooner 3 RX8 none E) {l1 : Int32} {K2 : (STt × Int32) → Option STt} (hK2 : ∀ {g : STt} {l2 : Int32} (r : STt), K2 (g, l2) = some r → VJ p l e (rmL (L + 1)) s m args below meth c (QE below E (cellsC E r ++ wx) (none) args s) E 3 (cellsC E g ++ wx) [(0, .ref (aE E 10 0)), (1, .int l1), (2, .int l2)] [] 2) {g : STt} {l2 : Int32} (r : STt) (h : fX8_trySooner_l2c qX8_trySooner qX8_trySoonerWith K2 l1 g l2 = some r) : VJ p l e (rmL (L + 1)) s m args below meth c (QE below E (cellsC E r ++ wx) (none) args s) E 3 (cellsC E g ++ wx) [(0, .ref (aE E 10 0)), (1, .int l1), (2, .int l2)] [] 2 := by
  unfold fX8_trySooner_l2c at h
  refine v_iload_n C 2 (dk dcX8_trySooner_0 2 rfl) rfl rfl ?_
  refine v_bipush C 7 (dk dcX8_trySooner_0 3 rfl) kb_7 ?_
  refine v_icmp_gt C 26 (dk dcX8_trySooner_0 4 rfl) (by decide) (fun c_1 => ?_) (fun c_1 => ?_)
  · replace h := if_t c_1 h
    cases h
    exact v_vret C rfl (dk dcX8_trySooner_0 14 rfl)
  · replace h := if_f c_1 h
    refine v_iload_n C 2 (dk dcX8_trySooner_0 5 rfl) rfl rfl ?_
    refine v_bipush C 6 (dk dcX8_trySooner_0 6 rfl) kb_6 ?_
    refine v_icmp_eq C 20 (dk dcX8_trySooner_0 7 rfl) (by decide) (fun c_2 => ?_) (fun c_2 => ?_)
    · replace h := if_t c_2 h
      exact vj_sub [0, 1, 2] rfl (vX8_trySooner_j20 hL hcX8_trySooner hcX8_trySoonerWith C hK2 _ h)
    · replace h := if_f c_2 h
      refine v_aload_n C 0 (dk dcX8_trySooner_0 8 rfl) rfl rfl ?_
      refine v_iload_n C 1 (dk dcX8_trySooner_0 9 rfl) rfl rfl ?_
      refine v_iload_n C 2 (dk dcX8_trySooner_0 10 rfl) rfl rfl ?_
      obtain ⟨g_4, h_3, h⟩ := bnd1_s h
      refine v_callV0 C (hcX8_trySoonerWith h_3) wmX8_trySoonerWith wd_812 (by omega) (by decide) rfl _ (ce_Trial) rfl rfl (Nat.le_of_ble_eq_true rfl) (dk dcX8_trySooner_0 11 rfl) ?_
      exact vj_sub [0, 1, 2] rfl (vX8_trySooner_j20 hL hcX8_trySooner hcX8_trySoonerWith C hK2 _ h)
set_option maxRecDepth 20000 in
set_option maxHeartbeats 4000000 in
theorem vX8_trySooner_l2 {L : Nat} (hL : 6 ≤ L) {qX8_trySooner : STt → Int32 → Option STt} {qX8_trySoonerWith : STt → Int32 → Int32 → Option STt} (hcX8_trySooner : ∀ {g : STt} {x1 : Int32} {g' : STt}, qX8_trySooner g x1 = some g' → MT l E yX8_trySooner cX8_trySooner 3 none (L) [.ref (aE E 10 0), .int x1] (cellsC E g ++ wx) (cellsC E g' ++ wx) none) (hcX8_trySoonerWith : ∀ {g : STt} {x1 : Int32} {x2 : Int32} {g' : STt}, qX8_trySoonerWith g x1 x2 = some g' → MT l E yX8_trySoonerWith cX8_trySoonerWith 4 none (L) [.ref (aE E 10 0), .int x1, .int x2] (cellsC E g ++ wx) (cellsC E g' ++ wx) none) (C : CX p s m args meth c cX8_trySooner 3 RX8 none E) {l1 : Int32} {g : STt} {l2 : Int32} (r : STt) (h : fX8_trySooner_l2 qX8_trySooner qX8_trySoonerWith l1 g l2 = some r) : VJ p l e (rmL (L + 1)) s m args below meth c (QE below E (cellsC E r ++ wx) (none) args s) E 3 (cellsC E g ++ wx) [(0, .ref (aE E 10 0)), (1, .int l1), (2, .int l2)] [] 2 :=
  iterO_ind (F := fun K z => fX8_trySooner_l2c qX8_trySooner qX8_trySoonerWith K l1 z.1 z.2) (fun z r => VJ p l e (rmL (L + 1)) s m args below meth c (QE below E (cellsC E r ++ wx) (none) args s) E 3 (cellsC E z.1 ++ wx) [(0, .ref (aE E 10 0)), (1, .int l1), (2, .int z.2)] [] 2) (fun K hK z r h => vX8_trySooner_l2c hL hcX8_trySooner hcX8_trySoonerWith C (fun {g} {l2} r h => hK (g, l2) r h) r h) fuelN (g, l2) r h
set_option maxRecDepth 20000 in
set_option maxHeartbeats 4000000 in
theorem moX8_trySooner {l : Launch} {E : WEt} {wx : va_W} (L : Nat) (hL : 6 ≤ L) {qX8_trySooner : STt → Int32 → Option STt} {qX8_trySoonerWith : STt → Int32 → Int32 → Option STt} (hcX8_trySooner : ∀ {g : STt} {x1 : Int32} {g' : STt}, qX8_trySooner g x1 = some g' → MT l E yX8_trySooner cX8_trySooner 3 none (L) [.ref (aE E 10 0), .int x1] (cellsC E g ++ wx) (cellsC E g' ++ wx) none) (hcX8_trySoonerWith : ∀ {g : STt} {x1 : Int32} {x2 : Int32} {g' : STt}, qX8_trySoonerWith g x1 x2 = some g' → MT l E yX8_trySoonerWith cX8_trySoonerWith 4 none (L) [.ref (aE E 10 0), .int x1, .int x2] (cellsC E g ++ wx) (cellsC E g' ++ wx) none)  {g : STt} {x1 : Int32} {g' : STt} (h : FX8_trySooner qX8_trySooner qX8_trySoonerWith g x1 = some g') : MT l E yX8_trySooner cX8_trySooner 3 none (L + 1) [.ref (aE E 10 0), .int x1] (cellsC E g ++ wx) (cellsC E g' ++ wx) none := by
  refine mt_of (by decide +kernel) (Nat.le_of_ble_eq_true rfl) ?_
  intro p e s m args below meth c C
  replace C : CX p s m args meth c cX8_trySooner 3 RX8 none E := C
  unfold FX8_trySooner at h
  refine vj_sub (lv' := [(0, .ref (aE E 10 0)), (1, .int x1)]) [0, 1] rfl ?_
  refine v_iconst C 0 (dk dcX8_trySooner_0 0 rfl) ki_0 ?_
  refine v_istore_n C (lv' := [(2, .int 0), (0, .ref (aE E 10 0)), (1, .int x1)]) (dk dcX8_trySooner_0 1 rfl) rfl (by decide) rfl ?_
  exact vj_sub [1, 2, 0] rfl (vX8_trySooner_l2 hL hcX8_trySooner hcX8_trySoonerWith C _ h)
set_option maxRecDepth 20000 in
set_option maxHeartbeats 4000000 in
theorem moX8_trySoonerWith {l : Launch} {E : WEt} {wx : va_W} (L : Nat) (hL : 6 ≤ L) {qX8_trySooner : STt → Int32 → Option STt} {qX8_trySoonerWith : STt → Int32 → Int32 → Option STt} (hcX8_trySooner : ∀ {g : STt} {x1 : Int32} {g' : STt}, qX8_trySooner g x1 = some g' → MT l E yX8_trySooner cX8_trySooner 3 none (L) [.ref (aE E 10 0), .int x1] (cellsC E g ++ wx) (cellsC E g' ++ wx) none) (hcX8_trySoonerWith : ∀ {g : STt} {x1 : Int32} {x2 : Int32} {g' : STt}, qX8_trySoonerWith g x1 x2 = some g' → MT l E yX8_trySoonerWith cX8_trySoonerWith 4 none (L) [.ref (aE E 10 0), .int x1, .int x2] (cellsC E g ++ wx) (cellsC E g' ++ wx) none)  {g : STt} {x1 : Int32} {x2 : Int32} {g' : STt} (h : FX8_trySoonerWith qX8_trySooner qX8_trySoonerWith g x1 x2 = some g') : MT l E yX8_trySoonerWith cX8_trySoonerWith 4 none (L + 1) [.ref (aE E 10 0), .int x1, .int x2] (cellsC E g ++ wx) (cellsC E g' ++ wx) none := by
  refine mt_of (by decide +kernel) (Nat.le_of_ble_eq_true rfl) ?_
  intro p e s m args below meth c C
  replace C : CX p s m args meth c cX8_trySoonerWith 4 RX8 none E := C
  unfold FX8_trySoonerWith at h
  refine vj_sub (lv' := [(0, .ref (aE E 10 0)), (1, .int x1), (2, .int x2)]) [0, 1, 2] rfl ?_
  refine v_iload_n C 1 (dk dcX8_trySoonerWith_0 0 rfl) rfl rfl ?_
  refine v_if_lt C 23 (dk dcX8_trySoonerWith_0 1 rfl) (by decide) (fun c_1 => ?_) (fun c_1 => ?_)
  · replace h := if_t c_1 h
    cases h
    exact v_vret C rfl (dk dcX8_trySoonerWith_0 13 rfl)
  · replace h := if_f c_1 h
    refine v_iload_n C 1 (dk dcX8_trySoonerWith_0 2 rfl) rfl rfl ?_
    refine v_aload_n C 0 (dk dcX8_trySoonerWith_0 3 rfl) rfl rfl ?_
    refine gt_Trial_tried C wd_267 (dk dcX8_trySoonerWith_0 4 rfl) ?_
    refine al_tried C (dk dcX8_trySoonerWith_0 5 rfl) ?_
    refine v_icmp_ge C 23 (dk dcX8_trySoonerWith_0 6 rfl) (by decide) (fun c_2 => ?_) (fun c_2 => ?_)
    · replace h := if_t c_2 h
      cases h
      exact v_vret C rfl (dk dcX8_trySoonerWith_0 13 rfl)
    · replace h := if_f c_2 h
      refine v_iload_n C 1 (dk dcX8_trySoonerWith_0 7 rfl) rfl rfl ?_
      refine v_iconst C 1 (dk dcX8_trySoonerWith_0 8 rfl) ki_1 ?_
      refine v_iadd C (dk dcX8_trySoonerWith_0 9 rfl) ?_
      refine v_aload_n C 0 (dk dcX8_trySoonerWith_0 10 rfl) rfl rfl ?_
      refine gt_Trial_bestSize C wd_269 (dk dcX8_trySoonerWith_0 11 rfl) ?_
      refine v_icmp_lt C 24 (dk dcX8_trySoonerWith_0 12 rfl) (by decide) (fun c_3 => ?_) (fun c_3 => ?_)
      · replace h := if_t c_3 h
        refine v_aload_n C 0 (dk dcX8_trySoonerWith_0 14 rfl) rfl rfl ?_
        refine v_iload_n C 1 (dk dcX8_trySoonerWith_0 15 rfl) rfl rfl ?_
        obtain ⟨g_5, r_6, h_4, h⟩ := bnd_s h
        refine v_callV1 C (mtX8_stageAfter (L - 1) (by omega) h_4) wmX8_stageAfter wd_816 (by omega) (by decide) rfl _ (ce_Trial) rfl rfl (Nat.le_of_ble_eq_true rfl) (dk dcX8_trySoonerWith_0 16 rfl) ?_
        obtain ⟨b_7, h⟩ := gd_t h
        refine v_astore_n C (lv' := [(3, .ref (aE E 19 r_6)), (0, .ref (aE E 10 0)), (1, .int x1), (2, .int x2)]) (dk dcX8_trySoonerWith_0 17 rfl) rfl (by decide) rfl ?_
        refine v_aload_n C 1 (dk dcX8_trySoonerWith_0 18 rfl) rfl rfl ?_
        refine gt_Trial_walk C wd_263 (dk dcX8_trySoonerWith_0 19 rfl) ?_
        refine v_aload_n C 0 (dk dcX8_trySoonerWith_0 20 rfl) rfl rfl ?_
        refine v_iload_n C 3 (dk dcX8_trySoonerWith_0 21 rfl) rfl rfl ?_
        refine v_iconst C 0 (dk dcX8_trySoonerWith_0 22 rfl) ki_0 ?_
        obtain ⟨g_9, r_10, h_8, h⟩ := bnd_s h
        refine v_callV1 C (mtX9_step (L - 1) (by omega) b_7 h_8) wmX9_step wd_799 (by omega) (by decide) rfl _ (ce_Walk) rfl rfl (Nat.le_of_ble_eq_true rfl) (dk dcX8_trySoonerWith_0 23 rfl) ?_
        refine v_pop C rfl (dk dcX8_trySoonerWith_0 24 rfl) ?_
        refine v_aload_n C 1 (dk dcX8_trySoonerWith_0 25 rfl) rfl rfl ?_
        refine gt_Trial_tried C wd_267 (dk dcX8_trySoonerWith_0 26 rfl) ?_
        refine v_iload_n C 2 (dk dcX8_trySoonerWith_0 27 rfl) rfl rfl ?_
        refine v_iload_n C 3 (dk dcX8_trySoonerWith_0 28 rfl) rfl rfl ?_
        obtain ⟨b_11, h⟩ := gd_t h
        refine st_tried C b_11 (dk dcX8_trySoonerWith_0 29 rfl) ?_
        refine v_aload_n C 0 (dk dcX8_trySoonerWith_0 30 rfl) rfl rfl ?_
        refine v_bipush C 12 (dk dcX8_trySoonerWith_0 31 rfl) kb_12 ?_
        obtain ⟨r_13, h_12, h⟩ := bnd1_s h
        refine v_callV1 C (mtX1_get (L - 1) (by omega) b_7 h_12) wmX1_get wd_792 (by omega) (by decide) rfl _ (ce_Donkey b_7) rfl rfl (Nat.le_of_ble_eq_true rfl) (dk dcX8_trySoonerWith_0 32 rfl) ?_
        refine v_aload_n C 1 (dk dcX8_trySoonerWith_0 33 rfl) rfl rfl ?_
        refine gt_Trial_goal C wd_271 (dk dcX8_trySoonerWith_0 34 rfl) ?_
        refine v_icmp_ne C 71 (dk dcX8_trySoonerWith_0 35 rfl) (by decide) (fun c_14 => ?_) (fun c_14 => ?_)
        · replace h := if_f c_14 h
          refine v_aload_n C 1 (dk dcX8_trySoonerWith_0 42 rfl) rfl rfl ?_
          refine v_iload_n C 2 (dk dcX8_trySoonerWith_0 43 rfl) rfl rfl ?_
          refine v_iconst C 1 (dk dcX8_trySoonerWith_0 44 rfl) ki_1 ?_
          refine v_iadd C (dk dcX8_trySoonerWith_0 45 rfl) ?_
          obtain ⟨g_16, h_15, h⟩ := bnd1_s h
          refine v_callV0 C (hcX8_trySooner h_15) wmX8_trySooner wd_808 (by omega) (by decide) rfl _ (ce_Trial) rfl rfl (Nat.le_of_ble_eq_true rfl) (dk dcX8_trySoonerWith_0 46 rfl) ?_
          cases h
          exact v_vret C rfl (dk dcX8_trySoonerWith_0 47 rfl)
        · replace h := if_t c_14 h
          refine v_aload_n C 1 (dk dcX8_trySoonerWith_0 36 rfl) rfl rfl ?_
          refine v_iload_n C 2 (dk dcX8_trySoonerWith_0 37 rfl) rfl rfl ?_
          refine v_iconst C 1 (dk dcX8_trySoonerWith_0 38 rfl) ki_1 ?_
          refine v_iadd C (dk dcX8_trySoonerWith_0 39 rfl) ?_
          obtain ⟨g_16, h_15, h⟩ := bnd1_s h
          refine v_callV0 C (mtX8_keepTried (L - 1) (by omega) h_15) wmX8_keepTried wd_820 (by omega) (by decide) rfl _ (ce_Trial) rfl rfl (Nat.le_of_ble_eq_true rfl) (dk dcX8_trySoonerWith_0 40 rfl) ?_
          refine v_goto C 78 (dk dcX8_trySoonerWith_0 41 rfl) (by decide) ?_
          cases h
          exact v_vret C rfl (dk dcX8_trySoonerWith_0 47 rfl)
      · replace h := if_f c_3 h
        cases h
        exact v_vret C rfl (dk dcX8_trySoonerWith_0 13 rfl)
set_option maxRecDepth 20000 in
set_option maxHeartbeats 4000000 in
theorem mgX8_trySooner {l : Launch} {E : WEt} {wx : va_W} : ∀ (n L : Nat), 6 ≤ L → (∀ {g : STt} {x1 : Int32} {g' : STt}, (RGX8_trySooner n).1 g x1 = some g' → MT l E yX8_trySooner cX8_trySooner 3 none (L + n) [.ref (aE E 10 0), .int x1] (cellsC E g ++ wx) (cellsC E g' ++ wx) none) ∧ (∀ {g : STt} {x1 : Int32} {x2 : Int32} {g' : STt}, (RGX8_trySooner n).2 g x1 x2 = some g' → MT l E yX8_trySoonerWith cX8_trySoonerWith 4 none (L + n) [.ref (aE E 10 0), .int x1, .int x2] (cellsC E g ++ wx) (cellsC E g' ++ wx) none) := by
  intro n
  induction n with
  | zero => intro L hL; exact ⟨(by intros; rename_i h; cases h), (by intros; rename_i h; cases h)⟩
  | succ n ih =>
    intro L hL
    obtain ⟨i0, i1⟩ := ih L hL
    exact ⟨fun {_} {_} {_} h => moX8_trySooner (L + n) (by omega) i0 i1 h, fun {_} {_} {_} {_} h => moX8_trySoonerWith (L + n) (by omega) i0 i1 h⟩
set_option maxRecDepth 20000 in
set_option maxHeartbeats 4000000 in
theorem mtX8_trySooner {l : Launch} {E : WEt} {wx : va_W} (L : Nat) (hL : 26 ≤ L) {g : STt} {x1 : Int32} {g' : STt} (h : fX8_trySooner fuelX8_trySooner g x1 = some g') : MT l E yX8_trySooner cX8_trySooner 3 none (L + 1) [.ref (aE E 10 0), .int x1] (cellsC E g ++ wx) (cellsC E g' ++ wx) none := by
  have e : L + 1 = (L + 1 - fuelX8_trySooner) + fuelX8_trySooner := by show L + 1 = (L + 1 - 20) + 20; omega
  rw [e]
  exact (mgX8_trySooner fuelX8_trySooner (L + 1 - fuelX8_trySooner) (by show 6 ≤ L + 1 - 20; omega)).1  h
set_option maxRecDepth 20000 in
set_option maxHeartbeats 4000000 in
theorem mtX8_trySoonerWith {l : Launch} {E : WEt} {wx : va_W} (L : Nat) (hL : 26 ≤ L) {g : STt} {x1 : Int32} {x2 : Int32} {g' : STt} (h : fX8_trySoonerWith fuelX8_trySooner g x1 x2 = some g') : MT l E yX8_trySoonerWith cX8_trySoonerWith 4 none (L + 1) [.ref (aE E 10 0), .int x1, .int x2] (cellsC E g ++ wx) (cellsC E g' ++ wx) none := by
  have e : L + 1 = (L + 1 - fuelX8_trySooner) + fuelX8_trySooner := by show L + 1 = (L + 1 - 20) + 20; omega
  rw [e]
  exact (mgX8_trySooner fuelX8_trySooner (L + 1 - fuelX8_trySooner) (by show 6 ≤ L + 1 - 20; omega)).2  h
set_option maxRecDepth 20000 in
set_option maxHeartbeats 4000000 in
theorem vX8_findSoonest_j31 {L : Nat} (hL : 27 ≤ L) (C : CX p s m args meth c cX8_findSoonest 2 RX8 (some .int) E) {g : STt} (r : STt × Int32) (h : fX8_findSoonest_j31 g = some r) : VJ p l e (rmL (L + 1)) s m args below meth c (QE below E (cellsC E r.1 ++ wx) (some (.int r.2)) args s) E 2 (cellsC E g ++ wx) [(0, .ref (aE E 10 0))] [] 31 := by
  unfold fX8_findSoonest_j31 at h
  refine v_aload_n C 0 (dk dcX8_findSoonest_0 18 rfl) rfl rfl ?_
  refine gt_Trial_bestSize C wd_269 (dk dcX8_findSoonest_0 19 rfl) ?_
  cases h
  exact v_iret C rfl (dk dcX8_findSoonest_0 20 rfl)
set_option maxRecDepth 20000 in
set_option maxHeartbeats 4000000 in
theorem mtX8_findSoonest {l : Launch} {E : WEt} {wx : va_W} (L : Nat) (hL : 27 ≤ L)  {g : STt} {x1 : Int32} {g' : STt} {rr : Int32} (h : fX8_findSoonest g x1 = some (g', rr)) : MT l E yX8_findSoonest cX8_findSoonest 2 (some .int) (L + 1) [.ref (aE E 10 0), .int x1] (cellsC E g ++ wx) (cellsC E g' ++ wx) (some (.int rr)) := by
  refine mt_of (by decide +kernel) (Nat.le_of_ble_eq_true rfl) ?_
  intro p e s m args below meth c C
  replace C : CX p s m args meth c cX8_findSoonest 2 RX8 (some .int) E := C
  unfold fX8_findSoonest at h
  refine vj_sub (lv' := [(0, .ref (aE E 10 0)), (1, .int x1)]) [0, 1] rfl ?_
  refine v_aload_n C 0 (dk dcX8_findSoonest_0 0 rfl) rfl rfl ?_
  obtain ⟨g_2, r_3, h_1, h⟩ := bnd_s h
  refine v_callV1 C (mtX8_begin (L - 1) (by omega) h_1) wmX8_begin wd_777 (by omega) (by decide) rfl _ (ce_Trial) rfl rfl (Nat.le_of_ble_eq_true rfl) (dk dcX8_findSoonest_0 1 rfl) ?_
  obtain ⟨b_4, h⟩ := gd_t h
  refine v_pop C rfl (dk dcX8_findSoonest_0 2 rfl) ?_
  refine v_aload_n C 0 (dk dcX8_findSoonest_0 3 rfl) rfl rfl ?_
  refine v_iload_n C 1 (dk dcX8_findSoonest_0 4 rfl) rfl rfl ?_
  refine v_iconst C 1 (dk dcX8_findSoonest_0 5 rfl) ki_1 ?_
  refine v_iadd C (dk dcX8_findSoonest_0 6 rfl) ?_
  refine pt_Trial_bestSize C wd_269 (dk dcX8_findSoonest_0 7 rfl) ?_
  refine v_aload_n C 0 (dk dcX8_findSoonest_0 8 rfl) rfl rfl ?_
  refine v_iconst C 0 (dk dcX8_findSoonest_0 9 rfl) ki_0 ?_
  obtain ⟨g_6, h_5, h⟩ := bnd1_s h
  refine v_callV0 C (mtX8_trySooner (L - 1) (by omega) h_5) wmX8_trySooner wd_808 (by omega) (by decide) rfl _ (ce_Trial) rfl rfl (Nat.le_of_ble_eq_true rfl) (dk dcX8_findSoonest_0 10 rfl) ?_
  refine v_aload_n C 0 (dk dcX8_findSoonest_0 11 rfl) rfl rfl ?_
  refine gt_Trial_bestSize C wd_269 (dk dcX8_findSoonest_0 12 rfl) ?_
  refine v_iload_n C 1 (dk dcX8_findSoonest_0 13 rfl) rfl rfl ?_
  refine v_icmp_le C 31 (dk dcX8_findSoonest_0 14 rfl) (by decide) (fun c_7 => ?_) (fun c_7 => ?_)
  · replace h := if_t c_7 h
    exact vj_sub [0] rfl (vX8_findSoonest_j31 hL C _ h)
  · replace h := if_f c_7 h
    refine v_aload_n C 0 (dk dcX8_findSoonest_0 15 rfl) rfl rfl ?_
    refine v_bipush C (-5) (dk dcX8_findSoonest_0 16 rfl) kb_m5 ?_
    refine pt_Trial_bestSize C wd_269 (dk dcX8_findSoonest_0 17 rfl) ?_
    exact vj_sub [0] rfl (vX8_findSoonest_j31 hL C _ h)
set_option maxRecDepth 20000 in
set_option maxHeartbeats 4000000 in
theorem mtX8_found {l : Launch} {E : WEt} {wx : va_W} (L : Nat) (hL : 2 ≤ L)  {g : STt} {x1 : Int32} {rr : Int32} (h : fX8_found g x1 = some rr) : MT l E yX8_found cX8_found 2 (some .int) (L + 1) [.ref (aE E 10 0), .int x1] (cellsC E g ++ wx) (cellsC E g ++ wx) (some (.int rr)) := by
  refine mt_of (by decide +kernel) (Nat.le_of_ble_eq_true rfl) ?_
  intro p e s m args below meth c C
  replace C : CX p s m args meth c cX8_found 2 RX8 (some .int) E := C
  unfold fX8_found at h
  refine vj_sub (lv' := [(0, .ref (aE E 10 0)), (1, .int x1)]) [0, 1] rfl ?_
  refine v_iload_n C 1 (dk dcX8_found_0 0 rfl) rfl rfl ?_
  refine v_if_lt C 30 (dk dcX8_found_0 1 rfl) (by decide) (fun c_1 => ?_) (fun c_1 => ?_)
  · replace h := if_t c_1 h
    refine v_bipush C (-5) (dk dcX8_found_0 16 rfl) kb_m5 ?_
    cases h
    exact v_iret C rfl (dk dcX8_found_0 17 rfl)
  · replace h := if_f c_1 h
    refine v_iload_n C 1 (dk dcX8_found_0 2 rfl) rfl rfl ?_
    refine v_aload_n C 0 (dk dcX8_found_0 3 rfl) rfl rfl ?_
    refine gt_Trial_bestSize C wd_269 (dk dcX8_found_0 4 rfl) ?_
    refine v_icmp_ge C 30 (dk dcX8_found_0 5 rfl) (by decide) (fun c_2 => ?_) (fun c_2 => ?_)
    · replace h := if_t c_2 h
      refine v_bipush C (-5) (dk dcX8_found_0 16 rfl) kb_m5 ?_
      cases h
      exact v_iret C rfl (dk dcX8_found_0 17 rfl)
    · replace h := if_f c_2 h
      refine v_iload_n C 1 (dk dcX8_found_0 6 rfl) rfl rfl ?_
      refine v_aload_n C 0 (dk dcX8_found_0 7 rfl) rfl rfl ?_
      refine gt_Trial_best C wd_268 (dk dcX8_found_0 8 rfl) ?_
      refine al_best C (dk dcX8_found_0 9 rfl) ?_
      refine v_icmp_ge C 30 (dk dcX8_found_0 10 rfl) (by decide) (fun c_3 => ?_) (fun c_3 => ?_)
      · replace h := if_t c_3 h
        refine v_bipush C (-5) (dk dcX8_found_0 16 rfl) kb_m5 ?_
        cases h
        exact v_iret C rfl (dk dcX8_found_0 17 rfl)
      · replace h := if_f c_3 h
        refine v_aload_n C 0 (dk dcX8_found_0 11 rfl) rfl rfl ?_
        refine gt_Trial_best C wd_268 (dk dcX8_found_0 12 rfl) ?_
        refine v_iload_n C 1 (dk dcX8_found_0 13 rfl) rfl rfl ?_
        obtain ⟨b_4, h⟩ := gd_t h
        refine ld_best C b_4 (dk dcX8_found_0 14 rfl) ?_
        refine v_goto C 32 (dk dcX8_found_0 15 rfl) (by decide) ?_
        cases h
        exact v_iret C rfl (dk dcX8_found_0 17 rfl)
set_option maxRecDepth 20000 in
set_option maxHeartbeats 4000000 in
theorem mtX10_soonest {l : Launch} {E : WEt} {wx : va_W} (L : Nat) (hL : 28 ≤ L)  {g : STt} {x1 : Int32} {x2 : Int32} {g' : STt} {rr : Int32} (h : fX10_soonest g x1 x2 = some (g', rr)) : MT l E yX10_soonest cX10_soonest 4 (some .int) (L + 1) [.ref (aE E 0 0), .int x1, .int x2] (cellsC E g ++ wx) (cellsC E g' ++ wx) (some (.int rr)) := by
  refine mt_of (by decide +kernel) (Nat.le_of_ble_eq_true rfl) ?_
  intro p e s m args below meth c C
  replace C : CX p s m args meth c cX10_soonest 4 RX10 (some .int) E := C
  unfold fX10_soonest at h
  refine vj_sub (lv' := [(0, .ref (aE E 0 0)), (1, .int x1), (2, .int x2)]) [0, 1, 2] rfl ?_
  refine v_iload_n C 2 (dk dcX10_soonest_0 0 rfl) rfl rfl ?_
  refine v_iconst C (-1) (dk dcX10_soonest_0 1 rfl) ki_m1 ?_
  refine v_icmp_lt C 10 (dk dcX10_soonest_0 2 rfl) (by decide) (fun c_1 => ?_) (fun c_1 => ?_)
  · replace h := if_t c_1 h
    refine v_iconst C (-1) (dk dcX10_soonest_0 6 rfl) ki_m1 ?_
    cases h
    exact v_iret C rfl (dk dcX10_soonest_0 7 rfl)
  · replace h := if_f c_1 h
    refine v_iload_n C 2 (dk dcX10_soonest_0 3 rfl) rfl rfl ?_
    refine v_iconst C 4 (dk dcX10_soonest_0 4 rfl) ki_4 ?_
    refine v_icmp_lt C 12 (dk dcX10_soonest_0 5 rfl) (by decide) (fun c_2 => ?_) (fun c_2 => ?_)
    · replace h := if_t c_2 h
      refine v_iload_n C 1 (dk dcX10_soonest_0 8 rfl) rfl rfl ?_
      refine v_if_lt C 21 (dk dcX10_soonest_0 9 rfl) (by decide) (fun c_3 => ?_) (fun c_3 => ?_)
      · replace h := if_t c_3 h
        refine v_bipush C (-2) (dk dcX10_soonest_0 13 rfl) kb_m2 ?_
        cases h
        exact v_iret C rfl (dk dcX10_soonest_0 14 rfl)
      · replace h := if_f c_3 h
        refine v_iload_n C 1 (dk dcX10_soonest_0 10 rfl) rfl rfl ?_
        refine v_iconst C 4 (dk dcX10_soonest_0 11 rfl) ki_4 ?_
        refine v_icmp_le C 24 (dk dcX10_soonest_0 12 rfl) (by decide) (fun c_4 => ?_) (fun c_4 => ?_)
        · replace h := if_t c_4 h
          refine v_aload_n C 0 (dk dcX10_soonest_0 15 rfl) rfl rfl ?_
          obtain ⟨r_6, h_5, h⟩ := bnd1_s h
          refine v_callV1 C (mtX10_isOver (L - 1) (by omega) h_5) wmX10_isOver wd_659 (by omega) (by decide) rfl _ (ce_DB) rfl rfl (Nat.le_of_ble_eq_true rfl) (dk dcX10_soonest_0 16 rfl) ?_
          refine v_if_eq C 34 (dk dcX10_soonest_0 17 rfl) (by decide) (fun c_7 => ?_) (fun c_7 => ?_)
          · replace h := if_t c_7 h
            refine v_aload_n C 0 (dk dcX10_soonest_0 20 rfl) rfl rfl ?_
            refine gt_DB_trial C wd_342 (dk dcX10_soonest_0 21 rfl) ?_
            refine v_iload_n C 1 (dk dcX10_soonest_0 22 rfl) rfl rfl ?_
            obtain ⟨g_9, r_10, h_8, h⟩ := bnd_s h
            refine v_callV1 C (mtX8_findSoonest (L - 1) (by omega) h_8) wmX8_findSoonest wd_804 (by omega) (by decide) rfl _ (ce_Trial) rfl rfl (Nat.le_of_ble_eq_true rfl) (dk dcX10_soonest_0 23 rfl) ?_
            refine v_istore_n C (lv' := [(3, .int r_10), (0, .ref (aE E 0 0)), (1, .int x1), (2, .int x2)]) (dk dcX10_soonest_0 24 rfl) rfl (by decide) rfl ?_
            refine v_iload_n C 3 (dk dcX10_soonest_0 25 rfl) rfl rfl ?_
            refine v_iconst C (-1) (dk dcX10_soonest_0 26 rfl) ki_m1 ?_
            refine v_icmp_ne C 52 (dk dcX10_soonest_0 27 rfl) (by decide) (fun c_11 => ?_) (fun c_11 => ?_)
            · replace h := if_f c_11 h
              refine v_aload_n C 1 (dk dcX10_soonest_0 30 rfl) rfl rfl ?_
              refine gt_DB_trial C wd_342 (dk dcX10_soonest_0 31 rfl) ?_
              refine v_iload_n C 3 (dk dcX10_soonest_0 32 rfl) rfl rfl ?_
              obtain ⟨r_13, h_12, h⟩ := bnd1_s h
              refine v_callV1 C (mtX8_found (L - 1) (by omega) h_12) wmX8_found wd_825 (by omega) (by decide) rfl _ (ce_Trial) rfl rfl (Nat.le_of_ble_eq_true rfl) (dk dcX10_soonest_0 33 rfl) ?_
              cases h
              exact v_iret C rfl (dk dcX10_soonest_0 34 rfl)
            · replace h := if_t c_11 h
              refine v_iload_n C 0 (dk dcX10_soonest_0 28 rfl) rfl rfl ?_
              refine v_goto C 60 (dk dcX10_soonest_0 29 rfl) (by decide) ?_
              cases h
              exact v_iret C rfl (dk dcX10_soonest_0 34 rfl)
          · replace h := if_f c_7 h
            refine v_bipush C (-3) (dk dcX10_soonest_0 18 rfl) kb_m3 ?_
            cases h
            exact v_iret C rfl (dk dcX10_soonest_0 19 rfl)
        · replace h := if_f c_4 h
          refine v_bipush C (-2) (dk dcX10_soonest_0 13 rfl) kb_m2 ?_
          cases h
          exact v_iret C rfl (dk dcX10_soonest_0 14 rfl)
    · replace h := if_f c_2 h
      refine v_iconst C (-1) (dk dcX10_soonest_0 6 rfl) ki_m1 ?_
      cases h
      exact v_iret C rfl (dk dcX10_soonest_0 7 rfl)
set_option maxRecDepth 20000 in
set_option maxHeartbeats 4000000 in
theorem mtX8_hurtWith {l : Launch} {E : WEt} {wx : va_W} (L : Nat) (hL : 5 ≤ L)  {g : STt} {x1 : Int32} {g' : STt} {rr : Int32} (h : fX8_hurtWith g x1 = some (g', rr)) : MT l E yX8_hurtWith cX8_hurtWith 5 (some .int) (L + 1) [.ref (aE E 10 0), .int x1] (cellsC E g ++ wx) (cellsC E g' ++ wx) (some (.int rr)) := by
  refine mt_of (by decide +kernel) (Nat.le_of_ble_eq_true rfl) ?_
  intro p e s m args below meth c C
  replace C : CX p s m args meth c cX8_hurtWith 5 RX8 (some .int) E := C
  unfold fX8_hurtWith at h
  refine vj_sub (lv' := [(0, .ref (aE E 10 0)), (1, .int x1)]) [0, 1] rfl ?_
  refine v_aload_n C 0 (dk dcX8_hurtWith_0 0 rfl) rfl rfl ?_
  obtain ⟨g_2, r_3, h_1, h⟩ := bnd_s h
  refine v_callV1 C (mtX8_begin (L - 1) (by omega) h_1) wmX8_begin wd_777 (by omega) (by decide) rfl _ (ce_Trial) rfl rfl (Nat.le_of_ble_eq_true rfl) (dk dcX8_hurtWith_0 1 rfl) ?_
  obtain ⟨b_4, h⟩ := gd_t h
  refine v_astore_n C (lv' := [(2, .ref (aE E 19 r_3)), (0, .ref (aE E 10 0)), (1, .int x1)]) (dk dcX8_hurtWith_0 2 rfl) rfl (by decide) rfl ?_
  refine v_aload_n C 0 (dk dcX8_hurtWith_0 3 rfl) rfl rfl ?_
  refine v_bipush C 10 (dk dcX8_hurtWith_0 4 rfl) kb_10 ?_
  obtain ⟨r_6, h_5, h⟩ := bnd1_s h
  refine v_callV1 C (mtX1_get (L - 1) (by omega) b_4 h_5) wmX1_get wd_792 (by omega) (by decide) rfl _ (ce_Donkey b_4) rfl rfl (Nat.le_of_ble_eq_true rfl) (dk dcX8_hurtWith_0 5 rfl) ?_
  refine v_iload_n C 2 (dk dcX8_hurtWith_0 6 rfl) rfl rfl ?_
  refine v_isub C (dk dcX8_hurtWith_0 7 rfl) ?_
  refine v_istore_n C (lv' := [(3, .int (r_6 - x1)), (2, .ref (aE E 19 r_3)), (0, .ref (aE E 10 0)), (1, .int x1)]) (dk dcX8_hurtWith_0 8 rfl) rfl (by decide) rfl ?_
  refine v_aload_n C 1 (dk dcX8_hurtWith_0 9 rfl) rfl rfl ?_
  refine v_bipush C 11 (dk dcX8_hurtWith_0 10 rfl) kb_11 ?_
  obtain ⟨r_8, h_7, h⟩ := bnd1_s h
  refine v_callV1 C (mtX1_get (L - 1) (by omega) b_4 h_7) wmX1_get wd_792 (by omega) (by decide) rfl _ (ce_Donkey b_4) rfl rfl (Nat.le_of_ble_eq_true rfl) (dk dcX8_hurtWith_0 11 rfl) ?_
  refine v_iload_n C 3 (dk dcX8_hurtWith_0 12 rfl) rfl rfl ?_
  refine v_iadd C (dk dcX8_hurtWith_0 13 rfl) ?_
  refine v_istore C (lv' := [(4, .int (r_8 + x1)), (3, .int (r_6 - x1)), (2, .ref (aE E 19 r_3)), (0, .ref (aE E 10 0)), (1, .int x1)]) (dk dcX8_hurtWith_0 14 rfl) (by decide) rfl ?_
  refine v_iload_n C 1 (dk dcX8_hurtWith_0 15 rfl) rfl rfl ?_
  refine v_if_lt C 46 (dk dcX8_hurtWith_0 16 rfl) (by decide) (fun c_9 => ?_) (fun c_9 => ?_)
  · replace h := if_t c_9 h
    refine v_iconst C (-1) (dk dcX8_hurtWith_0 25 rfl) ki_m1 ?_
    cases h
    exact v_iret C rfl (dk dcX8_hurtWith_0 26 rfl)
  · replace h := if_f c_9 h
    refine v_iload_n C 1 (dk dcX8_hurtWith_0 17 rfl) rfl rfl ?_
    refine v_bipush C 99 (dk dcX8_hurtWith_0 18 rfl) kb_99 ?_
    refine v_icmp_gt C 46 (dk dcX8_hurtWith_0 19 rfl) (by decide) (fun c_10 => ?_) (fun c_10 => ?_)
    · replace h := if_t c_10 h
      refine v_iconst C (-1) (dk dcX8_hurtWith_0 25 rfl) ki_m1 ?_
      cases h
      exact v_iret C rfl (dk dcX8_hurtWith_0 26 rfl)
    · replace h := if_f c_10 h
      refine v_iload C 0 (dk dcX8_hurtWith_0 20 rfl) rfl ?_
      refine v_if_lt C 46 (dk dcX8_hurtWith_0 21 rfl) (by decide) (fun c_11 => ?_) (fun c_11 => ?_)
      · replace h := if_t c_11 h
        refine v_iconst C (-1) (dk dcX8_hurtWith_0 25 rfl) ki_m1 ?_
        cases h
        exact v_iret C rfl (dk dcX8_hurtWith_0 26 rfl)
      · replace h := if_f c_11 h
        refine v_iload C 0 (dk dcX8_hurtWith_0 22 rfl) rfl ?_
        refine v_bipush C 99 (dk dcX8_hurtWith_0 23 rfl) kb_99 ?_
        refine v_icmp_le C 48 (dk dcX8_hurtWith_0 24 rfl) (by decide) (fun c_12 => ?_) (fun c_12 => ?_)
        · replace h := if_t c_12 h
          refine v_aload_n C 2 (dk dcX8_hurtWith_0 27 rfl) rfl rfl ?_
          refine v_bipush C 10 (dk dcX8_hurtWith_0 28 rfl) kb_10 ?_
          refine v_iload_n C 1 (dk dcX8_hurtWith_0 29 rfl) rfl rfl ?_
          obtain ⟨g_14, h_13, h⟩ := bnd1_s h
          refine v_callV0 C (mtX1_put (L - 1) (by omega) b_4 h_13) wmX1_put wd_882 (by omega) (by decide) rfl _ (ce_Donkey b_4) rfl rfl (Nat.le_of_ble_eq_true rfl) (dk dcX8_hurtWith_0 30 rfl) ?_
          refine v_aload_n C 2 (dk dcX8_hurtWith_0 31 rfl) rfl rfl ?_
          refine v_bipush C 11 (dk dcX8_hurtWith_0 32 rfl) kb_11 ?_
          refine v_iload C 0 (dk dcX8_hurtWith_0 33 rfl) rfl ?_
          obtain ⟨g_16, h_15, h⟩ := bnd1_s h
          refine v_callV0 C (mtX1_put (L - 1) (by omega) b_4 h_15) wmX1_put wd_882 (by omega) (by decide) rfl _ (ce_Donkey b_4) rfl rfl (Nat.le_of_ble_eq_true rfl) (dk dcX8_hurtWith_0 34 rfl) ?_
          refine v_aload_n C 3 (dk dcX8_hurtWith_0 35 rfl) rfl rfl ?_
          refine gt_Trial_walk C wd_263 (dk dcX8_hurtWith_0 36 rfl) ?_
          refine v_aload_n C 2 (dk dcX8_hurtWith_0 37 rfl) rfl rfl ?_
          refine v_iconst C 2 (dk dcX8_hurtWith_0 38 rfl) ki_2 ?_
          obtain ⟨g_18, r_19, h_17, h⟩ := bnd_s h
          refine v_callV1 C (mtX9_togetherOf (L - 1) (by omega) b_4 h_17) wmX9_togetherOf wd_883 (by omega) (by decide) rfl _ (ce_Walk) rfl rfl (Nat.le_of_ble_eq_true rfl) (dk dcX8_hurtWith_0 39 rfl) ?_
          cases h
          exact v_iret C rfl (dk dcX8_hurtWith_0 40 rfl)
        · replace h := if_f c_12 h
          refine v_iconst C (-1) (dk dcX8_hurtWith_0 25 rfl) ki_m1 ?_
          cases h
          exact v_iret C rfl (dk dcX8_hurtWith_0 26 rfl)
set_option maxRecDepth 20000 in
set_option maxHeartbeats 4000000 in
theorem vX8_bestShift_j54 {L : Nat} (hL : 6 ≤ L) (C : CX p s m args meth c cX8_bestShift 6 RX8 (some .int) E) {g : STt} {l1 : Int32} {l2 : Int32} {l3 : Int32} {l4 : Int32} {K10 : (STt × Int32 × Int32 × Int32) → Option (STt × Int32)} (hK10 : ∀ {g : STt} {l1 : Int32} {l2 : Int32} {l3 : Int32} (r : STt × Int32), K10 (g, l1, l2, l3) = some r → VJ p l e (rmL (L + 1)) s m args below meth c (QE below E (cellsC E r.1 ++ wx) (some (.int r.2)) args s) E 6 (cellsC E g ++ wx) [(0, .ref (aE E 10 0)), (1, .int l1), (2, .int l2), (3, .int l3)] [] 10) {K19 : (STt × Int32 × Int32 × Int32) → Option (STt × Int32)} (hK19 : ∀ {g : STt} {l1 : Int32} {l2 : Int32} {l4 : Int32} (r : STt × Int32), K19 (g, l1, l2, l4) = some r → VJ p l e (rmL (L + 1)) s m args below meth c (QE below E (cellsC E r.1 ++ wx) (some (.int r.2)) args s) E 6 (cellsC E g ++ wx) [(0, .ref (aE E 10 0)), (1, .int l1), (2, .int l2), (3, .int l3), (4, .int l4)] [] 19) (r : STt × Int32) (h : fX8_bestShift_j54 K10 K19 g l1 l2 l3 l4 = some r) : VJ p l e (rmL (L + 1)) s m args below meth c (QE below E (cellsC E r.1 ++ wx) (some (.int r.2)) args s) E 6 (cellsC E g ++ wx) [(0, .ref (aE E 10 0)), (1, .int l1), (2, .int l2), (3, .int l3), (4, .int l4)] [] 54 := by
  unfold fX8_bestShift_j54 at h
  refine v_iinc C (lv' := [(4, .int (l4 + (-2))), (0, .ref (aE E 10 0)), (1, .int l1), (2, .int l2), (3, .int l3)]) (l4 + (-2)) 4 (dk dcX8_bestShift_0 33 rfl) rfl (congrArg (fun z => l4 + z) ki_m2) (by decide) rfl ?_
  refine v_goto C 19 (dk dcX8_bestShift_0 34 rfl) (by decide) ?_
  exact vj_sub [1, 2, 3, 4, 0] rfl (hK19 _ h)
set_option maxRecDepth 20000 in
set_option maxHeartbeats 4000000 in
theorem vX8_bestShift_l19c {L : Nat} (hL : 6 ≤ L) (C : CX p s m args meth c cX8_bestShift 6 RX8 (some .int) E) {l3 : Int32} {K10 : (STt × Int32 × Int32 × Int32) → Option (STt × Int32)} (hK10 : ∀ {g : STt} {l1 : Int32} {l2 : Int32} {l3 : Int32} (r : STt × Int32), K10 (g, l1, l2, l3) = some r → VJ p l e (rmL (L + 1)) s m args below meth c (QE below E (cellsC E r.1 ++ wx) (some (.int r.2)) args s) E 6 (cellsC E g ++ wx) [(0, .ref (aE E 10 0)), (1, .int l1), (2, .int l2), (3, .int l3)] [] 10) {K19 : (STt × Int32 × Int32 × Int32) → Option (STt × Int32)} (hK19 : ∀ {g : STt} {l1 : Int32} {l2 : Int32} {l4 : Int32} (r : STt × Int32), K19 (g, l1, l2, l4) = some r → VJ p l e (rmL (L + 1)) s m args below meth c (QE below E (cellsC E r.1 ++ wx) (some (.int r.2)) args s) E 6 (cellsC E g ++ wx) [(0, .ref (aE E 10 0)), (1, .int l1), (2, .int l2), (3, .int l3), (4, .int l4)] [] 19) {g : STt} {l1 : Int32} {l2 : Int32} {l4 : Int32} (r : STt × Int32) (h : fX8_bestShift_l19c K10 K19 l3 g l1 l2 l4 = some r) : VJ p l e (rmL (L + 1)) s m args below meth c (QE below E (cellsC E r.1 ++ wx) (some (.int r.2)) args s) E 6 (cellsC E g ++ wx) [(0, .ref (aE E 10 0)), (1, .int l1), (2, .int l2), (3, .int l3), (4, .int l4)] [] 19 := by
  unfold fX8_bestShift_l19c at h
  refine v_iload C 4 (dk dcX8_bestShift_0 13 rfl) rfl ?_
  refine v_iconst C (-1) (dk dcX8_bestShift_0 14 rfl) ki_m1 ?_
  refine v_icmp_lt C 60 (dk dcX8_bestShift_0 15 rfl) (by decide) (fun c_1 => ?_) (fun c_1 => ?_)
  · replace h := if_t c_1 h
    refine v_iinc C (lv' := [(3, .int (l3 + 1)), (0, .ref (aE E 10 0)), (1, .int l1), (2, .int l2), (4, .int l4)]) (l3 + 1) 3 (dk dcX8_bestShift_0 35 rfl) rfl (congrArg (fun z => l3 + z) ki_1) (by decide) rfl ?_
    refine v_goto C 10 (dk dcX8_bestShift_0 36 rfl) (by decide) ?_
    exact vj_sub [1, 2, 3, 0] rfl (hK10 _ h)
  · replace h := if_f c_1 h
    refine v_aload_n C 0 (dk dcX8_bestShift_0 16 rfl) rfl rfl ?_
    refine v_iload_n C 3 (dk dcX8_bestShift_0 17 rfl) rfl rfl ?_
    refine v_iload C 4 (dk dcX8_bestShift_0 18 rfl) rfl ?_
    refine v_imul C (dk dcX8_bestShift_0 19 rfl) ?_
    obtain ⟨g_3, r_4, h_2, h⟩ := bnd_s h
    refine v_callV1 C (mtX8_hurtWith (L - 1) (by omega) h_2) wmX8_hurtWith wd_878 (by omega) (by decide) rfl _ (ce_Trial) rfl rfl (Nat.le_of_ble_eq_true rfl) (dk dcX8_bestShift_0 20 rfl) ?_
    refine v_istore C (lv' := [(5, .int r_4), (0, .ref (aE E 10 0)), (1, .int l1), (2, .int l2), (3, .int l3), (4, .int l4)]) (dk dcX8_bestShift_0 21 rfl) (by decide) rfl ?_
    refine v_iload C 0 (dk dcX8_bestShift_0 22 rfl) rfl ?_
    refine v_if_lt C 54 (dk dcX8_bestShift_0 23 rfl) (by decide) (fun c_5 => ?_) (fun c_5 => ?_)
    · replace h := if_t c_5 h
      exact vj_sub [1, 2, 3, 4, 5] rfl (vX8_bestShift_j54 hL C hK10 hK19 _ h)
    · replace h := if_f c_5 h
      refine v_iload C 0 (dk dcX8_bestShift_0 24 rfl) rfl ?_
      refine v_iload_n C 2 (dk dcX8_bestShift_0 25 rfl) rfl rfl ?_
      refine v_icmp_ge C 54 (dk dcX8_bestShift_0 26 rfl) (by decide) (fun c_6 => ?_) (fun c_6 => ?_)
      · replace h := if_t c_6 h
        exact vj_sub [1, 2, 3, 4, 5] rfl (vX8_bestShift_j54 hL C hK10 hK19 _ h)
      · replace h := if_f c_6 h
        refine v_iload C 0 (dk dcX8_bestShift_0 27 rfl) rfl ?_
        refine v_istore_n C (lv' := [(1, .int r_4), (5, .int r_4), (0, .ref (aE E 10 0)), (2, .int l2), (3, .int l3), (4, .int l4)]) (dk dcX8_bestShift_0 28 rfl) rfl (by decide) rfl ?_
        refine v_iload_n C 4 (dk dcX8_bestShift_0 29 rfl) rfl rfl ?_
        refine v_iload C 5 (dk dcX8_bestShift_0 30 rfl) rfl ?_
        refine v_imul C (dk dcX8_bestShift_0 31 rfl) ?_
        refine v_istore_n C (lv' := [(2, .int (l3 * l4)), (1, .int r_4), (5, .int r_4), (0, .ref (aE E 10 0)), (3, .int l3), (4, .int l4)]) (dk dcX8_bestShift_0 32 rfl) rfl (by decide) rfl ?_
        exact vj_sub [3, 1, 0, 4, 5] rfl (vX8_bestShift_j54 hL C hK10 hK19 _ h)
set_option maxRecDepth 20000 in
set_option maxHeartbeats 4000000 in
theorem vX8_bestShift_l19 {L : Nat} (hL : 6 ≤ L) (C : CX p s m args meth c cX8_bestShift 6 RX8 (some .int) E) {l3 : Int32} {K10 : (STt × Int32 × Int32 × Int32) → Option (STt × Int32)} (hK10 : ∀ {g : STt} {l1 : Int32} {l2 : Int32} {l3 : Int32} (r : STt × Int32), K10 (g, l1, l2, l3) = some r → VJ p l e (rmL (L + 1)) s m args below meth c (QE below E (cellsC E r.1 ++ wx) (some (.int r.2)) args s) E 6 (cellsC E g ++ wx) [(0, .ref (aE E 10 0)), (1, .int l1), (2, .int l2), (3, .int l3)] [] 10) {g : STt} {l1 : Int32} {l2 : Int32} {l4 : Int32} (r : STt × Int32) (h : fX8_bestShift_l19 K10 l3 g l1 l2 l4 = some r) : VJ p l e (rmL (L + 1)) s m args below meth c (QE below E (cellsC E r.1 ++ wx) (some (.int r.2)) args s) E 6 (cellsC E g ++ wx) [(0, .ref (aE E 10 0)), (1, .int l1), (2, .int l2), (3, .int l3), (4, .int l4)] [] 19 :=
  iterO_ind (F := fun K z => fX8_bestShift_l19c K10 K l3 z.1 z.2.1 z.2.2.1 z.2.2.2) (fun z r => VJ p l e (rmL (L + 1)) s m args below meth c (QE below E (cellsC E r.1 ++ wx) (some (.int r.2)) args s) E 6 (cellsC E z.1 ++ wx) [(0, .ref (aE E 10 0)), (1, .int z.2.1), (2, .int z.2.2.1), (3, .int l3), (4, .int z.2.2.2)] [] 19) (fun K hK z r h => vX8_bestShift_l19c hL C hK10 (fun {g} {l1} {l2} {l4} r h => hK (g, l1, l2, l4) r h) r h) fuelN (g, l1, l2, l4) r h
set_option maxRecDepth 20000 in
set_option maxHeartbeats 4000000 in
theorem vX8_bestShift_l10c {L : Nat} (hL : 6 ≤ L) (C : CX p s m args meth c cX8_bestShift 6 RX8 (some .int) E) {K10 : (STt × Int32 × Int32 × Int32) → Option (STt × Int32)} (hK10 : ∀ {g : STt} {l1 : Int32} {l2 : Int32} {l3 : Int32} (r : STt × Int32), K10 (g, l1, l2, l3) = some r → VJ p l e (rmL (L + 1)) s m args below meth c (QE below E (cellsC E r.1 ++ wx) (some (.int r.2)) args s) E 6 (cellsC E g ++ wx) [(0, .ref (aE E 10 0)), (1, .int l1), (2, .int l2), (3, .int l3)] [] 10) {g : STt} {l1 : Int32} {l2 : Int32} {l3 : Int32} (r : STt × Int32) (h : fX8_bestShift_l10c K10 g l1 l2 l3 = some r) : VJ p l e (rmL (L + 1)) s m args below meth c (QE below E (cellsC E r.1 ++ wx) (some (.int r.2)) args s) E 6 (cellsC E g ++ wx) [(0, .ref (aE E 10 0)), (1, .int l1), (2, .int l2), (3, .int l3)] [] 10 := by
  unfold fX8_bestShift_l10c at h
  refine v_iload_n C 3 (dk dcX8_bestShift_0 8 rfl) rfl rfl ?_
  refine v_bipush C 99 (dk dcX8_bestShift_0 9 rfl) kb_99 ?_
  refine v_icmp_gt C 66 (dk dcX8_bestShift_0 10 rfl) (by decide) (fun c_1 => ?_) (fun c_1 => ?_)
  · replace h := if_t c_1 h
    refine v_iload_n C 2 (dk dcX8_bestShift_0 37 rfl) rfl rfl ?_
    cases h
    exact v_iret C rfl (dk dcX8_bestShift_0 38 rfl)
  · replace h := if_f c_1 h
    refine v_iconst C 1 (dk dcX8_bestShift_0 11 rfl) ki_1 ?_
    refine v_istore C (lv' := [(4, .int 1), (0, .ref (aE E 10 0)), (1, .int l1), (2, .int l2), (3, .int l3)]) (dk dcX8_bestShift_0 12 rfl) (by decide) rfl ?_
    exact vj_sub [1, 2, 3, 4, 0] rfl (vX8_bestShift_l19 hL C hK10 _ h)
set_option maxRecDepth 20000 in
set_option maxHeartbeats 4000000 in
theorem vX8_bestShift_l10 {L : Nat} (hL : 6 ≤ L) (C : CX p s m args meth c cX8_bestShift 6 RX8 (some .int) E) {g : STt} {l1 : Int32} {l2 : Int32} {l3 : Int32} (r : STt × Int32) (h : fX8_bestShift_l10 g l1 l2 l3 = some r) : VJ p l e (rmL (L + 1)) s m args below meth c (QE below E (cellsC E r.1 ++ wx) (some (.int r.2)) args s) E 6 (cellsC E g ++ wx) [(0, .ref (aE E 10 0)), (1, .int l1), (2, .int l2), (3, .int l3)] [] 10 :=
  iterO_ind (F := fun K z => fX8_bestShift_l10c K z.1 z.2.1 z.2.2.1 z.2.2.2) (fun z r => VJ p l e (rmL (L + 1)) s m args below meth c (QE below E (cellsC E r.1 ++ wx) (some (.int r.2)) args s) E 6 (cellsC E z.1 ++ wx) [(0, .ref (aE E 10 0)), (1, .int z.2.1), (2, .int z.2.2.1), (3, .int z.2.2.2)] [] 10) (fun K hK z r h => vX8_bestShift_l10c hL C (fun {g} {l1} {l2} {l3} r h => hK (g, l1, l2, l3) r h) r h) fuelN (g, l1, l2, l3) r h
set_option maxRecDepth 20000 in
set_option maxHeartbeats 4000000 in
theorem mtX8_bestShift {l : Launch} {E : WEt} {wx : va_W} (L : Nat) (hL : 6 ≤ L)  {g : STt} {g' : STt} {rr : Int32} (h : fX8_bestShift g = some (g', rr)) : MT l E yX8_bestShift cX8_bestShift 6 (some .int) (L + 1) [.ref (aE E 10 0)] (cellsC E g ++ wx) (cellsC E g' ++ wx) (some (.int rr)) := by
  refine mt_of (by decide +kernel) (Nat.le_of_ble_eq_true rfl) ?_
  intro p e s m args below meth c C
  replace C : CX p s m args meth c cX8_bestShift 6 RX8 (some .int) E := C
  unfold fX8_bestShift at h
  refine vj_sub (lv' := [(0, .ref (aE E 10 0))]) [0] rfl ?_
  refine v_aload_n C 0 (dk dcX8_bestShift_0 0 rfl) rfl rfl ?_
  refine v_iconst C 0 (dk dcX8_bestShift_0 1 rfl) ki_0 ?_
  obtain ⟨g_2, r_3, h_1, h⟩ := bnd_s h
  refine v_callV1 C (mtX8_hurtWith (L - 1) (by omega) h_1) wmX8_hurtWith wd_878 (by omega) (by decide) rfl _ (ce_Trial) rfl rfl (Nat.le_of_ble_eq_true rfl) (dk dcX8_bestShift_0 2 rfl) ?_
  refine v_istore_n C (lv' := [(1, .int r_3), (0, .ref (aE E 10 0))]) (dk dcX8_bestShift_0 3 rfl) rfl (by decide) rfl ?_
  refine v_iconst C 0 (dk dcX8_bestShift_0 4 rfl) ki_0 ?_
  refine v_istore_n C (lv' := [(2, .int 0), (1, .int r_3), (0, .ref (aE E 10 0))]) (dk dcX8_bestShift_0 5 rfl) rfl (by decide) rfl ?_
  refine v_iconst C 1 (dk dcX8_bestShift_0 6 rfl) ki_1 ?_
  refine v_istore_n C (lv' := [(3, .int 1), (2, .int 0), (1, .int r_3), (0, .ref (aE E 10 0))]) (dk dcX8_bestShift_0 7 rfl) rfl (by decide) rfl ?_
  exact vj_sub [3, 2, 1, 0] rfl (vX8_bestShift_l10 hL C _ h)
set_option maxRecDepth 20000 in
set_option maxHeartbeats 4000000 in
theorem mtX10_shiftLoad {l : Launch} {E : WEt} {wx : va_W} (L : Nat) (hL : 7 ≤ L)  {g : STt} {g' : STt} {rr : Int32} (h : fX10_shiftLoad g = some (g', rr)) : MT l E yX10_shiftLoad cX10_shiftLoad 1 (some .int) (L + 1) [.ref (aE E 0 0)] (cellsC E g ++ wx) (cellsC E g' ++ wx) (some (.int rr)) := by
  refine mt_of (by decide +kernel) (Nat.le_of_ble_eq_true rfl) ?_
  intro p e s m args below meth c C
  replace C : CX p s m args meth c cX10_shiftLoad 1 RX10 (some .int) E := C
  unfold fX10_shiftLoad at h
  refine vj_sub (lv' := [(0, .ref (aE E 0 0))]) [0] rfl ?_
  refine v_aload_n C 0 (dk dcX10_shiftLoad_0 0 rfl) rfl rfl ?_
  obtain ⟨r_2, h_1, h⟩ := bnd1_s h
  refine v_callV1 C (mtX10_isOver (L - 1) (by omega) h_1) wmX10_isOver wd_659 (by omega) (by decide) rfl _ (ce_DB) rfl rfl (Nat.le_of_ble_eq_true rfl) (dk dcX10_shiftLoad_0 1 rfl) ?_
  refine v_if_eq C 12 (dk dcX10_shiftLoad_0 2 rfl) (by decide) (fun c_3 => ?_) (fun c_3 => ?_)
  · replace h := if_t c_3 h
    refine v_aload_n C 0 (dk dcX10_shiftLoad_0 5 rfl) rfl rfl ?_
    refine gt_DB_trial C wd_342 (dk dcX10_shiftLoad_0 6 rfl) ?_
    obtain ⟨g_5, r_6, h_4, h⟩ := bnd_s h
    refine v_callV1 C (mtX8_bestShift (L - 1) (by omega) h_4) wmX8_bestShift wd_874 (by omega) (by decide) rfl _ (ce_Trial) rfl rfl (Nat.le_of_ble_eq_true rfl) (dk dcX10_shiftLoad_0 7 rfl) ?_
    cases h
    exact v_iret C rfl (dk dcX10_shiftLoad_0 8 rfl)
  · replace h := if_f c_3 h
    refine v_ldc C wd_699 (dk dcX10_shiftLoad_0 3 rfl) ?_
    refine v_goto C 19 (dk dcX10_shiftLoad_0 4 rfl) (by decide) ?_
    cases h
    exact v_iret C rfl (dk dcX10_shiftLoad_0 8 rfl)
set_option maxRecDepth 20000 in
set_option maxHeartbeats 4000000 in
theorem mtX6_spans {l : Launch} {E : WEt} {wx : va_W} (L : Nat) (hL : 2 ≤ L)  {g : STt} {d0 : Nat} (hd0 : d0 < 6) {x1 : Int32} {x2 : Int32} {rr : Int32} (h : fX6_spans g d0 x1 x2 = some rr) : MT l E yX6_spans cX6_spans 3 (some .boolean) (L + 1) [.ref (aE E 26 d0), .int x1, .int x2] (cellsC E g ++ wx) (cellsC E g ++ wx) (some (.int rr)) := by
  refine mt_of (by decide +kernel) (Nat.le_of_ble_eq_true rfl) ?_
  intro p e s m args below meth c C
  replace C : CX p s m args meth c cX6_spans 3 RX6 (some .boolean) E := C
  unfold fX6_spans at h
  refine vj_sub (lv' := [(0, .ref (aE E 26 d0)), (1, .int x1), (2, .int x2)]) [0, 1, 2] rfl ?_
  refine v_iload_n C 2 (dk dcX6_spans_0 0 rfl) rfl rfl ?_
  refine v_if_lt C 30 (dk dcX6_spans_0 1 rfl) (by decide) (fun c_1 => ?_) (fun c_1 => ?_)
  · replace h := if_t c_1 h
    refine v_iconst C 0 (dk dcX6_spans_0 16 rfl) ki_0 ?_
    cases h
    exact v_zret C (x := 0) rfl rfl (dk dcX6_spans_0 17 rfl)
  · replace h := if_f c_1 h
    refine v_iload_n C 1 (dk dcX6_spans_0 2 rfl) rfl rfl ?_
    refine v_if_lt C 30 (dk dcX6_spans_0 3 rfl) (by decide) (fun c_2 => ?_) (fun c_2 => ?_)
    · replace h := if_t c_2 h
      refine v_iconst C 0 (dk dcX6_spans_0 16 rfl) ki_0 ?_
      cases h
      exact v_zret C (x := 0) rfl rfl (dk dcX6_spans_0 17 rfl)
    · replace h := if_f c_2 h
      refine v_iload_n C 2 (dk dcX6_spans_0 4 rfl) rfl rfl ?_
      refine v_aload_n C 0 (dk dcX6_spans_0 5 rfl) rfl rfl ?_
      refine gt_Tape_size C hd0 wd_327 (dk dcX6_spans_0 6 rfl) ?_
      refine v_icmp_gt C 30 (dk dcX6_spans_0 7 rfl) (by decide) (fun c_3 => ?_) (fun c_3 => ?_)
      · replace h := if_t c_3 h
        refine v_iconst C 0 (dk dcX6_spans_0 16 rfl) ki_0 ?_
        cases h
        exact v_zret C (x := 0) rfl rfl (dk dcX6_spans_0 17 rfl)
      · replace h := if_f c_3 h
        refine v_iload_n C 1 (dk dcX6_spans_0 8 rfl) rfl rfl ?_
        refine v_aload_n C 0 (dk dcX6_spans_0 9 rfl) rfl rfl ?_
        refine gt_Tape_size C hd0 wd_327 (dk dcX6_spans_0 10 rfl) ?_
        refine v_iload_n C 2 (dk dcX6_spans_0 11 rfl) rfl rfl ?_
        refine v_isub C (dk dcX6_spans_0 12 rfl) ?_
        refine v_icmp_gt C 30 (dk dcX6_spans_0 13 rfl) (by decide) (fun c_4 => ?_) (fun c_4 => ?_)
        · replace h := if_t c_4 h
          refine v_iconst C 0 (dk dcX6_spans_0 16 rfl) ki_0 ?_
          cases h
          exact v_zret C (x := 0) rfl rfl (dk dcX6_spans_0 17 rfl)
        · replace h := if_f c_4 h
          refine v_iconst C 1 (dk dcX6_spans_0 14 rfl) ki_1 ?_
          refine v_goto C 31 (dk dcX6_spans_0 15 rfl) (by decide) ?_
          cases h
          exact v_zret C (x := 1) rfl rfl (dk dcX6_spans_0 17 rfl)
set_option maxRecDepth 20000 in
set_option maxHeartbeats 4000000 in
theorem mtX6_copyIn {l : Launch} {E : WEt} {wx : va_W} (L : Nat) (hL : 3 ≤ L)  {g : STt} {d0 : Nat} (hd0 : d0 < 6) {x1 : Int32} {d2 : Nat} (hd2 : d2 < 6) {x3 : Int32} {x4 : Int32} {g' : STt} (h : fX6_copyIn g d0 x1 d2 x3 x4 = some g') : MT l E yX6_copyIn cX6_copyIn 5 none (L + 1) [.ref (aE E 26 d0), .int x1, .ref (aE E 26 d2), .int x3, .int x4] (cellsC E g ++ wx) (cellsC E g' ++ wx) none := by
  refine mt_of (by decide +kernel) (Nat.le_of_ble_eq_true rfl) ?_
  intro p e s m args below meth c C
  replace C : CX p s m args meth c cX6_copyIn 5 RX6 none E := C
  unfold fX6_copyIn at h
  refine vj_sub (lv' := [(0, .ref (aE E 26 d0)), (1, .int x1), (2, .ref (aE E 26 d2)), (3, .int x3), (4, .int x4)]) [0, 1, 2, 3, 4] rfl ?_
  refine v_aload_n C 0 (dk dcX6_copyIn_0 0 rfl) rfl rfl ?_
  refine v_iload_n C 1 (dk dcX6_copyIn_0 1 rfl) rfl rfl ?_
  refine v_iload C 4 (dk dcX6_copyIn_0 2 rfl) rfl ?_
  obtain ⟨r_2, h_1, h⟩ := bnd1_s h
  refine v_callV1 C (mtX6_spans (L - 1) (by omega) hd0 h_1) wmX6_spans wd_1100 (by omega) (by decide) rfl _ (ce_Tape hd0) rfl rfl (Nat.le_of_ble_eq_true rfl) (dk dcX6_copyIn_0 3 rfl) ?_
  refine v_if_eq C 35 (dk dcX6_copyIn_0 4 rfl) (by decide) (fun c_3 => ?_) (fun c_3 => ?_)
  · replace h := if_t c_3 h
    cases h
    exact v_vret C rfl (dk dcX6_copyIn_0 18 rfl)
  · replace h := if_f c_3 h
    refine v_aload_n C 2 (dk dcX6_copyIn_0 5 rfl) rfl rfl ?_
    refine v_iload_n C 3 (dk dcX6_copyIn_0 6 rfl) rfl rfl ?_
    refine v_iload C 4 (dk dcX6_copyIn_0 7 rfl) rfl ?_
    obtain ⟨r_5, h_4, h⟩ := bnd1_s h
    refine v_callV1 C (mtX6_spans (L - 1) (by omega) hd2 h_4) wmX6_spans wd_1100 (by omega) (by decide) rfl _ (ce_Tape hd2) rfl rfl (Nat.le_of_ble_eq_true rfl) (dk dcX6_copyIn_0 8 rfl) ?_
    refine v_if_eq C 35 (dk dcX6_copyIn_0 9 rfl) (by decide) (fun c_6 => ?_) (fun c_6 => ?_)
    · replace h := if_t c_6 h
      cases h
      exact v_vret C rfl (dk dcX6_copyIn_0 18 rfl)
    · replace h := if_f c_6 h
      refine v_aload_n C 2 (dk dcX6_copyIn_0 10 rfl) rfl rfl ?_
      refine gt_Tape_items C hd2 wd_325 (dk dcX6_copyIn_0 11 rfl) ?_
      refine v_iload_n C 3 (dk dcX6_copyIn_0 12 rfl) rfl rfl ?_
      refine v_aload_n C 0 (dk dcX6_copyIn_0 13 rfl) rfl rfl ?_
      refine gt_Tape_items C hd0 wd_325 (dk dcX6_copyIn_0 14 rfl) ?_
      refine v_iload_n C 1 (dk dcX6_copyIn_0 15 rfl) rfl rfl ?_
      refine v_iload C 4 (dk dcX6_copyIn_0 16 rfl) rfl ?_
      obtain ⟨b_7, h⟩ := gd_t h
      refine v_copyl C (by omega) wd_1101 wn_copy wn_copyS wn_sys _ _ rfl rfl (ce_tapeItems hd2) (ce_tapeItems hd0) (cpB_1 b_7) (cpB_2 b_7) (cpB_3 b_7) (cpB_4 b_7) (cpB_5 b_7) (Nat.le_of_ble_eq_true rfl) (dk dcX6_copyIn_0 17 rfl) (se_tapeItems hd0 _) ?_
      cases h
      exact v_vret C rfl (dk dcX6_copyIn_0 18 rfl)
set_option maxRecDepth 20000 in
set_option maxHeartbeats 4000000 in
theorem mtX6_holdsSomething {l : Launch} {E : WEt} {wx : va_W} (L : Nat) (hL : 2 ≤ L)  {g : STt} {d0 : Nat} (hd0 : d0 < 6) {rr : Int32} (h : fX6_holdsSomething g d0 = some rr) : MT l E yX6_holdsSomething cX6_holdsSomething 1 (some .boolean) (L + 1) [.ref (aE E 26 d0)] (cellsC E g ++ wx) (cellsC E g ++ wx) (some (.int rr)) := by
  refine mt_of (by decide +kernel) (Nat.le_of_ble_eq_true rfl) ?_
  intro p e s m args below meth c C
  replace C : CX p s m args meth c cX6_holdsSomething 1 RX6 (some .boolean) E := C
  unfold fX6_holdsSomething at h
  refine vj_sub (lv' := [(0, .ref (aE E 26 d0))]) [0] rfl ?_
  refine v_aload_n C 0 (dk dcX6_holdsSomething_0 0 rfl) rfl rfl ?_
  refine gt_Tape_sort C hd0 wd_326 (dk dcX6_holdsSomething_0 1 rfl) ?_
  refine v_iconst C (-1) (dk dcX6_holdsSomething_0 2 rfl) ki_m1 ?_
  refine v_icmp_eq C 12 (dk dcX6_holdsSomething_0 3 rfl) (by decide) (fun c_1 => ?_) (fun c_1 => ?_)
  · replace h := if_t c_1 h
    refine v_iconst C 0 (dk dcX6_holdsSomething_0 6 rfl) ki_0 ?_
    cases h
    exact v_zret C (x := 0) rfl rfl (dk dcX6_holdsSomething_0 7 rfl)
  · replace h := if_f c_1 h
    refine v_iconst C 1 (dk dcX6_holdsSomething_0 4 rfl) ki_1 ?_
    refine v_goto C 13 (dk dcX6_holdsSomething_0 5 rfl) (by decide) ?_
    cases h
    exact v_zret C (x := 1) rfl rfl (dk dcX6_holdsSomething_0 7 rfl)
set_option maxRecDepth 20000 in
set_option maxHeartbeats 4000000 in
theorem mtX6_sort {l : Launch} {E : WEt} {wx : va_W} (L : Nat) (hL : 2 ≤ L)  {g : STt} {d0 : Nat} (hd0 : d0 < 6) {rr : Int32} (h : fX6_sort g d0 = some rr) : MT l E yX6_sort cX6_sort 1 (some .int) (L + 1) [.ref (aE E 26 d0)] (cellsC E g ++ wx) (cellsC E g ++ wx) (some (.int rr)) := by
  refine mt_of (by decide +kernel) (Nat.le_of_ble_eq_true rfl) ?_
  intro p e s m args below meth c C
  replace C : CX p s m args meth c cX6_sort 1 RX6 (some .int) E := C
  unfold fX6_sort at h
  refine vj_sub (lv' := [(0, .ref (aE E 26 d0))]) [0] rfl ?_
  refine v_aload_n C 0 (dk dcX6_sort_0 0 rfl) rfl rfl ?_
  refine gt_Tape_sort C hd0 wd_326 (dk dcX6_sort_0 1 rfl) ?_
  cases h
  exact v_iret C rfl (dk dcX6_sort_0 2 rfl)
set_option maxRecDepth 20000 in
set_option maxHeartbeats 4000000 in
theorem mtX10_shift {l : Launch} {E : WEt} {wx : va_W} (L : Nat) (hL : 4 ≤ L)  {g : STt} {x1 : Int32} {x2 : Int32} {x3 : Int32} {x4 : Int32} {x5 : Int32} {g' : STt} {rr : Int32} (h : fX10_shift g x1 x2 x3 x4 x5 = some (g', rr)) : MT l E yX10_shift cX10_shift 8 (some .int) (L + 1) [.ref (aE E 0 0), .int x1, .int x2, .int x3, .int x4, .int x5] (cellsC E g ++ wx) (cellsC E g' ++ wx) (some (.int rr)) := by
  refine mt_of (by decide +kernel) (Nat.le_of_ble_eq_true rfl) ?_
  intro p e s m args below meth c C
  replace C : CX p s m args meth c cX10_shift 8 RX10 (some .int) E := C
  unfold fX10_shift at h
  refine vj_sub (lv' := [(0, .ref (aE E 0 0)), (1, .int x1), (2, .int x2), (3, .int x3), (4, .int x4), (5, .int x5)]) [0, 1, 2, 3, 4, 5] rfl ?_
  refine v_aload_n C 0 (dk dcX10_shift_0 0 rfl) rfl rfl ?_
  refine v_iload_n C 1 (dk dcX10_shift_0 1 rfl) rfl rfl ?_
  obtain ⟨r_2, h_1, h⟩ := bnd1_s h
  refine v_callV1 C (mtX10_tapeOf (L - 1) (by omega) h_1) wmX10_tapeOf wd_952 (by omega) (by decide) rfl _ (ce_DB) rfl rfl (Nat.le_of_ble_eq_true rfl) (dk dcX10_shift_0 2 rfl) ?_
  rcases r_2 with _ | q_4
  · dsimp only [ocase] at h
    refine v_astoreN C (lv' := [(6, .null), (0, .ref (aE E 0 0)), (1, .int x1), (2, .int x2), (3, .int x3), (4, .int x4), (5, .int x5)]) (dk dcX10_shift_0 3 rfl) (by decide) rfl ?_
    refine v_aload_n C 1 (dk dcX10_shift_0 4 rfl) rfl rfl ?_
    refine v_iload_n C 4 (dk dcX10_shift_0 5 rfl) rfl rfl ?_
    obtain ⟨r_6, h_5, h⟩ := bnd1_s h
    refine v_callV1 C (mtX10_tapeOf (L - 1) (by omega) h_5) wmX10_tapeOf wd_952 (by omega) (by decide) rfl _ (ce_DB) rfl rfl (Nat.le_of_ble_eq_true rfl) (dk dcX10_shift_0 6 rfl) ?_
    rcases r_6 with _ | q_8
    · dsimp only [ocase] at h
      refine v_astoreN C (lv' := [(7, .null), (6, .null), (0, .ref (aE E 0 0)), (1, .int x1), (2, .int x2), (3, .int x3), (4, .int x4), (5, .int x5)]) (dk dcX10_shift_0 7 rfl) (by decide) rfl ?_
      refine v_aloadN C 1 (dk dcX10_shift_0 8 rfl) rfl ?_
      refine v_ifnullN C 24 (dk dcX10_shift_0 9 rfl) (by decide) ?_
      refine v_iconst C (-1) (dk dcX10_shift_0 12 rfl) ki_m1 ?_
      cases h
      exact v_iret C rfl (dk dcX10_shift_0 13 rfl)
    · dsimp only [ocase] at h
      obtain ⟨b_7, h⟩ := gd_t h
      refine v_astore C (lv' := [(7, .ref (aE E 26 q_8)), (6, .null), (0, .ref (aE E 0 0)), (1, .int x1), (2, .int x2), (3, .int x3), (4, .int x4), (5, .int x5)]) (dk dcX10_shift_0 7 rfl) (by decide) rfl ?_
      refine v_aloadN C 1 (dk dcX10_shift_0 8 rfl) rfl ?_
      refine v_ifnullN C 24 (dk dcX10_shift_0 9 rfl) (by decide) ?_
      refine v_iconst C (-1) (dk dcX10_shift_0 12 rfl) ki_m1 ?_
      cases h
      exact v_iret C rfl (dk dcX10_shift_0 13 rfl)
  · dsimp only [ocase] at h
    obtain ⟨b_3, h⟩ := gd_t h
    refine v_astore C (lv' := [(6, .ref (aE E 26 q_4)), (0, .ref (aE E 0 0)), (1, .int x1), (2, .int x2), (3, .int x3), (4, .int x4), (5, .int x5)]) (dk dcX10_shift_0 3 rfl) (by decide) rfl ?_
    refine v_aload_n C 1 (dk dcX10_shift_0 4 rfl) rfl rfl ?_
    refine v_iload_n C 4 (dk dcX10_shift_0 5 rfl) rfl rfl ?_
    obtain ⟨r_6, h_5, h⟩ := bnd1_s h
    refine v_callV1 C (mtX10_tapeOf (L - 1) (by omega) h_5) wmX10_tapeOf wd_952 (by omega) (by decide) rfl _ (ce_DB) rfl rfl (Nat.le_of_ble_eq_true rfl) (dk dcX10_shift_0 6 rfl) ?_
    rcases r_6 with _ | q_8
    · dsimp only [ocase] at h
      refine v_astoreN C (lv' := [(7, .null), (6, .ref (aE E 26 q_4)), (0, .ref (aE E 0 0)), (1, .int x1), (2, .int x2), (3, .int x3), (4, .int x4), (5, .int x5)]) (dk dcX10_shift_0 7 rfl) (by decide) rfl ?_
      refine v_aload C 1 (dk dcX10_shift_0 8 rfl) rfl ?_
      refine v_ifnull C (dk dcX10_shift_0 9 rfl) ?_
      refine v_aloadN C 0 (dk dcX10_shift_0 10 rfl) rfl ?_
      refine v_ifnonnullN C (dk dcX10_shift_0 11 rfl) ?_
      refine v_iconst C (-1) (dk dcX10_shift_0 12 rfl) ki_m1 ?_
      cases h
      exact v_iret C rfl (dk dcX10_shift_0 13 rfl)
    · dsimp only [ocase] at h
      obtain ⟨b_7, h⟩ := gd_t h
      refine v_astore C (lv' := [(7, .ref (aE E 26 q_8)), (6, .ref (aE E 26 q_4)), (0, .ref (aE E 0 0)), (1, .int x1), (2, .int x2), (3, .int x3), (4, .int x4), (5, .int x5)]) (dk dcX10_shift_0 7 rfl) (by decide) rfl ?_
      refine v_aload C 1 (dk dcX10_shift_0 8 rfl) rfl ?_
      refine v_ifnull C (dk dcX10_shift_0 9 rfl) ?_
      refine v_aload C 0 (dk dcX10_shift_0 10 rfl) rfl ?_
      refine v_ifnonnull C 26 (dk dcX10_shift_0 11 rfl) (by decide) ?_
      refine v_aload C 1 (dk dcX10_shift_0 14 rfl) rfl ?_
      obtain ⟨r_10, h_9, h⟩ := bnd1_s h
      refine v_callV1 C (mtX6_holdsSomething (L - 1) (by omega) b_3 h_9) wmX6_holdsSomething wd_956 (by omega) (by decide) rfl _ (ce_Tape b_3) rfl rfl (Nat.le_of_ble_eq_true rfl) (dk dcX10_shift_0 15 rfl) ?_
      refine v_if_eq C 42 (dk dcX10_shift_0 16 rfl) (by decide) (fun c_11 => ?_) (fun c_11 => ?_)
      · replace h := if_t c_11 h
        refine v_bipush C (-11) (dk dcX10_shift_0 20 rfl) kb_m11 ?_
        cases h
        exact v_iret C rfl (dk dcX10_shift_0 21 rfl)
      · replace h := if_f c_11 h
        refine v_aload C 0 (dk dcX10_shift_0 17 rfl) rfl ?_
        obtain ⟨r_13, h_12, h⟩ := bnd1_s h
        refine v_callV1 C (mtX6_holdsSomething (L - 1) (by omega) b_7 h_12) wmX6_holdsSomething wd_956 (by omega) (by decide) rfl _ (ce_Tape b_7) rfl rfl (Nat.le_of_ble_eq_true rfl) (dk dcX10_shift_0 18 rfl) ?_
        refine v_if_ne C 45 (dk dcX10_shift_0 19 rfl) (by decide) (fun c_14 => ?_) (fun c_14 => ?_)
        · replace h := if_f c_14 h
          refine v_aload C 1 (dk dcX10_shift_0 22 rfl) rfl ?_
          obtain ⟨r_16, h_15, h⟩ := bnd1_s h
          refine v_callV1 C (mtX6_sort (L - 1) (by omega) b_3 h_15) wmX6_sort wd_960 (by omega) (by decide) rfl _ (ce_Tape b_3) rfl rfl (Nat.le_of_ble_eq_true rfl) (dk dcX10_shift_0 23 rfl) ?_
          refine v_aload C 0 (dk dcX10_shift_0 24 rfl) rfl ?_
          obtain ⟨r_18, h_17, h⟩ := bnd1_s h
          refine v_callV1 C (mtX6_sort (L - 1) (by omega) b_7 h_17) wmX6_sort wd_960 (by omega) (by decide) rfl _ (ce_Tape b_7) rfl rfl (Nat.le_of_ble_eq_true rfl) (dk dcX10_shift_0 25 rfl) ?_
          refine v_icmp_eq C 61 (dk dcX10_shift_0 26 rfl) (by decide) (fun c_19 => ?_) (fun c_19 => ?_)
          · replace h := if_t c_19 h
            refine v_aload C 1 (dk dcX10_shift_0 29 rfl) rfl ?_
            refine v_iload_n C 4 (dk dcX10_shift_0 30 rfl) rfl rfl ?_
            refine v_iload C 7 (dk dcX10_shift_0 31 rfl) rfl ?_
            obtain ⟨r_21, h_20, h⟩ := bnd1_s h
            refine v_callV1 C (mtX6_spans (L - 1) (by omega) b_3 h_20) wmX6_spans wd_1092 (by omega) (by decide) rfl _ (ce_Tape b_3) rfl rfl (Nat.le_of_ble_eq_true rfl) (dk dcX10_shift_0 32 rfl) ?_
            refine v_if_eq C 84 (dk dcX10_shift_0 33 rfl) (by decide) (fun c_22 => ?_) (fun c_22 => ?_)
            · replace h := if_t c_22 h
              refine v_bipush C (-13) (dk dcX10_shift_0 39 rfl) kb_m13 ?_
              cases h
              exact v_iret C rfl (dk dcX10_shift_0 40 rfl)
            · replace h := if_f c_22 h
              refine v_aload C 0 (dk dcX10_shift_0 34 rfl) rfl ?_
              refine v_iload C 6 (dk dcX10_shift_0 35 rfl) rfl ?_
              refine v_iload C 7 (dk dcX10_shift_0 36 rfl) rfl ?_
              obtain ⟨r_24, h_23, h⟩ := bnd1_s h
              refine v_callV1 C (mtX6_spans (L - 1) (by omega) b_7 h_23) wmX6_spans wd_1092 (by omega) (by decide) rfl _ (ce_Tape b_7) rfl rfl (Nat.le_of_ble_eq_true rfl) (dk dcX10_shift_0 37 rfl) ?_
              refine v_if_ne C 87 (dk dcX10_shift_0 38 rfl) (by decide) (fun c_25 => ?_) (fun c_25 => ?_)
              · replace h := if_f c_25 h
                refine v_aload C 0 (dk dcX10_shift_0 41 rfl) rfl ?_
                refine v_iload C 6 (dk dcX10_shift_0 42 rfl) rfl ?_
                refine v_aload C 1 (dk dcX10_shift_0 43 rfl) rfl ?_
                refine v_iload_n C 4 (dk dcX10_shift_0 44 rfl) rfl rfl ?_
                refine v_iload C 7 (dk dcX10_shift_0 45 rfl) rfl ?_
                obtain ⟨g_27, h_26, h⟩ := bnd1_s h
                refine v_callV0 C (mtX6_copyIn (L - 1) (by omega) b_7 b_3 h_26) wmX6_copyIn wd_1096 (by omega) (by decide) rfl _ (ce_Tape b_7) rfl rfl (Nat.le_of_ble_eq_true rfl) (dk dcX10_shift_0 46 rfl) ?_
                refine v_iload C 7 (dk dcX10_shift_0 47 rfl) rfl ?_
                cases h
                exact v_iret C rfl (dk dcX10_shift_1 0 rfl)
              · replace h := if_t c_25 h
                refine v_bipush C (-13) (dk dcX10_shift_0 39 rfl) kb_m13 ?_
                cases h
                exact v_iret C rfl (dk dcX10_shift_0 40 rfl)
          · replace h := if_f c_19 h
            refine v_bipush C (-12) (dk dcX10_shift_0 27 rfl) kb_m12 ?_
            cases h
            exact v_iret C rfl (dk dcX10_shift_0 28 rfl)
        · replace h := if_t c_14 h
          refine v_bipush C (-11) (dk dcX10_shift_0 20 rfl) kb_m11 ?_
          cases h
          exact v_iret C rfl (dk dcX10_shift_0 21 rfl)
set_option maxRecDepth 20000 in
set_option maxHeartbeats 4000000 in
theorem mtX1_mostOf {l : Launch} {E : WEt} {wx : va_W} (L : Nat) (hL : 2 ≤ L)  {g : STt} {x0 : Int32} {rr : Int32} (h : fX1_mostOf g x0 = some rr) : MT l E yX1_mostOf cX1_mostOf 1 (some .int) (L + 1) [.int x0] (cellsC E g ++ wx) (cellsC E g ++ wx) (some (.int rr)) := by
  refine mt_of (by decide +kernel) (Nat.le_of_ble_eq_true rfl) ?_
  intro p e s m args below meth c C
  replace C : CX p s m args meth c cX1_mostOf 1 RX1 (some .int) E := C
  unfold fX1_mostOf at h
  refine vj_sub (lv' := [(0, .int x0)]) [0] rfl ?_
  refine v_iload_n C 0 (dk dcX1_mostOf_0 0 rfl) rfl rfl ?_
  refine v_if_lt C 20 (dk dcX1_mostOf_0 1 rfl) (by decide) (fun c_1 => ?_) (fun c_1 => ?_)
  · replace h := if_t c_1 h
    refine v_iconst C 0 (dk dcX1_mostOf_0 10 rfl) ki_0 ?_
    cases h
    exact v_iret C rfl (dk dcX1_mostOf_0 11 rfl)
  · replace h := if_f c_1 h
    refine v_iload_n C 0 (dk dcX1_mostOf_0 2 rfl) rfl rfl ?_
    refine v_gets C C.2.2.2.2.2.2.1.1.1 wd_211 rfl (dk dcX1_mostOf_0 3 rfl) ?_
    refine v_tlen C C.2.2.2.2.2.2.1.1.2 (v := 15) rfl (dk dcX1_mostOf_0 4 rfl) ?_
    refine v_icmp_ge C 20 (dk dcX1_mostOf_0 5 rfl) (by decide) (fun c_2 => ?_) (fun c_2 => ?_)
    · replace h := if_t c_2 h
      refine v_iconst C 0 (dk dcX1_mostOf_0 10 rfl) ki_0 ?_
      cases h
      exact v_iret C rfl (dk dcX1_mostOf_0 11 rfl)
    · replace h := if_f c_2 h
      refine v_gets C C.2.2.2.2.2.2.1.1.1 wd_211 rfl (dk dcX1_mostOf_0 6 rfl) ?_
      refine v_iload_n C 0 (dk dcX1_mostOf_0 7 rfl) rfl rfl ?_
      obtain ⟨b_3, h⟩ := gd_t h
      refine v_ti C C.2.2.2.2.2.2.1.1.2 (inB_in b_3) (dk dcX1_mostOf_0 8 rfl) ?_
      refine v_goto C 21 (dk dcX1_mostOf_0 9 rfl) (by decide) ?_
      cases h
      exact v_iret C rfl (dk dcX1_mostOf_0 11 rfl)
set_option maxRecDepth 20000 in
set_option maxHeartbeats 4000000 in
theorem mtX4_size {l : Launch} {E : WEt} {wx : va_W} (L : Nat) (hL : 2 ≤ L)  {g : STt} {rr : Int32} (h : fX4_size g = some rr) : MT l E yX4_size cX4_size 1 (some .int) (L + 1) [.ref (aE E 1 0)] (cellsC E g ++ wx) (cellsC E g ++ wx) (some (.int rr)) := by
  refine mt_of (by decide +kernel) (Nat.le_of_ble_eq_true rfl) ?_
  intro p e s m args below meth c C
  replace C : CX p s m args meth c cX4_size 1 RX4 (some .int) E := C
  unfold fX4_size at h
  refine vj_sub (lv' := [(0, .ref (aE E 1 0))]) [0] rfl ?_
  refine v_aload_n C 0 (dk dcX4_size_0 0 rfl) rfl rfl ?_
  refine gt_Road_size C wd_114 (dk dcX4_size_0 1 rfl) ?_
  cases h
  exact v_iret C rfl (dk dcX4_size_0 2 rfl)
set_option maxRecDepth 20000 in
set_option maxHeartbeats 4000000 in
theorem vX10_set_j32 {L : Nat} (hL : 3 ≤ L) (C : CX p s m args meth c cX10_set 5 RX10 (some .int) E) {g : STt} {l1 : Int32} {l2 : Int32} {s0 : Int32} (r : STt × Int32) (h : fX10_set_j32 g l1 l2 s0 = some r) : VJ p l e (rmL (L + 1)) s m args below meth c (QE below E (cellsC E r.1 ++ wx) (some (.int r.2)) args s) E 5 (cellsC E g ++ wx) [(0, .ref (aE E 0 0)), (1, .int l1), (2, .int l2)] [.int s0] 32 := by
  unfold fX10_set_j32 at h
  refine v_istore_n C (lv' := [(3, .int s0), (0, .ref (aE E 0 0)), (1, .int l1), (2, .int l2)]) (dk dcX10_set_0 16 rfl) rfl (by decide) rfl ?_
  refine v_iload_n C 3 (dk dcX10_set_0 17 rfl) rfl rfl ?_
  refine v_if_lt C 42 (dk dcX10_set_0 18 rfl) (by decide) (fun c_1 => ?_) (fun c_1 => ?_)
  · replace h := if_t c_1 h
    refine v_bipush C (-2) (dk dcX10_set_0 22 rfl) kb_m2 ?_
    cases h
    exact v_iret C rfl (dk dcX10_set_0 23 rfl)
  · replace h := if_f c_1 h
    refine v_iload_n C 3 (dk dcX10_set_0 19 rfl) rfl rfl ?_
    refine v_iload_n C 0 (dk dcX10_set_0 20 rfl) rfl rfl ?_
    refine v_icmp_le C 45 (dk dcX10_set_0 21 rfl) (by decide) (fun c_2 => ?_) (fun c_2 => ?_)
    · replace h := if_t c_2 h
      refine v_aload_n C 1 (dk dcX10_set_0 24 rfl) rfl rfl ?_
      refine gt_DB_present C wd_345 (dk dcX10_set_0 25 rfl) ?_
      refine gt_Moment_donkey C (by decide) wd_227 (dk dcX10_set_0 26 rfl) ?_
      refine v_iload_n C 2 (dk dcX10_set_0 27 rfl) rfl rfl ?_
      obtain ⟨r_4, h_3, h⟩ := bnd1_s h
      refine v_callV1 C (mtX1_get (L - 1) (by omega) (by decide) h_3) wmX1_get wd_412 (by omega) (by decide) rfl _ (ce_Donkey (by decide)) rfl rfl (Nat.le_of_ble_eq_true rfl) (dk dcX10_set_0 28 rfl) ?_
      refine v_istore C (lv' := [(4, .int r_4), (3, .int s0), (0, .ref (aE E 0 0)), (1, .int l1), (2, .int l2)]) (dk dcX10_set_0 29 rfl) (by decide) rfl ?_
      refine v_aload_n C 2 (dk dcX10_set_0 30 rfl) rfl rfl ?_
      refine gt_DB_present C wd_345 (dk dcX10_set_0 31 rfl) ?_
      refine gt_Moment_donkey C (by decide) wd_227 (dk dcX10_set_0 32 rfl) ?_
      refine v_iload_n C 3 (dk dcX10_set_0 33 rfl) rfl rfl ?_
      refine v_iload_n C 4 (dk dcX10_set_0 34 rfl) rfl rfl ?_
      obtain ⟨g_6, h_5, h⟩ := bnd1_s h
      refine v_callV0 C (mtX1_put (L - 1) (by omega) (by decide) h_5) wmX1_put wd_416 (by omega) (by decide) rfl _ (ce_Donkey (by decide)) rfl rfl (Nat.le_of_ble_eq_true rfl) (dk dcX10_set_0 35 rfl) ?_
      refine v_iload C 0 (dk dcX10_set_0 36 rfl) rfl ?_
      cases h
      exact v_iret C rfl (dk dcX10_set_0 37 rfl)
    · replace h := if_f c_2 h
      refine v_bipush C (-2) (dk dcX10_set_0 22 rfl) kb_m2 ?_
      cases h
      exact v_iret C rfl (dk dcX10_set_0 23 rfl)
set_option maxRecDepth 20000 in
set_option maxHeartbeats 4000000 in
theorem mtX10_set {l : Launch} {E : WEt} {wx : va_W} (L : Nat) (hL : 3 ≤ L)  {g : STt} {x1 : Int32} {x2 : Int32} {g' : STt} {rr : Int32} (h : fX10_set g x1 x2 = some (g', rr)) : MT l E yX10_set cX10_set 5 (some .int) (L + 1) [.ref (aE E 0 0), .int x1, .int x2] (cellsC E g ++ wx) (cellsC E g' ++ wx) (some (.int rr)) := by
  refine mt_of (by decide +kernel) (Nat.le_of_ble_eq_true rfl) ?_
  intro p e s m args below meth c C
  replace C : CX p s m args meth c cX10_set 5 RX10 (some .int) E := C
  unfold fX10_set at h
  refine vj_sub (lv' := [(0, .ref (aE E 0 0)), (1, .int x1), (2, .int x2)]) [0, 1, 2] rfl ?_
  refine v_iload_n C 1 (dk dcX10_set_0 0 rfl) rfl rfl ?_
  refine v_if_lt C 10 (dk dcX10_set_0 1 rfl) (by decide) (fun c_1 => ?_) (fun c_1 => ?_)
  · replace h := if_t c_1 h
    refine v_iconst C (-1) (dk dcX10_set_0 5 rfl) ki_m1 ?_
    cases h
    exact v_iret C rfl (dk dcX10_set_0 6 rfl)
  · replace h := if_f c_1 h
    refine v_iload_n C 1 (dk dcX10_set_0 2 rfl) rfl rfl ?_
    refine v_bipush C 13 (dk dcX10_set_0 3 rfl) kb_13 ?_
    refine v_icmp_le C 12 (dk dcX10_set_0 4 rfl) (by decide) (fun c_2 => ?_) (fun c_2 => ?_)
    · replace h := if_t c_2 h
      refine v_iload_n C 1 (dk dcX10_set_0 7 rfl) rfl rfl ?_
      refine v_bipush C 12 (dk dcX10_set_0 8 rfl) kb_12 ?_
      refine v_icmp_ne C 28 (dk dcX10_set_0 9 rfl) (by decide) (fun c_3 => ?_) (fun c_3 => ?_)
      · replace h := if_f c_3 h
        refine v_iload_n C 1 (dk dcX10_set_0 14 rfl) rfl rfl ?_
        obtain ⟨r_5, h_4, h⟩ := bnd1_s h
        refine v_callS1 C (mtX1_mostOf (L - 1) (by omega) h_4) wmX1_mostOf wd_409 (by omega) (by decide) rfl rfl (Nat.le_of_ble_eq_true rfl) (dk dcX10_set_0 15 rfl) ?_
        exact vj_sub [0, 1, 2] rfl (vX10_set_j32 hL C _ h)
      · replace h := if_t c_3 h
        refine v_aload_n C 0 (dk dcX10_set_0 10 rfl) rfl rfl ?_
        refine gt_DB_road C wd_336 (dk dcX10_set_0 11 rfl) ?_
        obtain ⟨r_5, h_4, h⟩ := bnd1_s h
        refine v_callV1 C (mtX4_size (L - 1) (by omega) h_4) wmX4_size wd_377 (by omega) (by decide) rfl _ (ce_Road) rfl rfl (Nat.le_of_ble_eq_true rfl) (dk dcX10_set_0 12 rfl) ?_
        refine v_goto C 32 (dk dcX10_set_0 13 rfl) (by decide) ?_
        exact vj_sub [0, 1, 2] rfl (vX10_set_j32 hL C _ h)
    · replace h := if_f c_2 h
      refine v_iconst C (-1) (dk dcX10_set_0 5 rfl) ki_m1 ?_
      cases h
      exact v_iret C rfl (dk dcX10_set_0 6 rfl)
end MS
