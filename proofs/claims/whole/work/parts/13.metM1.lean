section MS
variable {p : Program} {l : Launch} {e : Env} {s : State} {m : MethodId} {args : Array Value} {below : List Frame} {meth : Method} {c : Code} {E : WEt} {wx : va_W}
set_option maxRecDepth 20000 in
set_option maxHeartbeats 4000000 in
theorem mtX11_in {l : Launch} {E : WEt} {wx : va_W} (L : Nat) (hL : 2 ≤ L)  {g : STt} {x0 : Int32} {x1 : Int32} {x2 : Int32} {rr : Int32} (h : fX11_in g x0 x1 x2 = some rr) : MT l E yX11_in cX11_in 3 (some .boolean) (L + 1) [.int x0, .int x1, .int x2] (cellsM E g ++ wx) (cellsM E g ++ wx) (some (.int rr)) := by
  refine mt_of (by decide +kernel) (Nat.le_of_ble_eq_true rfl) ?_
  intro p e s m args below meth c C
  replace C : CX p s m args meth c cX11_in 3 RX11 (some .boolean) E := C
  unfold fX11_in at h
  refine vj_sub (lv' := [(0, .int x0), (1, .int x1), (2, .int x2)]) [0, 1, 2] rfl ?_
  refine v_iload_n C 0 (dk dcX11_in_0 0 rfl) rfl rfl ?_
  refine v_iload_n C 1 (dk dcX11_in_0 1 rfl) rfl rfl ?_
  refine v_icmp_lt C 14 (dk dcX11_in_0 2 rfl) (by decide) (fun c_1 => ?_) (fun c_1 => ?_)
  · replace h := if_t c_1 h
    refine v_iconst C 0 (dk dcX11_in_0 8 rfl) ki_0 ?_
    cases h
    exact v_zret C (x := 0) rfl rfl (dk dcX11_in_0 9 rfl)
  · replace h := if_f c_1 h
    refine v_iload_n C 0 (dk dcX11_in_0 3 rfl) rfl rfl ?_
    refine v_iload_n C 2 (dk dcX11_in_0 4 rfl) rfl rfl ?_
    refine v_icmp_gt C 14 (dk dcX11_in_0 5 rfl) (by decide) (fun c_2 => ?_) (fun c_2 => ?_)
    · replace h := if_t c_2 h
      refine v_iconst C 0 (dk dcX11_in_0 8 rfl) ki_0 ?_
      cases h
      exact v_zret C (x := 0) rfl rfl (dk dcX11_in_0 9 rfl)
    · replace h := if_f c_2 h
      refine v_iconst C 1 (dk dcX11_in_0 6 rfl) ki_1 ?_
      refine v_goto C 15 (dk dcX11_in_0 7 rfl) (by decide) ?_
      cases h
      exact v_zret C (x := 1) rfl rfl (dk dcX11_in_0 9 rfl)
set_option maxRecDepth 20000 in
set_option maxHeartbeats 4000000 in
theorem mtX11_isAct {l : Launch} {E : WEt} {wx : va_W} (L : Nat) (hL : 3 ≤ L)  {g : STt} {x0 : Int32} {rr : Int32} (h : fX11_isAct g x0 = some rr) : MT l E yX11_isAct cX11_isAct 1 (some .boolean) (L + 1) [.int x0] (cellsM E g ++ wx) (cellsM E g ++ wx) (some (.int rr)) := by
  refine mt_of (by decide +kernel) (Nat.le_of_ble_eq_true rfl) ?_
  intro p e s m args below meth c C
  replace C : CX p s m args meth c cX11_isAct 1 RX11 (some .boolean) E := C
  unfold fX11_isAct at h
  refine vj_sub (lv' := [(0, .int x0)]) [0] rfl ?_
  refine v_iload_n C 0 (dk dcX11_isAct_0 0 rfl) rfl rfl ?_
  refine v_iconst C 0 (dk dcX11_isAct_0 1 rfl) ki_0 ?_
  refine v_bipush C 7 (dk dcX11_isAct_0 2 rfl) kb_7 ?_
  obtain ⟨r_2, h_1, h⟩ := bnd1_s h
  refine v_callS1 C (mtX11_in (L - 1) (by omega) h_1) wmX11_in wd_1266 (by omega) (by decide) rfl rfl (Nat.le_of_ble_eq_true rfl) (dk dcX11_isAct_0 3 rfl) ?_
  obtain ⟨b_3, h⟩ := gd_t h
  cases h
  exact v_zret C rfl (nw_boolean b_3) (dk dcX11_isAct_0 4 rfl)
set_option maxRecDepth 20000 in
set_option maxHeartbeats 4000000 in
theorem mtX11_isOver {l : Launch} {E : WEt} {wx : va_W} (L : Nat) (hL : 2 ≤ L)  {g : STt} {rr : Int32} (h : fX11_isOver g = some rr) : MT l E yX11_isOver cX11_isOver 1 (some .boolean) (L + 1) [.ref (aE E 28 0)] (cellsM E g ++ wx) (cellsM E g ++ wx) (some (.int rr)) := by
  refine mt_of (by decide +kernel) (Nat.le_of_ble_eq_true rfl) ?_
  intro p e s m args below meth c C
  replace C : CX p s m args meth c cX11_isOver 1 RX11 (some .boolean) E := C
  unfold fX11_isOver at h
  refine vj_sub (lv' := [(0, .ref (aE E 28 0))]) [0] rfl ?_
  refine v_aload_n C 0 (dk dcX11_isOver_0 0 rfl) rfl rfl ?_
  refine gt_Mo_is C wd_1112 (dk dcX11_isOver_0 1 rfl) ?_
  refine v_bipush C 12 (dk dcX11_isOver_0 2 rfl) kb_12 ?_
  obtain ⟨b_1, h⟩ := gd_t h
  refine ld_m_is C b_1 (dk dcX11_isOver_0 3 rfl) ?_
  refine v_aload_n C 0 (dk dcX11_isOver_0 4 rfl) rfl rfl ?_
  refine gt_Mo_places C wd_1108 (dk dcX11_isOver_0 5 rfl) ?_
  refine v_icmp_lt C 18 (dk dcX11_isOver_0 6 rfl) (by decide) (fun c_2 => ?_) (fun c_2 => ?_)
  · replace h := if_t c_2 h
    refine v_iconst C 0 (dk dcX11_isOver_0 9 rfl) ki_0 ?_
    cases h
    exact v_zret C (x := 0) rfl rfl (dk dcX11_isOver_0 10 rfl)
  · replace h := if_f c_2 h
    refine v_iconst C 1 (dk dcX11_isOver_0 7 rfl) ki_1 ?_
    refine v_goto C 19 (dk dcX11_isOver_0 8 rfl) (by decide) ?_
    cases h
    exact v_zret C (x := 1) rfl rfl (dk dcX11_isOver_0 10 rfl)
set_option maxRecDepth 20000 in
set_option maxHeartbeats 4000000 in
theorem vX11_lastOf_j85 {L : Nat} (hL : 2 ≤ L) (C : CX p s m args meth c cX11_lastOf 4 RX11 (some .int) E) {g : STt} {l1 : Int32} {l2 : Int32} {l3 : Int32} {K47 : (Int32 × Int32) → Option Int32} (hK47 : ∀ {l2 : Int32} {l3 : Int32} (r : Int32), K47 (l2, l3) = some r → VJ p l e (rmL (L + 1)) s m args below meth c (QE below E (cellsM E g ++ wx) (some (.int r)) args s) E 4 (cellsM E g ++ wx) [(0, .ref (aE E 28 0)), (1, .int l1), (2, .int l2), (3, .int l3)] [] 47) (r : Int32) (h : fX11_lastOf_j85 K47 g l1 l2 l3 = some r) : VJ p l e (rmL (L + 1)) s m args below meth c (QE below E (cellsM E g ++ wx) (some (.int r)) args s) E 4 (cellsM E g ++ wx) [(0, .ref (aE E 28 0)), (1, .int l1), (2, .int l2), (3, .int l3)] [] 85 := by
  unfold fX11_lastOf_j85 at h
  refine v_iinc C (lv' := [(3, .int (l3 + 1)), (0, .ref (aE E 28 0)), (1, .int l1), (2, .int l2)]) (l3 + 1) 3 (dk dcX11_lastOf_1 2 rfl) rfl (congrArg (fun z => l3 + z) ki_1) (by decide) rfl ?_
  refine v_goto C 47 (dk dcX11_lastOf_1 3 rfl) (by decide) ?_
  exact vj_sub [1, 2, 3, 0] rfl (hK47 _ h)
set_option maxRecDepth 20000 in
set_option maxHeartbeats 4000000 in
theorem vX11_lastOf_l47c {L : Nat} (hL : 2 ≤ L) (C : CX p s m args meth c cX11_lastOf 4 RX11 (some .int) E) {g : STt} {l1 : Int32} {K47 : (Int32 × Int32) → Option Int32} (hK47 : ∀ {l2 : Int32} {l3 : Int32} (r : Int32), K47 (l2, l3) = some r → VJ p l e (rmL (L + 1)) s m args below meth c (QE below E (cellsM E g ++ wx) (some (.int r)) args s) E 4 (cellsM E g ++ wx) [(0, .ref (aE E 28 0)), (1, .int l1), (2, .int l2), (3, .int l3)] [] 47) {l2 : Int32} {l3 : Int32} (r : Int32) (h : fX11_lastOf_l47c K47 g l1 l2 l3 = some r) : VJ p l e (rmL (L + 1)) s m args below meth c (QE below E (cellsM E g ++ wx) (some (.int r)) args s) E 4 (cellsM E g ++ wx) [(0, .ref (aE E 28 0)), (1, .int l1), (2, .int l2), (3, .int l3)] [] 47 := by
  unfold fX11_lastOf_l47c at h
  refine v_iload_n C 3 (dk dcX11_lastOf_0 27 rfl) rfl rfl ?_
  refine v_bipush C 10 (dk dcX11_lastOf_0 28 rfl) kb_10 ?_
  refine v_aload_n C 0 (dk dcX11_lastOf_0 29 rfl) rfl rfl ?_
  refine gt_Mo_holds C wd_1116 (dk dcX11_lastOf_0 30 rfl) ?_
  refine v_imul C (dk dcX11_lastOf_0 31 rfl) ?_
  refine v_aload_n C 0 (dk dcX11_lastOf_0 32 rfl) rfl rfl ?_
  refine gt_Mo_clauseMany C wd_1117 (dk dcX11_lastOf_0 33 rfl) ?_
  refine v_aload_n C 0 (dk dcX11_lastOf_0 34 rfl) rfl rfl ?_
  refine gt_Mo_holds C wd_1116 (dk dcX11_lastOf_0 35 rfl) ?_
  obtain ⟨b_1, h⟩ := gd_t h
  refine ld_m_clauseMany C b_1 (dk dcX11_lastOf_0 36 rfl) ?_
  refine v_iadd C (dk dcX11_lastOf_0 37 rfl) ?_
  refine v_icmp_ge C 91 (dk dcX11_lastOf_0 38 rfl) (by decide) (fun c_2 => ?_) (fun c_2 => ?_)
  · replace h := if_t c_2 h
    refine v_iload_n C 2 (dk dcX11_lastOf_1 4 rfl) rfl rfl ?_
    cases h
    exact v_iret C rfl (dk dcX11_lastOf_1 5 rfl)
  · replace h := if_f c_2 h
    refine v_aload_n C 0 (dk dcX11_lastOf_0 39 rfl) rfl rfl ?_
    refine gt_Mo_clauseIs C wd_1118 (dk dcX11_lastOf_0 40 rfl) ?_
    refine v_iload_n C 3 (dk dcX11_lastOf_0 41 rfl) rfl rfl ?_
    obtain ⟨b_3, h⟩ := gd_t h
    refine ld_m_clauseIs C b_3 (dk dcX11_lastOf_0 42 rfl) ?_
    refine v_iload_n C 1 (dk dcX11_lastOf_0 43 rfl) rfl rfl ?_
    refine v_icmp_ne C 85 (dk dcX11_lastOf_0 44 rfl) (by decide) (fun c_4 => ?_) (fun c_4 => ?_)
    · replace h := if_f c_4 h
      exact vj_sub [0, 1, 2, 3] rfl (vX11_lastOf_j85 hL C hK47 _ h)
    · replace h := if_t c_4 h
      refine v_aload_n C 0 (dk dcX11_lastOf_0 45 rfl) rfl rfl ?_
      refine gt_Mo_clauseN C wd_1119 (dk dcX11_lastOf_0 46 rfl) ?_
      refine v_iload_n C 3 (dk dcX11_lastOf_0 47 rfl) rfl rfl ?_
      obtain ⟨b_5, h⟩ := gd_t h
      refine ld_m_clauseN C b_5 (dk dcX11_lastOf_1 0 rfl) ?_
      refine v_istore_n C (lv' := [(2, .int (g.2.1 61 0 l3.toNatClampNeg)), (0, .ref (aE E 28 0)), (1, .int l1), (3, .int l3)]) (dk dcX11_lastOf_1 1 rfl) rfl (by decide) rfl ?_
      exact vj_sub [1, 2, 0, 3] rfl (vX11_lastOf_j85 hL C hK47 _ h)
set_option maxRecDepth 20000 in
set_option maxHeartbeats 4000000 in
theorem vX11_lastOf_l47 {L : Nat} (hL : 2 ≤ L) (C : CX p s m args meth c cX11_lastOf 4 RX11 (some .int) E) {g : STt} {l1 : Int32} {l2 : Int32} {l3 : Int32} (r : Int32) (h : fX11_lastOf_l47 g l1 l2 l3 = some r) : VJ p l e (rmL (L + 1)) s m args below meth c (QE below E (cellsM E g ++ wx) (some (.int r)) args s) E 4 (cellsM E g ++ wx) [(0, .ref (aE E 28 0)), (1, .int l1), (2, .int l2), (3, .int l3)] [] 47 :=
  iterO_ind (F := fun K z => fX11_lastOf_l47c K g l1 z.1 z.2) (fun z r => VJ p l e (rmL (L + 1)) s m args below meth c (QE below E (cellsM E g ++ wx) (some (.int r)) args s) E 4 (cellsM E g ++ wx) [(0, .ref (aE E 28 0)), (1, .int l1), (2, .int z.1), (3, .int z.2)] [] 47) (fun K hK z r h => vX11_lastOf_l47c hL C (fun {l2} {l3} r h => hK (l2, l3) r h) r h) fuelN (l2, l3) r h
set_option maxRecDepth 20000 in
set_option maxHeartbeats 4000000 in
theorem vX11_lastOf_j29 {L : Nat} (hL : 2 ≤ L) (C : CX p s m args meth c cX11_lastOf 4 RX11 (some .int) E) {g : STt} {l1 : Int32} {s0 : Int32} (r : Int32) (h : fX11_lastOf_j29 g l1 s0 = some r) : VJ p l e (rmL (L + 1)) s m args below meth c (QE below E (cellsM E g ++ wx) (some (.int r)) args s) E 4 (cellsM E g ++ wx) [(0, .ref (aE E 28 0)), (1, .int l1)] [.int s0] 29 := by
  unfold fX11_lastOf_j29 at h
  refine v_istore_n C (lv' := [(2, .int s0), (0, .ref (aE E 28 0)), (1, .int l1)]) (dk dcX11_lastOf_0 16 rfl) rfl (by decide) rfl ?_
  refine v_aload_n C 1 (dk dcX11_lastOf_0 17 rfl) rfl rfl ?_
  refine gt_Mo_holds C wd_1116 (dk dcX11_lastOf_0 18 rfl) ?_
  refine v_if_ge C 39 (dk dcX11_lastOf_0 19 rfl) (by decide) (fun c_1 => ?_) (fun c_1 => ?_)
  · replace h := if_t c_1 h
    refine v_bipush C 10 (dk dcX11_lastOf_0 22 rfl) kb_10 ?_
    refine v_aload_n C 1 (dk dcX11_lastOf_0 23 rfl) rfl rfl ?_
    refine gt_Mo_holds C wd_1116 (dk dcX11_lastOf_0 24 rfl) ?_
    refine v_imul C (dk dcX11_lastOf_0 25 rfl) ?_
    refine v_istore_n C (lv' := [(3, .int (10 * (g.1 36 0))), (2, .int s0), (0, .ref (aE E 28 0)), (1, .int l1)]) (dk dcX11_lastOf_0 26 rfl) rfl (by decide) rfl ?_
    exact vj_sub [2, 3, 1, 0] rfl (vX11_lastOf_l47 hL C _ h)
  · replace h := if_f c_1 h
    refine v_iload_n C 0 (dk dcX11_lastOf_0 20 rfl) rfl rfl ?_
    cases h
    exact v_iret C rfl (dk dcX11_lastOf_0 21 rfl)
set_option maxRecDepth 20000 in
set_option maxHeartbeats 4000000 in
theorem mtX11_lastOf {l : Launch} {E : WEt} {wx : va_W} (L : Nat) (hL : 2 ≤ L)  {g : STt} {x1 : Int32} {rr : Int32} (h : fX11_lastOf g x1 = some rr) : MT l E yX11_lastOf cX11_lastOf 4 (some .int) (L + 1) [.ref (aE E 28 0), .int x1] (cellsM E g ++ wx) (cellsM E g ++ wx) (some (.int rr)) := by
  refine mt_of (by decide +kernel) (Nat.le_of_ble_eq_true rfl) ?_
  intro p e s m args below meth c C
  replace C : CX p s m args meth c cX11_lastOf 4 RX11 (some .int) E := C
  unfold fX11_lastOf at h
  refine vj_sub (lv' := [(0, .ref (aE E 28 0)), (1, .int x1)]) [0, 1] rfl ?_
  refine v_iload_n C 1 (dk dcX11_lastOf_0 0 rfl) rfl rfl ?_
  refine v_iconst C 3 (dk dcX11_lastOf_0 1 rfl) ki_3 ?_
  refine v_icmp_ne C 9 (dk dcX11_lastOf_0 2 rfl) (by decide) (fun c_1 => ?_) (fun c_1 => ?_)
  · replace h := if_f c_1 h
    refine v_iload_n C 1 (dk dcX11_lastOf_0 5 rfl) rfl rfl ?_
    refine v_iconst C 4 (dk dcX11_lastOf_0 6 rfl) ki_4 ?_
    refine v_icmp_ne C 18 (dk dcX11_lastOf_0 7 rfl) (by decide) (fun c_2 => ?_) (fun c_2 => ?_)
    · replace h := if_f c_2 h
      refine v_iload_n C 1 (dk dcX11_lastOf_0 10 rfl) rfl rfl ?_
      refine v_iconst C 5 (dk dcX11_lastOf_0 11 rfl) ki_5 ?_
      refine v_icmp_ne C 27 (dk dcX11_lastOf_0 12 rfl) (by decide) (fun c_3 => ?_) (fun c_3 => ?_)
      · replace h := if_f c_3 h
        refine v_bipush C 9 (dk dcX11_lastOf_0 15 rfl) kb_9 ?_
        exact vj_sub [0, 1] rfl (vX11_lastOf_j29 hL C _ h)
      · replace h := if_t c_3 h
        refine v_iconst C 2 (dk dcX11_lastOf_0 13 rfl) ki_2 ?_
        refine v_goto C 29 (dk dcX11_lastOf_0 14 rfl) (by decide) ?_
        exact vj_sub [0, 1] rfl (vX11_lastOf_j29 hL C _ h)
    · replace h := if_t c_2 h
      refine v_iconst C 5 (dk dcX11_lastOf_0 8 rfl) ki_5 ?_
      refine v_goto C 29 (dk dcX11_lastOf_0 9 rfl) (by decide) ?_
      exact vj_sub [0, 1] rfl (vX11_lastOf_j29 hL C _ h)
  · replace h := if_t c_1 h
    refine v_iconst C 3 (dk dcX11_lastOf_0 3 rfl) ki_3 ?_
    refine v_goto C 29 (dk dcX11_lastOf_0 4 rfl) (by decide) ?_
    exact vj_sub [0, 1] rfl (vX11_lastOf_j29 hL C _ h)
set_option maxRecDepth 20000 in
set_option maxHeartbeats 4000000 in
theorem vX11_fearAs_j34 {L : Nat} (hL : 2 ≤ L) (C : CX p s m args meth c cX11_fearAs 5 RX11 (some .int) E) {g : STt} {l2 : Int32} (r : Int32) (h : fX11_fearAs_j34 g l2 = some r) : VJ p l e (rmL (L + 1)) s m args below meth c (QE below E (cellsM E g ++ wx) (some (.int r)) args s) E 5 (cellsM E g ++ wx) [(0, .ref (aE E 28 0)), (2, .int l2)] [] 34 := by
  unfold fX11_fearAs_j34 at h
  refine v_aload_n C 0 (dk dcX11_fearAs_0 23 rfl) rfl rfl ?_
  refine gt_Mo_kind C wd_1109 (dk dcX11_fearAs_0 24 rfl) ?_
  refine v_aload_n C 0 (dk dcX11_fearAs_0 25 rfl) rfl rfl ?_
  refine gt_Mo_is C wd_1112 (dk dcX11_fearAs_0 26 rfl) ?_
  refine v_bipush C 12 (dk dcX11_fearAs_0 27 rfl) kb_12 ?_
  obtain ⟨b_1, h⟩ := gd_t h
  refine ld_m_is C b_1 (dk dcX11_fearAs_0 28 rfl) ?_
  obtain ⟨b_2, h⟩ := gd_t h
  refine ld_m_kind C b_2 (dk dcX11_fearAs_0 29 rfl) ?_
  refine v_istore_n C (lv' := [(3, .int (g.2.1 54 0 (g.2.1 57 0 (12 : Int32).toNatClampNeg).toNatClampNeg)), (0, .ref (aE E 28 0)), (2, .int l2)]) (dk dcX11_fearAs_0 30 rfl) rfl (by decide) rfl ?_
  refine v_iload_n C 0 (dk dcX11_fearAs_0 31 rfl) rfl rfl ?_
  refine v_iconst C 1 (dk dcX11_fearAs_0 32 rfl) ki_1 ?_
  refine v_icmp_ne C 56 (dk dcX11_fearAs_0 33 rfl) (by decide) (fun c_3 => ?_) (fun c_3 => ?_)
  · replace h := if_f c_3 h
    refine v_iload_n C 0 (dk dcX11_fearAs_0 38 rfl) rfl rfl ?_
    refine v_iconst C 4 (dk dcX11_fearAs_0 39 rfl) ki_4 ?_
    refine v_icmp_eq C 63 (dk dcX11_fearAs_0 40 rfl) (by decide) (fun c_4 => ?_) (fun c_4 => ?_)
    · replace h := if_t c_4 h
      refine v_iconst C 2 (dk dcX11_fearAs_0 43 rfl) ki_2 ?_
      refine v_iload_n C 2 (dk dcX11_fearAs_0 44 rfl) rfl rfl ?_
      refine v_imul C (dk dcX11_fearAs_0 45 rfl) ?_
      refine v_aload_n C 1 (dk dcX11_fearAs_0 46 rfl) rfl rfl ?_
      refine gt_Mo_number C wd_1110 (dk dcX11_fearAs_0 47 rfl) ?_
      refine v_aload_n C 1 (dk dcX11_fearAs_1 0 rfl) rfl rfl ?_
      refine gt_Mo_is C wd_1112 (dk dcX11_fearAs_1 1 rfl) ?_
      refine v_bipush C 12 (dk dcX11_fearAs_1 2 rfl) kb_12 ?_
      obtain ⟨b_5, h⟩ := gd_t h
      refine ld_m_is C b_5 (dk dcX11_fearAs_1 3 rfl) ?_
      obtain ⟨b_6, h⟩ := gd_t h
      refine ld_m_number C b_6 (dk dcX11_fearAs_1 4 rfl) ?_
      refine v_aload_n C 1 (dk dcX11_fearAs_1 5 rfl) rfl rfl ?_
      refine gt_Mo_is C wd_1112 (dk dcX11_fearAs_1 6 rfl) ?_
      refine v_bipush C 9 (dk dcX11_fearAs_1 7 rfl) kb_9 ?_
      obtain ⟨b_7, h⟩ := gd_t h
      refine ld_m_is C b_7 (dk dcX11_fearAs_1 8 rfl) ?_
      refine v_imul C (dk dcX11_fearAs_1 9 rfl) ?_
      refine v_isub C (dk dcX11_fearAs_1 10 rfl) ?_
      refine v_istore C (lv' := [(4, .int ((2 * l2) - ((g.2.1 55 0 (g.2.1 57 0 (12 : Int32).toNatClampNeg).toNatClampNeg) * (g.2.1 57 0 (9 : Int32).toNatClampNeg)))), (3, .int (g.2.1 54 0 (g.2.1 57 0 (12 : Int32).toNatClampNeg).toNatClampNeg)), (0, .ref (aE E 28 0)), (2, .int l2)]) (dk dcX11_fearAs_1 11 rfl) (by decide) rfl ?_
      refine v_iload C 0 (dk dcX11_fearAs_1 12 rfl) rfl ?_
      refine v_if_ge C 98 (dk dcX11_fearAs_1 13 rfl) (by decide) (fun c_8 => ?_) (fun c_8 => ?_)
      · replace h := if_t c_8 h
        refine v_iload C 0 (dk dcX11_fearAs_1 16 rfl) rfl ?_
        cases h
        exact v_iret C rfl (dk dcX11_fearAs_1 17 rfl)
      · replace h := if_f c_8 h
        refine v_iconst C 0 (dk dcX11_fearAs_1 14 rfl) ki_0 ?_
        refine v_goto C 100 (dk dcX11_fearAs_1 15 rfl) (by decide) ?_
        cases h
        exact v_iret C rfl (dk dcX11_fearAs_1 17 rfl)
    · replace h := if_f c_4 h
      refine v_iload_n C 2 (dk dcX11_fearAs_0 41 rfl) rfl rfl ?_
      cases h
      exact v_iret C rfl (dk dcX11_fearAs_0 42 rfl)
  · replace h := if_t c_3 h
    refine v_iconst C 2 (dk dcX11_fearAs_0 34 rfl) ki_2 ?_
    refine v_iload_n C 2 (dk dcX11_fearAs_0 35 rfl) rfl rfl ?_
    refine v_imul C (dk dcX11_fearAs_0 36 rfl) ?_
    cases h
    exact v_iret C rfl (dk dcX11_fearAs_0 37 rfl)
set_option maxRecDepth 20000 in
set_option maxHeartbeats 4000000 in
theorem vX11_fearAs_j27 {L : Nat} (hL : 2 ≤ L) (C : CX p s m args meth c cX11_fearAs 5 RX11 (some .int) E) {g : STt} {l1 : Int32} {l2 : Int32} (r : Int32) (h : fX11_fearAs_j27 g l1 l2 = some r) : VJ p l e (rmL (L + 1)) s m args below meth c (QE below E (cellsM E g ++ wx) (some (.int r)) args s) E 5 (cellsM E g ++ wx) [(0, .ref (aE E 28 0)), (1, .int l1), (2, .int l2)] [] 27 := by
  unfold fX11_fearAs_j27 at h
  refine v_iload_n C 1 (dk dcX11_fearAs_0 18 rfl) rfl rfl ?_
  refine v_iconst C 3 (dk dcX11_fearAs_0 19 rfl) ki_3 ?_
  refine v_icmp_ne C 34 (dk dcX11_fearAs_0 20 rfl) (by decide) (fun c_1 => ?_) (fun c_1 => ?_)
  · replace h := if_f c_1 h
    exact vj_sub [0, 2] rfl (vX11_fearAs_j34 hL C _ h)
  · replace h := if_t c_1 h
    refine v_iconst C 0 (dk dcX11_fearAs_0 21 rfl) ki_0 ?_
    refine v_istore_n C (lv' := [(2, .int 0), (0, .ref (aE E 28 0)), (1, .int l1)]) (dk dcX11_fearAs_0 22 rfl) rfl (by decide) rfl ?_
    exact vj_sub [1, 0] rfl (vX11_fearAs_j34 hL C _ h)
set_option maxRecDepth 20000 in
set_option maxHeartbeats 4000000 in
theorem mtX11_fearAs {l : Launch} {E : WEt} {wx : va_W} (L : Nat) (hL : 2 ≤ L)  {g : STt} {x1 : Int32} {rr : Int32} (h : fX11_fearAs g x1 = some rr) : MT l E yX11_fearAs cX11_fearAs 5 (some .int) (L + 1) [.ref (aE E 28 0), .int x1] (cellsM E g ++ wx) (cellsM E g ++ wx) (some (.int rr)) := by
  refine mt_of (by decide +kernel) (Nat.le_of_ble_eq_true rfl) ?_
  intro p e s m args below meth c C
  replace C : CX p s m args meth c cX11_fearAs 5 RX11 (some .int) E := C
  unfold fX11_fearAs at h
  refine vj_sub (lv' := [(0, .ref (aE E 28 0)), (1, .int x1)]) [0, 1] rfl ?_
  refine v_aload_n C 0 (dk dcX11_fearAs_0 0 rfl) rfl rfl ?_
  refine gt_Mo_is C wd_1112 (dk dcX11_fearAs_0 1 rfl) ?_
  refine v_aload_n C 0 (dk dcX11_fearAs_0 2 rfl) rfl rfl ?_
  refine gt_Mo_thing C wd_1111 (dk dcX11_fearAs_0 3 rfl) ?_
  refine v_aload_n C 0 (dk dcX11_fearAs_0 4 rfl) rfl rfl ?_
  refine gt_Mo_is C wd_1112 (dk dcX11_fearAs_0 5 rfl) ?_
  refine v_bipush C 12 (dk dcX11_fearAs_0 6 rfl) kb_12 ?_
  obtain ⟨b_1, h⟩ := gd_t h
  refine ld_m_is C b_1 (dk dcX11_fearAs_0 7 rfl) ?_
  obtain ⟨b_2, h⟩ := gd_t h
  refine ld_m_thing C b_2 (dk dcX11_fearAs_0 8 rfl) ?_
  obtain ⟨b_3, h⟩ := gd_t h
  refine ld_m_is C b_3 (dk dcX11_fearAs_0 9 rfl) ?_
  refine v_istore_n C (lv' := [(2, .int (g.2.1 57 0 (g.2.1 56 0 (g.2.1 57 0 (12 : Int32).toNatClampNeg).toNatClampNeg).toNatClampNeg)), (0, .ref (aE E 28 0)), (1, .int x1)]) (dk dcX11_fearAs_0 10 rfl) rfl (by decide) rfl ?_
  refine v_iload_n C 2 (dk dcX11_fearAs_0 11 rfl) rfl rfl ?_
  refine v_iconst C 2 (dk dcX11_fearAs_0 12 rfl) ki_2 ?_
  refine v_icmp_ne C 27 (dk dcX11_fearAs_0 13 rfl) (by decide) (fun c_4 => ?_) (fun c_4 => ?_)
  · replace h := if_f c_4 h
    exact vj_sub [1, 2, 0] rfl (vX11_fearAs_j27 hL C _ h)
  · replace h := if_t c_4 h
    refine v_iload_n C 0 (dk dcX11_fearAs_0 14 rfl) rfl rfl ?_
    refine v_iconst C 2 (dk dcX11_fearAs_0 15 rfl) ki_2 ?_
    refine v_idiv C (dk dcX11_fearAs_0 16 rfl) (by decide) ?_
    refine v_istore_n C (lv' := [(2, .int ((g.2.1 57 0 (g.2.1 56 0 (g.2.1 57 0 (12 : Int32).toNatClampNeg).toNatClampNeg).toNatClampNeg) / 2)), (0, .ref (aE E 28 0)), (1, .int x1)]) (dk dcX11_fearAs_0 17 rfl) rfl (by decide) rfl ?_
    exact vj_sub [1, 2, 0] rfl (vX11_fearAs_j27 hL C _ h)
set_option maxRecDepth 20000 in
set_option maxHeartbeats 4000000 in
theorem mtX11_held {l : Launch} {E : WEt} {wx : va_W} (L : Nat) (hL : 2 ≤ L)  {g : STt} {x0 : Int32} {x1 : Int32} {rr : Int32} (h : fX11_held g x0 x1 = some rr) : MT l E yX11_held cX11_held 2 (some .int) (L + 1) [.int x0, .int x1] (cellsM E g ++ wx) (cellsM E g ++ wx) (some (.int rr)) := by
  refine mt_of (by decide +kernel) (Nat.le_of_ble_eq_true rfl) ?_
  intro p e s m args below meth c C
  replace C : CX p s m args meth c cX11_held 2 RX11 (some .int) E := C
  unfold fX11_held at h
  refine vj_sub (lv' := [(0, .int x0), (1, .int x1)]) [0, 1] rfl ?_
  refine v_iload_n C 0 (dk dcX11_held_0 0 rfl) rfl rfl ?_
  refine v_if_ge C 8 (dk dcX11_held_0 1 rfl) (by decide) (fun c_1 => ?_) (fun c_1 => ?_)
  · replace h := if_t c_1 h
    refine v_iload_n C 0 (dk dcX11_held_0 4 rfl) rfl rfl ?_
    refine v_iload_n C 1 (dk dcX11_held_0 5 rfl) rfl rfl ?_
    refine v_icmp_le C 17 (dk dcX11_held_0 6 rfl) (by decide) (fun c_2 => ?_) (fun c_2 => ?_)
    · replace h := if_t c_2 h
      refine v_iload_n C 0 (dk dcX11_held_0 9 rfl) rfl rfl ?_
      cases h
      exact v_iret C rfl (dk dcX11_held_0 10 rfl)
    · replace h := if_f c_2 h
      refine v_iload_n C 1 (dk dcX11_held_0 7 rfl) rfl rfl ?_
      refine v_goto C 18 (dk dcX11_held_0 8 rfl) (by decide) ?_
      cases h
      exact v_iret C rfl (dk dcX11_held_0 10 rfl)
  · replace h := if_f c_1 h
    refine v_iconst C 0 (dk dcX11_held_0 2 rfl) ki_0 ?_
    refine v_goto C 18 (dk dcX11_held_0 3 rfl) (by decide) ?_
    cases h
    exact v_iret C rfl (dk dcX11_held_0 10 rfl)
set_option maxRecDepth 20000 in
set_option maxHeartbeats 4000000 in
theorem mtX11_sizeOf {l : Launch} {E : WEt} {wx : va_W} (L : Nat) (hL : 2 ≤ L)  {g : STt} {x0 : Int32} {rr : Int32} (h : fX11_sizeOf g x0 = some rr) : MT l E yX11_sizeOf cX11_sizeOf 1 (some .int) (L + 1) [.int x0] (cellsM E g ++ wx) (cellsM E g ++ wx) (some (.int rr)) := by
  refine mt_of (by decide +kernel) (Nat.le_of_ble_eq_true rfl) ?_
  intro p e s m args below meth c C
  replace C : CX p s m args meth c cX11_sizeOf 1 RX11 (some .int) E := C
  unfold fX11_sizeOf at h
  refine vj_sub (lv' := [(0, .int x0)]) [0] rfl ?_
  refine v_iload_n C 0 (dk dcX11_sizeOf_0 0 rfl) rfl rfl ?_
  refine v_if_ge C 9 (dk dcX11_sizeOf_0 1 rfl) (by decide) (fun c_1 => ?_) (fun c_1 => ?_)
  · replace h := if_t c_1 h
    refine v_iload_n C 0 (dk dcX11_sizeOf_0 5 rfl) rfl rfl ?_
    cases h
    exact v_iret C rfl (dk dcX11_sizeOf_0 6 rfl)
  · replace h := if_f c_1 h
    refine v_iload_n C 0 (dk dcX11_sizeOf_0 2 rfl) rfl rfl ?_
    refine v_ineg C (dk dcX11_sizeOf_0 3 rfl) ?_
    refine v_goto C 10 (dk dcX11_sizeOf_0 4 rfl) (by decide) ?_
    cases h
    exact v_iret C rfl (dk dcX11_sizeOf_0 6 rfl)
set_option maxRecDepth 20000 in
set_option maxHeartbeats 4000000 in
theorem vX11_factOf_j211 {L : Nat} (hL : 3 ≤ L) (C : CX p s m args meth c cX11_factOf 2 RX11 (some .int) E) {g : STt} (r : Int32) (h : fX11_factOf_j211 g = some r) : VJ p l e (rmL (L + 1)) s m args below meth c (QE below E (cellsM E g ++ wx) (some (.int r)) args s) E 2 (cellsM E g ++ wx) [(0, .ref (aE E 28 0))] [] 211 := by
  unfold fX11_factOf_j211 at h
  refine v_aload_n C 0 (dk dcX11_factOf_1 16 rfl) rfl rfl ?_
  refine gt_Mo_is C wd_1112 (dk dcX11_factOf_1 17 rfl) ?_
  refine v_bipush C 14 (dk dcX11_factOf_1 18 rfl) kb_14 ?_
  obtain ⟨b_1, h⟩ := gd_t h
  refine ld_m_is C b_1 (dk dcX11_factOf_1 19 rfl) ?_
  refine v_bipush C 60 (dk dcX11_factOf_1 20 rfl) kb_60 ?_
  refine v_irem C (dk dcX11_factOf_1 21 rfl) (by decide) ?_
  cases h
  exact v_iret C rfl (dk dcX11_factOf_1 22 rfl)
set_option maxRecDepth 20000 in
set_option maxHeartbeats 4000000 in
theorem mtX11_factOf {l : Launch} {E : WEt} {wx : va_W} (L : Nat) (hL : 3 ≤ L)  {g : STt} {x1 : Int32} {rr : Int32} (h : fX11_factOf g x1 = some rr) : MT l E yX11_factOf cX11_factOf 2 (some .int) (L + 1) [.ref (aE E 28 0), .int x1] (cellsM E g ++ wx) (cellsM E g ++ wx) (some (.int rr)) := by
  refine mt_of (by decide +kernel) (Nat.le_of_ble_eq_true rfl) ?_
  intro p e s m args below meth c C
  replace C : CX p s m args meth c cX11_factOf 2 RX11 (some .int) E := C
  unfold fX11_factOf at h
  refine vj_sub (lv' := [(0, .ref (aE E 28 0)), (1, .int x1)]) [0, 1] rfl ?_
  refine v_iload_n C 1 (dk dcX11_factOf_0 0 rfl) rfl rfl ?_
  by_cases c_1 : x1 = 97
  · replace h := if_t c_1 h
    refine v_tableIn C 190 (dk dcX11_factOf_0 1 rfl) (by rw [c_1]; decide) (by rw [c_1]; decide) (by rw [c_1]; rfl) (by decide) ?_
    refine v_aload_n C 0 (dk dcX11_factOf_1 3 rfl) rfl rfl ?_
    refine gt_Mo_is C wd_1112 (dk dcX11_factOf_1 4 rfl) ?_
    refine v_bipush C 12 (dk dcX11_factOf_1 5 rfl) kb_12 ?_
    obtain ⟨b_2, h⟩ := gd_t h
    refine ld_m_is C b_2 (dk dcX11_factOf_1 6 rfl) ?_
    cases h
    exact v_iret C rfl (dk dcX11_factOf_1 7 rfl)
  · replace h := if_f c_1 h
    by_cases c_2 : x1 = 98
    · replace h := if_t c_2 h
      refine v_tableIn C 211 (dk dcX11_factOf_0 1 rfl) (by rw [c_2]; decide) (by rw [c_2]; decide) (by rw [c_2]; rfl) (by decide) ?_
      exact vj_sub [0] rfl (vX11_factOf_j211 hL C _ h)
    · replace h := if_f c_2 h
      by_cases c_3 : x1 = 99
      · replace h := if_t c_3 h
        refine v_tableIn C 211 (dk dcX11_factOf_0 1 rfl) (by rw [c_3]; decide) (by rw [c_3]; decide) (by rw [c_3]; rfl) (by decide) ?_
        exact vj_sub [0] rfl (vX11_factOf_j211 hL C _ h)
      · replace h := if_f c_3 h
        by_cases c_4 : x1 = 100
        · replace h := if_t c_4 h
          refine v_tableIn C 211 (dk dcX11_factOf_0 1 rfl) (by rw [c_4]; decide) (by rw [c_4]; decide) (by rw [c_4]; rfl) (by decide) ?_
          exact vj_sub [0] rfl (vX11_factOf_j211 hL C _ h)
        · replace h := if_f c_4 h
          by_cases c_5 : x1 = 101
          · replace h := if_t c_5 h
            refine v_tableIn C 211 (dk dcX11_factOf_0 1 rfl) (by rw [c_5]; decide) (by rw [c_5]; decide) (by rw [c_5]; rfl) (by decide) ?_
            exact vj_sub [0] rfl (vX11_factOf_j211 hL C _ h)
          · replace h := if_f c_5 h
            by_cases c_6 : x1 = 102
            · replace h := if_t c_6 h
              refine v_tableIn C 108 (dk dcX11_factOf_0 1 rfl) (by rw [c_6]; decide) (by rw [c_6]; decide) (by rw [c_6]; rfl) (by decide) ?_
              refine v_aload_n C 0 (dk dcX11_factOf_0 2 rfl) rfl rfl ?_
              refine gt_Mo_is C wd_1112 (dk dcX11_factOf_0 3 rfl) ?_
              refine v_aload_n C 0 (dk dcX11_factOf_0 4 rfl) rfl rfl ?_
              refine gt_Mo_thing C wd_1111 (dk dcX11_factOf_0 5 rfl) ?_
              refine v_aload_n C 0 (dk dcX11_factOf_0 6 rfl) rfl rfl ?_
              refine gt_Mo_is C wd_1112 (dk dcX11_factOf_0 7 rfl) ?_
              refine v_bipush C 12 (dk dcX11_factOf_0 8 rfl) kb_12 ?_
              obtain ⟨b_7, h⟩ := gd_t h
              refine ld_m_is C b_7 (dk dcX11_factOf_0 9 rfl) ?_
              obtain ⟨b_8, h⟩ := gd_t h
              refine ld_m_thing C b_8 (dk dcX11_factOf_0 10 rfl) ?_
              obtain ⟨b_9, h⟩ := gd_t h
              refine ld_m_is C b_9 (dk dcX11_factOf_0 11 rfl) ?_
              cases h
              exact v_iret C rfl (dk dcX11_factOf_0 12 rfl)
            · replace h := if_f c_6 h
              by_cases c_7 : x1 = 103
              · replace h := if_t c_7 h
                refine v_tableIn C 211 (dk dcX11_factOf_0 1 rfl) (by rw [c_7]; decide) (by rw [c_7]; decide) (by rw [c_7]; rfl) (by decide) ?_
                exact vj_sub [0] rfl (vX11_factOf_j211 hL C _ h)
              · replace h := if_f c_7 h
                by_cases c_8 : x1 = 104
                · replace h := if_t c_8 h
                  refine v_tableIn C 126 (dk dcX11_factOf_0 1 rfl) (by rw [c_8]; decide) (by rw [c_8]; decide) (by rw [c_8]; rfl) (by decide) ?_
                  refine v_aload_n C 0 (dk dcX11_factOf_0 13 rfl) rfl rfl ?_
                  refine gt_Mo_is C wd_1112 (dk dcX11_factOf_0 14 rfl) ?_
                  refine v_bipush C 7 (dk dcX11_factOf_0 15 rfl) kb_7 ?_
                  obtain ⟨b_9, h⟩ := gd_t h
                  refine ld_m_is C b_9 (dk dcX11_factOf_0 16 rfl) ?_
                  cases h
                  exact v_iret C rfl (dk dcX11_factOf_0 17 rfl)
                · replace h := if_f c_8 h
                  by_cases c_9 : x1 = 105
                  · replace h := if_t c_9 h
                    refine v_tableIn C 211 (dk dcX11_factOf_0 1 rfl) (by rw [c_9]; decide) (by rw [c_9]; decide) (by rw [c_9]; rfl) (by decide) ?_
                    exact vj_sub [0] rfl (vX11_factOf_j211 hL C _ h)
                  · replace h := if_f c_9 h
                    by_cases c_10 : x1 = 106
                    · replace h := if_t c_10 h
                      refine v_tableIn C 211 (dk dcX11_factOf_0 1 rfl) (by rw [c_10]; decide) (by rw [c_10]; decide) (by rw [c_10]; rfl) (by decide) ?_
                      exact vj_sub [0] rfl (vX11_factOf_j211 hL C _ h)
                    · replace h := if_f c_10 h
                      by_cases c_11 : x1 = 107
                      · replace h := if_t c_11 h
                        refine v_tableIn C 198 (dk dcX11_factOf_0 1 rfl) (by rw [c_11]; decide) (by rw [c_11]; decide) (by rw [c_11]; rfl) (by decide) ?_
                        refine v_aload_n C 0 (dk dcX11_factOf_1 8 rfl) rfl rfl ?_
                        refine gt_Mo_kind C wd_1109 (dk dcX11_factOf_1 9 rfl) ?_
                        refine v_aload_n C 0 (dk dcX11_factOf_1 10 rfl) rfl rfl ?_
                        refine gt_Mo_is C wd_1112 (dk dcX11_factOf_1 11 rfl) ?_
                        refine v_bipush C 12 (dk dcX11_factOf_1 12 rfl) kb_12 ?_
                        obtain ⟨b_12, h⟩ := gd_t h
                        refine ld_m_is C b_12 (dk dcX11_factOf_1 13 rfl) ?_
                        obtain ⟨b_13, h⟩ := gd_t h
                        refine ld_m_kind C b_13 (dk dcX11_factOf_1 14 rfl) ?_
                        cases h
                        exact v_iret C rfl (dk dcX11_factOf_1 15 rfl)
                      · replace h := if_f c_11 h
                        by_cases c_12 : x1 = 108
                        · replace h := if_t c_12 h
                          refine v_tableIn C 150 (dk dcX11_factOf_0 1 rfl) (by rw [c_12]; decide) (by rw [c_12]; decide) (by rw [c_12]; rfl) (by decide) ?_
                          refine v_aload_n C 0 (dk dcX11_factOf_0 28 rfl) rfl rfl ?_
                          refine gt_Mo_is C wd_1112 (dk dcX11_factOf_0 29 rfl) ?_
                          refine v_bipush C 10 (dk dcX11_factOf_0 30 rfl) kb_10 ?_
                          obtain ⟨b_13, h⟩ := gd_t h
                          refine ld_m_is C b_13 (dk dcX11_factOf_0 31 rfl) ?_
                          refine v_aload_n C 0 (dk dcX11_factOf_0 32 rfl) rfl rfl ?_
                          refine gt_Mo_is C wd_1112 (dk dcX11_factOf_0 33 rfl) ?_
                          refine v_bipush C 11 (dk dcX11_factOf_0 34 rfl) kb_11 ?_
                          obtain ⟨b_14, h⟩ := gd_t h
                          refine ld_m_is C b_14 (dk dcX11_factOf_0 35 rfl) ?_
                          refine v_isub C (dk dcX11_factOf_0 36 rfl) ?_
                          obtain ⟨r_16, h_15, h⟩ := bnd1_s h
                          refine v_callS1 C (mtX11_sizeOf (L - 1) (by omega) h_15) wmX11_sizeOf wd_1377 (by omega) (by decide) rfl rfl (Nat.le_of_ble_eq_true rfl) (dk dcX11_factOf_0 37 rfl) ?_
                          cases h
                          exact v_iret C rfl (dk dcX11_factOf_0 38 rfl)
                        · replace h := if_f c_12 h
                          by_cases c_13 : x1 = 109
                          · replace h := if_t c_13 h
                            refine v_tableIn C 211 (dk dcX11_factOf_0 1 rfl) (by rw [c_13]; decide) (by rw [c_13]; decide) (by rw [c_13]; rfl) (by decide) ?_
                            exact vj_sub [0] rfl (vX11_factOf_j211 hL C _ h)
                          · replace h := if_f c_13 h
                            by_cases c_14 : x1 = 110
                            · replace h := if_t c_14 h
                              refine v_tableIn C 211 (dk dcX11_factOf_0 1 rfl) (by rw [c_14]; decide) (by rw [c_14]; decide) (by rw [c_14]; rfl) (by decide) ?_
                              exact vj_sub [0] rfl (vX11_factOf_j211 hL C _ h)
                            · replace h := if_f c_14 h
                              by_cases c_15 : x1 = 111
                              · replace h := if_t c_15 h
                                refine v_tableIn C 211 (dk dcX11_factOf_0 1 rfl) (by rw [c_15]; decide) (by rw [c_15]; decide) (by rw [c_15]; rfl) (by decide) ?_
                                exact vj_sub [0] rfl (vX11_factOf_j211 hL C _ h)
                              · replace h := if_f c_15 h
                                by_cases c_16 : x1 = 112
                                · replace h := if_t c_16 h
                                  refine v_tableIn C 134 (dk dcX11_factOf_0 1 rfl) (by rw [c_16]; decide) (by rw [c_16]; decide) (by rw [c_16]; rfl) (by decide) ?_
                                  refine v_aload_n C 0 (dk dcX11_factOf_0 18 rfl) rfl rfl ?_
                                  refine gt_Mo_is C wd_1112 (dk dcX11_factOf_0 19 rfl) ?_
                                  refine v_bipush C 6 (dk dcX11_factOf_0 20 rfl) kb_6 ?_
                                  obtain ⟨b_17, h⟩ := gd_t h
                                  refine ld_m_is C b_17 (dk dcX11_factOf_0 21 rfl) ?_
                                  cases h
                                  exact v_iret C rfl (dk dcX11_factOf_0 22 rfl)
                                · replace h := if_f c_16 h
                                  by_cases c_17 : x1 = 113
                                  · replace h := if_t c_17 h
                                    refine v_tableIn C 211 (dk dcX11_factOf_0 1 rfl) (by rw [c_17]; decide) (by rw [c_17]; decide) (by rw [c_17]; rfl) (by decide) ?_
                                    exact vj_sub [0] rfl (vX11_factOf_j211 hL C _ h)
                                  · replace h := if_f c_17 h
                                    by_cases c_18 : x1 = 114
                                    · replace h := if_t c_18 h
                                      refine v_tableIn C 211 (dk dcX11_factOf_0 1 rfl) (by rw [c_18]; decide) (by rw [c_18]; decide) (by rw [c_18]; rfl) (by decide) ?_
                                      exact vj_sub [0] rfl (vX11_factOf_j211 hL C _ h)
                                    · replace h := if_f c_18 h
                                      by_cases c_19 : x1 = 115
                                      · replace h := if_t c_19 h
                                        refine v_tableIn C 169 (dk dcX11_factOf_0 1 rfl) (by rw [c_19]; decide) (by rw [c_19]; decide) (by rw [c_19]; rfl) (by decide) ?_
                                        refine v_aload_n C 0 (dk dcX11_factOf_0 39 rfl) rfl rfl ?_
                                        refine gt_Mo_is C wd_1112 (dk dcX11_factOf_0 40 rfl) ?_
                                        refine v_bipush C 10 (dk dcX11_factOf_0 41 rfl) kb_10 ?_
                                        obtain ⟨b_20, h⟩ := gd_t h
                                        refine ld_m_is C b_20 (dk dcX11_factOf_0 42 rfl) ?_
                                        refine v_aload_n C 0 (dk dcX11_factOf_0 43 rfl) rfl rfl ?_
                                        refine gt_Mo_is C wd_1112 (dk dcX11_factOf_0 44 rfl) ?_
                                        refine v_bipush C 11 (dk dcX11_factOf_0 45 rfl) kb_11 ?_
                                        obtain ⟨b_21, h⟩ := gd_t h
                                        refine ld_m_is C b_21 (dk dcX11_factOf_0 46 rfl) ?_
                                        refine v_iadd C (dk dcX11_factOf_0 47 rfl) ?_
                                        refine v_bipush C 99 (dk dcX11_factOf_1 0 rfl) kb_99 ?_
                                        obtain ⟨r_23, h_22, h⟩ := bnd1_s h
                                        refine v_callS1 C (mtX11_held (L - 1) (by omega) h_22) wmX11_held wd_1380 (by omega) (by decide) rfl rfl (Nat.le_of_ble_eq_true rfl) (dk dcX11_factOf_1 1 rfl) ?_
                                        cases h
                                        exact v_iret C rfl (dk dcX11_factOf_1 2 rfl)
                                      · replace h := if_f c_19 h
                                        by_cases c_20 : x1 = 116
                                        · replace h := if_t c_20 h
                                          refine v_tableIn C 211 (dk dcX11_factOf_0 1 rfl) (by rw [c_20]; decide) (by rw [c_20]; decide) (by rw [c_20]; rfl) (by decide) ?_
                                          exact vj_sub [0] rfl (vX11_factOf_j211 hL C _ h)
                                        · replace h := if_f c_20 h
                                          by_cases c_21 : x1 = 117
                                          · replace h := if_t c_21 h
                                            refine v_tableIn C 211 (dk dcX11_factOf_0 1 rfl) (by rw [c_21]; decide) (by rw [c_21]; decide) (by rw [c_21]; rfl) (by decide) ?_
                                            exact vj_sub [0] rfl (vX11_factOf_j211 hL C _ h)
                                          · replace h := if_f c_21 h
                                            by_cases c_22 : x1 = 118
                                            · replace h := if_t c_22 h
                                              refine v_tableIn C 211 (dk dcX11_factOf_0 1 rfl) (by rw [c_22]; decide) (by rw [c_22]; decide) (by rw [c_22]; rfl) (by decide) ?_
                                              exact vj_sub [0] rfl (vX11_factOf_j211 hL C _ h)
                                            · replace h := if_f c_22 h
                                              by_cases c_23 : x1 = 119
                                              · replace h := if_t c_23 h
                                                refine v_tableIn C 142 (dk dcX11_factOf_0 1 rfl) (by rw [c_23]; decide) (by rw [c_23]; decide) (by rw [c_23]; rfl) (by decide) ?_
                                                refine v_aload_n C 0 (dk dcX11_factOf_0 23 rfl) rfl rfl ?_
                                                refine gt_Mo_is C wd_1112 (dk dcX11_factOf_0 24 rfl) ?_
                                                refine v_bipush C 8 (dk dcX11_factOf_0 25 rfl) kb_8 ?_
                                                obtain ⟨b_24, h⟩ := gd_t h
                                                refine ld_m_is C b_24 (dk dcX11_factOf_0 26 rfl) ?_
                                                cases h
                                                exact v_iret C rfl (dk dcX11_factOf_0 27 rfl)
                                              · replace h := if_f c_23 h
                                                have ec_1 := i32_ne (k := 97) c_1 (by decide)
                                                have ec_2 := i32_ne (k := 98) c_2 (by decide)
                                                have ec_3 := i32_ne (k := 99) c_3 (by decide)
                                                have ec_4 := i32_ne (k := 100) c_4 (by decide)
                                                have ec_5 := i32_ne (k := 101) c_5 (by decide)
                                                have ec_6 := i32_ne (k := 102) c_6 (by decide)
                                                have ec_7 := i32_ne (k := 103) c_7 (by decide)
                                                have ec_8 := i32_ne (k := 104) c_8 (by decide)
                                                have ec_9 := i32_ne (k := 105) c_9 (by decide)
                                                have ec_10 := i32_ne (k := 106) c_10 (by decide)
                                                have ec_11 := i32_ne (k := 107) c_11 (by decide)
                                                have ec_12 := i32_ne (k := 108) c_12 (by decide)
                                                have ec_13 := i32_ne (k := 109) c_13 (by decide)
                                                have ec_14 := i32_ne (k := 110) c_14 (by decide)
                                                have ec_15 := i32_ne (k := 111) c_15 (by decide)
                                                have ec_16 := i32_ne (k := 112) c_16 (by decide)
                                                have ec_17 := i32_ne (k := 113) c_17 (by decide)
                                                have ec_18 := i32_ne (k := 114) c_18 (by decide)
                                                have ec_19 := i32_ne (k := 115) c_19 (by decide)
                                                have ec_20 := i32_ne (k := 116) c_20 (by decide)
                                                have ec_21 := i32_ne (k := 117) c_21 (by decide)
                                                have ec_22 := i32_ne (k := 118) c_22 (by decide)
                                                have ec_23 := i32_ne (k := 119) c_23 (by decide)
                                                refine v_tableOut C 211 (dk dcX11_factOf_0 1 rfl) (by omega) (by decide) ?_
                                                exact vj_sub [0] rfl (vX11_factOf_j211 hL C _ h)
set_option maxRecDepth 20000 in
set_option maxHeartbeats 4000000 in
theorem mtX11_test {l : Launch} {E : WEt} {wx : va_W} (L : Nat) (hL : 2 ≤ L)  {g : STt} {x0 : Int32} {x1 : Int32} {x2 : Int32} {rr : Int32} (h : fX11_test g x0 x1 x2 = some rr) : MT l E yX11_test cX11_test 3 (some .boolean) (L + 1) [.int x0, .int x1, .int x2] (cellsM E g ++ wx) (cellsM E g ++ wx) (some (.int rr)) := by
  refine mt_of (by decide +kernel) (Nat.le_of_ble_eq_true rfl) ?_
  intro p e s m args below meth c C
  replace C : CX p s m args meth c cX11_test 3 RX11 (some .boolean) E := C
  unfold fX11_test at h
  refine vj_sub (lv' := [(0, .int x0), (1, .int x1), (2, .int x2)]) [0, 1, 2] rfl ?_
  refine v_iload_n C 1 (dk dcX11_test_0 0 rfl) rfl rfl ?_
  refine v_bipush C 60 (dk dcX11_test_0 1 rfl) kb_60 ?_
  refine v_icmp_ne C 19 (dk dcX11_test_0 2 rfl) (by decide) (fun c_1 => ?_) (fun c_1 => ?_)
  · replace h := if_f c_1 h
    refine v_iload_n C 1 (dk dcX11_test_0 10 rfl) rfl rfl ?_
    refine v_bipush C 61 (dk dcX11_test_0 11 rfl) kb_61 ?_
    refine v_icmp_ne C 38 (dk dcX11_test_0 12 rfl) (by decide) (fun c_2 => ?_) (fun c_2 => ?_)
    · replace h := if_f c_2 h
      refine v_iload_n C 0 (dk dcX11_test_0 20 rfl) rfl rfl ?_
      refine v_iload_n C 2 (dk dcX11_test_0 21 rfl) rfl rfl ?_
      refine v_icmp_le C 47 (dk dcX11_test_0 22 rfl) (by decide) (fun c_3 => ?_) (fun c_3 => ?_)
      · replace h := if_t c_3 h
        refine v_iconst C 0 (dk dcX11_test_0 25 rfl) ki_0 ?_
        cases h
        exact v_zret C (x := 0) rfl rfl (dk dcX11_test_0 26 rfl)
      · replace h := if_f c_3 h
        refine v_iconst C 1 (dk dcX11_test_0 23 rfl) ki_1 ?_
        refine v_goto C 48 (dk dcX11_test_0 24 rfl) (by decide) ?_
        cases h
        exact v_zret C (x := 1) rfl rfl (dk dcX11_test_0 26 rfl)
    · replace h := if_t c_2 h
      refine v_iload_n C 0 (dk dcX11_test_0 13 rfl) rfl rfl ?_
      refine v_iload_n C 2 (dk dcX11_test_0 14 rfl) rfl rfl ?_
      refine v_icmp_ne C 34 (dk dcX11_test_0 15 rfl) (by decide) (fun c_3 => ?_) (fun c_3 => ?_)
      · replace h := if_f c_3 h
        refine v_iconst C 0 (dk dcX11_test_0 18 rfl) ki_0 ?_
        refine v_goto C 48 (dk dcX11_test_0 19 rfl) (by decide) ?_
        cases h
        exact v_zret C (x := 0) rfl rfl (dk dcX11_test_0 26 rfl)
      · replace h := if_t c_3 h
        refine v_iconst C 1 (dk dcX11_test_0 16 rfl) ki_1 ?_
        refine v_goto C 48 (dk dcX11_test_0 17 rfl) (by decide) ?_
        cases h
        exact v_zret C (x := 1) rfl rfl (dk dcX11_test_0 26 rfl)
  · replace h := if_t c_1 h
    refine v_iload_n C 0 (dk dcX11_test_0 3 rfl) rfl rfl ?_
    refine v_iload_n C 2 (dk dcX11_test_0 4 rfl) rfl rfl ?_
    refine v_icmp_ge C 15 (dk dcX11_test_0 5 rfl) (by decide) (fun c_2 => ?_) (fun c_2 => ?_)
    · replace h := if_t c_2 h
      refine v_iconst C 0 (dk dcX11_test_0 8 rfl) ki_0 ?_
      refine v_goto C 48 (dk dcX11_test_0 9 rfl) (by decide) ?_
      cases h
      exact v_zret C (x := 0) rfl rfl (dk dcX11_test_0 26 rfl)
    · replace h := if_f c_2 h
      refine v_iconst C 1 (dk dcX11_test_0 6 rfl) ki_1 ?_
      refine v_goto C 48 (dk dcX11_test_0 7 rfl) (by decide) ?_
      cases h
      exact v_zret C (x := 1) rfl rfl (dk dcX11_test_0 26 rfl)
set_option maxRecDepth 20000 in
set_option maxHeartbeats 4000000 in
theorem vX11_isSo_j207 {L : Nat} (hL : 4 ≤ L) (C : CX p s m args meth c cX11_isSo 4 RX11 (some .boolean) E) {g : STt} {l1 : Int32} {l2 : Int32} {l3 : Int32} {K17 : (STt × Int32 × Int32) → Option (STt × Int32)} (hK17 : ∀ {g : STt} {l2 : Int32} {l3 : Int32} (r : STt × Int32), K17 (g, l2, l3) = some r → VJ p l e (rmL (L + 1)) s m args below meth c (QE below E (cellsM E r.1 ++ wx) (some (.int r.2)) args s) E 4 (cellsM E g ++ wx) [(0, .ref (aE E 28 0)), (1, .int l1), (2, .int l2), (3, .int l3)] [] 17) (r : STt × Int32) (h : fX11_isSo_j207 K17 g l1 l2 l3 = some r) : VJ p l e (rmL (L + 1)) s m args below meth c (QE below E (cellsM E r.1 ++ wx) (some (.int r.2)) args s) E 4 (cellsM E g ++ wx) [(0, .ref (aE E 28 0)), (1, .int l1), (2, .int l2), (3, .int l3)] [] 207 := by
  unfold fX11_isSo_j207 at h
  refine v_iinc C (lv' := [(3, .int (l3 + 1)), (0, .ref (aE E 28 0)), (1, .int l1), (2, .int l2)]) (l3 + 1) 3 (dk dcX11_isSo_2 15 rfl) rfl (congrArg (fun z => l3 + z) ki_1) (by decide) rfl ?_
  refine v_goto C 17 (dk dcX11_isSo_2 16 rfl) (by decide) ?_
  exact vj_sub [1, 2, 3, 0] rfl (hK17 _ h)
set_option maxRecDepth 20000 in
set_option maxHeartbeats 4000000 in
theorem vX11_isSo_j128 {L : Nat} (hL : 4 ≤ L) (C : CX p s m args meth c cX11_isSo 4 RX11 (some .boolean) E) {g : STt} {l1 : Int32} {l2 : Int32} {l3 : Int32} {s0 : Int32} {s1 : Int32} {K17 : (STt × Int32 × Int32) → Option (STt × Int32)} (hK17 : ∀ {g : STt} {l2 : Int32} {l3 : Int32} (r : STt × Int32), K17 (g, l2, l3) = some r → VJ p l e (rmL (L + 1)) s m args below meth c (QE below E (cellsM E r.1 ++ wx) (some (.int r.2)) args s) E 4 (cellsM E g ++ wx) [(0, .ref (aE E 28 0)), (1, .int l1), (2, .int l2), (3, .int l3)] [] 17) (r : STt × Int32) (h : fX11_isSo_j128 K17 g l1 l2 l3 s0 s1 = some r) : VJ p l e (rmL (L + 1)) s m args below meth c (QE below E (cellsM E r.1 ++ wx) (some (.int r.2)) args s) E 4 (cellsM E g ++ wx) [(0, .ref (aE E 28 0)), (1, .int l1), (2, .int l2), (3, .int l3)] [.int s0, .int s1, .ref (aE E 44 0)] 128 := by
  unfold fX11_isSo_j128 at h
  obtain ⟨b_1, h⟩ := gd_t h
  refine st_m_pile C b_1 (dk dcX11_isSo_1 16 rfl) ?_
  refine v_goto C 207 (dk dcX11_isSo_1 17 rfl) (by decide) ?_
  exact vj_sub [0, 1, 2, 3] rfl (vX11_isSo_j207 hL C hK17 _ h)
set_option maxRecDepth 20000 in
set_option maxHeartbeats 4000000 in
theorem vX11_isSo_j167 {L : Nat} (hL : 4 ≤ L) (C : CX p s m args meth c cX11_isSo 4 RX11 (some .boolean) E) {g : STt} {l1 : Int32} {l2 : Int32} {l3 : Int32} {s0 : Int32} {s1 : Int32} {K17 : (STt × Int32 × Int32) → Option (STt × Int32)} (hK17 : ∀ {g : STt} {l2 : Int32} {l3 : Int32} (r : STt × Int32), K17 (g, l2, l3) = some r → VJ p l e (rmL (L + 1)) s m args below meth c (QE below E (cellsM E r.1 ++ wx) (some (.int r.2)) args s) E 4 (cellsM E g ++ wx) [(0, .ref (aE E 28 0)), (1, .int l1), (2, .int l2), (3, .int l3)] [] 17) (r : STt × Int32) (h : fX11_isSo_j167 K17 g l1 l2 l3 s0 s1 = some r) : VJ p l e (rmL (L + 1)) s m args below meth c (QE below E (cellsM E r.1 ++ wx) (some (.int r.2)) args s) E 4 (cellsM E g ++ wx) [(0, .ref (aE E 28 0)), (1, .int l1), (2, .int l2), (3, .int l3)] [.int s0, .int s1, .ref (aE E 44 0)] 167 := by
  unfold fX11_isSo_j167 at h
  obtain ⟨b_1, h⟩ := gd_t h
  refine st_m_pile C b_1 (dk dcX11_isSo_1 39 rfl) ?_
  refine v_goto C 207 (dk dcX11_isSo_1 40 rfl) (by decide) ?_
  exact vj_sub [0, 1, 2, 3] rfl (vX11_isSo_j207 hL C hK17 _ h)
set_option maxRecDepth 20000 in
set_option maxHeartbeats 4000000 in
theorem vX11_isSo_j166 {L : Nat} (hL : 4 ≤ L) (C : CX p s m args meth c cX11_isSo 4 RX11 (some .boolean) E) {g : STt} {l1 : Int32} {l2 : Int32} {l3 : Int32} {s0 : Int32} {K17 : (STt × Int32 × Int32) → Option (STt × Int32)} (hK17 : ∀ {g : STt} {l2 : Int32} {l3 : Int32} (r : STt × Int32), K17 (g, l2, l3) = some r → VJ p l e (rmL (L + 1)) s m args below meth c (QE below E (cellsM E r.1 ++ wx) (some (.int r.2)) args s) E 4 (cellsM E g ++ wx) [(0, .ref (aE E 28 0)), (1, .int l1), (2, .int l2), (3, .int l3)] [] 17) (r : STt × Int32) (h : fX11_isSo_j166 K17 g l1 l2 l3 s0 = some r) : VJ p l e (rmL (L + 1)) s m args below meth c (QE below E (cellsM E r.1 ++ wx) (some (.int r.2)) args s) E 4 (cellsM E g ++ wx) [(0, .ref (aE E 28 0)), (1, .int l1), (2, .int l2), (3, .int l3)] [.int s0, .ref (aE E 44 0)] 166 := by
  unfold fX11_isSo_j166 at h
  refine v_iconst C 0 (dk dcX11_isSo_1 38 rfl) ki_0 ?_
  exact vj_sub [0, 1, 2, 3] rfl (vX11_isSo_j167 hL C hK17 _ h)
set_option maxRecDepth 20000 in
set_option maxHeartbeats 4000000 in
theorem vX11_isSo_j206 {L : Nat} (hL : 4 ≤ L) (C : CX p s m args meth c cX11_isSo 4 RX11 (some .boolean) E) {g : STt} {l1 : Int32} {l2 : Int32} {l3 : Int32} {s0 : Int32} {s1 : Int32} {K17 : (STt × Int32 × Int32) → Option (STt × Int32)} (hK17 : ∀ {g : STt} {l2 : Int32} {l3 : Int32} (r : STt × Int32), K17 (g, l2, l3) = some r → VJ p l e (rmL (L + 1)) s m args below meth c (QE below E (cellsM E r.1 ++ wx) (some (.int r.2)) args s) E 4 (cellsM E g ++ wx) [(0, .ref (aE E 28 0)), (1, .int l1), (2, .int l2), (3, .int l3)] [] 17) (r : STt × Int32) (h : fX11_isSo_j206 K17 g l1 l2 l3 s0 s1 = some r) : VJ p l e (rmL (L + 1)) s m args below meth c (QE below E (cellsM E r.1 ++ wx) (some (.int r.2)) args s) E 4 (cellsM E g ++ wx) [(0, .ref (aE E 28 0)), (1, .int l1), (2, .int l2), (3, .int l3)] [.int s0, .int s1, .ref (aE E 44 0)] 206 := by
  unfold fX11_isSo_j206 at h
  obtain ⟨b_1, h⟩ := gd_t h
  refine st_m_pile C b_1 (dk dcX11_isSo_2 14 rfl) ?_
  exact vj_sub [0, 1, 2, 3] rfl (vX11_isSo_j207 hL C hK17 _ h)
set_option maxRecDepth 20000 in
set_option maxHeartbeats 4000000 in
theorem vX11_isSo_j201 {L : Nat} (hL : 4 ≤ L) (C : CX p s m args meth c cX11_isSo 4 RX11 (some .boolean) E) {g : STt} {l1 : Int32} {l2 : Int32} {l3 : Int32} {s0 : Int32} {K17 : (STt × Int32 × Int32) → Option (STt × Int32)} (hK17 : ∀ {g : STt} {l2 : Int32} {l3 : Int32} (r : STt × Int32), K17 (g, l2, l3) = some r → VJ p l e (rmL (L + 1)) s m args below meth c (QE below E (cellsM E r.1 ++ wx) (some (.int r.2)) args s) E 4 (cellsM E g ++ wx) [(0, .ref (aE E 28 0)), (1, .int l1), (2, .int l2), (3, .int l3)] [] 17) (r : STt × Int32) (h : fX11_isSo_j201 K17 g l1 l2 l3 s0 = some r) : VJ p l e (rmL (L + 1)) s m args below meth c (QE below E (cellsM E r.1 ++ wx) (some (.int r.2)) args s) E 4 (cellsM E g ++ wx) [(0, .ref (aE E 28 0)), (1, .int l1), (2, .int l2), (3, .int l3)] [.int s0, .ref (aE E 44 0)] 201 := by
  unfold fX11_isSo_j201 at h
  refine v_iconst C 1 (dk dcX11_isSo_2 11 rfl) ki_1 ?_
  refine v_goto C 206 (dk dcX11_isSo_2 12 rfl) (by decide) ?_
  exact vj_sub [0, 1, 2, 3] rfl (vX11_isSo_j206 hL C hK17 _ h)
set_option maxRecDepth 20000 in
set_option maxHeartbeats 4000000 in
theorem vX11_isSo_l17c {L : Nat} (hL : 4 ≤ L) (C : CX p s m args meth c cX11_isSo 4 RX11 (some .boolean) E) {l1 : Int32} {K17 : (STt × Int32 × Int32) → Option (STt × Int32)} (hK17 : ∀ {g : STt} {l2 : Int32} {l3 : Int32} (r : STt × Int32), K17 (g, l2, l3) = some r → VJ p l e (rmL (L + 1)) s m args below meth c (QE below E (cellsM E r.1 ++ wx) (some (.int r.2)) args s) E 4 (cellsM E g ++ wx) [(0, .ref (aE E 28 0)), (1, .int l1), (2, .int l2), (3, .int l3)] [] 17) {g : STt} {l2 : Int32} {l3 : Int32} (r : STt × Int32) (h : fX11_isSo_l17c K17 l1 g l2 l3 = some r) : VJ p l e (rmL (L + 1)) s m args below meth c (QE below E (cellsM E r.1 ++ wx) (some (.int r.2)) args s) E 4 (cellsM E g ++ wx) [(0, .ref (aE E 28 0)), (1, .int l1), (2, .int l2), (3, .int l3)] [] 17 := by
  unfold fX11_isSo_l17c at h
  refine v_iload_n C 3 (dk dcX11_isSo_0 12 rfl) rfl rfl ?_
  refine v_bipush C 100 (dk dcX11_isSo_0 13 rfl) kb_100 ?_
  refine v_aload_n C 0 (dk dcX11_isSo_0 14 rfl) rfl rfl ?_
  refine gt_Mo_holds C wd_1116 (dk dcX11_isSo_0 15 rfl) ?_
  refine v_imul C (dk dcX11_isSo_0 16 rfl) ?_
  refine v_aload_n C 0 (dk dcX11_isSo_0 17 rfl) rfl rfl ?_
  refine gt_Mo_clauseTo C wd_1121 (dk dcX11_isSo_0 18 rfl) ?_
  refine v_iload_n C 1 (dk dcX11_isSo_0 19 rfl) rfl rfl ?_
  obtain ⟨b_1, h⟩ := gd_t h
  refine ld_m_clauseTo C b_1 (dk dcX11_isSo_0 20 rfl) ?_
  refine v_iadd C (dk dcX11_isSo_0 21 rfl) ?_
  refine v_icmp_ge C 213 (dk dcX11_isSo_0 22 rfl) (by decide) (fun c_2 => ?_) (fun c_2 => ?_)
  · replace h := if_t c_2 h
    refine v_aload_n C 0 (dk dcX11_isSo_2 17 rfl) rfl rfl ?_
    refine gt_Mo_pile C wd_1130 (dk dcX11_isSo_2 18 rfl) ?_
    refine v_iconst C 0 (dk dcX11_isSo_2 19 rfl) ki_0 ?_
    obtain ⟨b_3, h⟩ := gd_t h
    refine ld_m_pile C b_3 (dk dcX11_isSo_2 20 rfl) ?_
    obtain ⟨b_4, h⟩ := gd_t h
    cases h
    exact v_zret C rfl (nw_boolean b_4) (dk dcX11_isSo_2 21 rfl)
  · replace h := if_f c_2 h
    refine v_aload_n C 0 (dk dcX11_isSo_0 23 rfl) rfl rfl ?_
    refine gt_Mo_step C wd_1122 (dk dcX11_isSo_0 24 rfl) ?_
    refine v_iload_n C 3 (dk dcX11_isSo_0 25 rfl) rfl rfl ?_
    obtain ⟨b_3, h⟩ := gd_t h
    refine ld_m_step C b_3 (dk dcX11_isSo_0 26 rfl) ?_
    by_cases c_4 : (g.2.1 64 0 l3.toNatClampNeg) = 0
    · replace h := if_t c_4 h
      refine v_tableIn C 68 (dk dcX11_isSo_0 27 rfl) (by rw [c_4]; decide) (by rw [c_4]; decide) (by rw [c_4]; rfl) (by decide) ?_
      refine v_aload_n C 0 (dk dcX11_isSo_0 28 rfl) rfl rfl ?_
      refine gt_Mo_pile C wd_1130 (dk dcX11_isSo_0 29 rfl) ?_
      refine v_iload_n C 2 (dk dcX11_isSo_0 30 rfl) rfl rfl ?_
      refine v_aload_n C 0 (dk dcX11_isSo_0 31 rfl) rfl rfl ?_
      refine v_aload_n C 0 (dk dcX11_isSo_0 32 rfl) rfl rfl ?_
      refine gt_Mo_letter C wd_1123 (dk dcX11_isSo_0 33 rfl) ?_
      refine v_iload_n C 3 (dk dcX11_isSo_0 34 rfl) rfl rfl ?_
      obtain ⟨b_5, h⟩ := gd_t h
      refine ld_m_letter C b_5 (dk dcX11_isSo_0 35 rfl) ?_
      obtain ⟨r_7, h_6, h⟩ := bnd1_s h
      refine v_callV1 C (mtX11_factOf (L - 1) (by omega) h_6) wmX11_factOf wd_1373 (by omega) (by decide) rfl _ (ce_Mo) rfl rfl (Nat.le_of_ble_eq_true rfl) (dk dcX11_isSo_0 36 rfl) ?_
      refine v_aload_n C 0 (dk dcX11_isSo_0 37 rfl) rfl rfl ?_
      refine gt_Mo_sign C wd_1124 (dk dcX11_isSo_0 38 rfl) ?_
      refine v_iload_n C 3 (dk dcX11_isSo_0 39 rfl) rfl rfl ?_
      obtain ⟨b_8, h⟩ := gd_t h
      refine ld_m_sign C b_8 (dk dcX11_isSo_0 40 rfl) ?_
      refine v_aload_n C 0 (dk dcX11_isSo_0 41 rfl) rfl rfl ?_
      refine gt_Mo_value C wd_1125 (dk dcX11_isSo_0 42 rfl) ?_
      refine v_iload_n C 3 (dk dcX11_isSo_0 43 rfl) rfl rfl ?_
      obtain ⟨b_9, h⟩ := gd_t h
      refine ld_m_value C b_9 (dk dcX11_isSo_0 44 rfl) ?_
      obtain ⟨r_11, h_10, h⟩ := bnd1_s h
      refine v_callS1 C (mtX11_test (L - 1) (by omega) h_10) wmX11_test wd_1383 (by omega) (by decide) rfl rfl (Nat.le_of_ble_eq_true rfl) (dk dcX11_isSo_0 45 rfl) ?_
      obtain ⟨b_12, h⟩ := gd_t h
      refine st_m_pile C b_12 (dk dcX11_isSo_0 46 rfl) ?_
      refine v_iinc C (lv' := [(2, .int (l2 + 1)), (0, .ref (aE E 28 0)), (1, .int l1), (3, .int l3)]) (l2 + 1) 2 (dk dcX11_isSo_0 47 rfl) rfl (congrArg (fun z => l2 + z) ki_1) (by decide) rfl ?_
      refine v_goto C 207 (dk dcX11_isSo_1 0 rfl) (by decide) ?_
      exact vj_sub [1, 2, 0, 3] rfl (vX11_isSo_j207 hL C hK17 _ h)
    · replace h := if_f c_4 h
      by_cases c_5 : (g.2.1 64 0 l3.toNatClampNeg) = 1
      · replace h := if_t c_5 h
        refine v_tableIn C 105 (dk dcX11_isSo_0 27 rfl) (by rw [c_5]; decide) (by rw [c_5]; decide) (by rw [c_5]; rfl) (by decide) ?_
        refine v_aload_n C 0 (dk dcX11_isSo_1 1 rfl) rfl rfl ?_
        refine gt_Mo_pile C wd_1130 (dk dcX11_isSo_1 2 rfl) ?_
        refine v_iload_n C 2 (dk dcX11_isSo_1 3 rfl) rfl rfl ?_
        refine v_iconst C 1 (dk dcX11_isSo_1 4 rfl) ki_1 ?_
        refine v_isub C (dk dcX11_isSo_1 5 rfl) ?_
        refine v_aload_n C 0 (dk dcX11_isSo_1 6 rfl) rfl rfl ?_
        refine gt_Mo_pile C wd_1130 (dk dcX11_isSo_1 7 rfl) ?_
        refine v_iload_n C 2 (dk dcX11_isSo_1 8 rfl) rfl rfl ?_
        refine v_iconst C 1 (dk dcX11_isSo_1 9 rfl) ki_1 ?_
        refine v_isub C (dk dcX11_isSo_1 10 rfl) ?_
        obtain ⟨b_6, h⟩ := gd_t h
        refine ld_m_pile C b_6 (dk dcX11_isSo_1 11 rfl) ?_
        refine v_if_ne C 127 (dk dcX11_isSo_1 12 rfl) (by decide) (fun c_7 => ?_) (fun c_7 => ?_)
        · replace h := if_f c_7 h
          refine v_iconst C 0 (dk dcX11_isSo_1 15 rfl) ki_0 ?_
          exact vj_sub [0, 1, 2, 3] rfl (vX11_isSo_j128 hL C hK17 _ h)
        · replace h := if_t c_7 h
          refine v_iconst C 1 (dk dcX11_isSo_1 13 rfl) ki_1 ?_
          refine v_goto C 128 (dk dcX11_isSo_1 14 rfl) (by decide) ?_
          exact vj_sub [0, 1, 2, 3] rfl (vX11_isSo_j128 hL C hK17 _ h)
      · replace h := if_f c_5 h
        by_cases c_6 : (g.2.1 64 0 l3.toNatClampNeg) = 2
        · replace h := if_t c_6 h
          refine v_tableIn C 132 (dk dcX11_isSo_0 27 rfl) (by rw [c_6]; decide) (by rw [c_6]; decide) (by rw [c_6]; rfl) (by decide) ?_
          refine v_iinc C (lv' := [(2, .int (l2 + (-1))), (0, .ref (aE E 28 0)), (1, .int l1), (3, .int l3)]) (l2 + (-1)) 2 (dk dcX11_isSo_1 18 rfl) rfl (congrArg (fun z => l2 + z) ki_m1) (by decide) rfl ?_
          refine v_aload_n C 1 (dk dcX11_isSo_1 19 rfl) rfl rfl ?_
          refine gt_Mo_pile C wd_1130 (dk dcX11_isSo_1 20 rfl) ?_
          refine v_iload_n C 0 (dk dcX11_isSo_1 21 rfl) rfl rfl ?_
          refine v_iconst C 1 (dk dcX11_isSo_1 22 rfl) ki_1 ?_
          refine v_isub C (dk dcX11_isSo_1 23 rfl) ?_
          refine v_aload_n C 1 (dk dcX11_isSo_1 24 rfl) rfl rfl ?_
          refine gt_Mo_pile C wd_1130 (dk dcX11_isSo_1 25 rfl) ?_
          refine v_iload_n C 0 (dk dcX11_isSo_1 26 rfl) rfl rfl ?_
          refine v_iconst C 1 (dk dcX11_isSo_1 27 rfl) ki_1 ?_
          refine v_isub C (dk dcX11_isSo_1 28 rfl) ?_
          obtain ⟨b_7, h⟩ := gd_t h
          refine ld_m_pile C b_7 (dk dcX11_isSo_1 29 rfl) ?_
          refine v_if_eq C 166 (dk dcX11_isSo_1 30 rfl) (by decide) (fun c_8 => ?_) (fun c_8 => ?_)
          · replace h := if_t c_8 h
            exact vj_sub [1, 2, 0, 3] rfl (vX11_isSo_j166 hL C hK17 _ h)
          · replace h := if_f c_8 h
            refine v_aload_n C 1 (dk dcX11_isSo_1 31 rfl) rfl rfl ?_
            refine gt_Mo_pile C wd_1130 (dk dcX11_isSo_1 32 rfl) ?_
            refine v_iload_n C 0 (dk dcX11_isSo_1 33 rfl) rfl rfl ?_
            obtain ⟨b_9, h⟩ := gd_t h
            refine ld_m_pile C b_9 (dk dcX11_isSo_1 34 rfl) ?_
            refine v_if_eq C 166 (dk dcX11_isSo_1 35 rfl) (by decide) (fun c_10 => ?_) (fun c_10 => ?_)
            · replace h := if_t c_10 h
              exact vj_sub [1, 2, 0, 3] rfl (vX11_isSo_j166 hL C hK17 _ h)
            · replace h := if_f c_10 h
              refine v_iconst C 1 (dk dcX11_isSo_1 36 rfl) ki_1 ?_
              refine v_goto C 167 (dk dcX11_isSo_1 37 rfl) (by decide) ?_
              exact vj_sub [1, 2, 0, 3] rfl (vX11_isSo_j167 hL C hK17 _ h)
        · replace h := if_f c_6 h
          have ec_4 := i32_ne (k := 0) c_4 (by decide)
          have ec_5 := i32_ne (k := 1) c_5 (by decide)
          have ec_6 := i32_ne (k := 2) c_6 (by decide)
          refine v_tableOut C 171 (dk dcX11_isSo_0 27 rfl) (by omega) (by decide) ?_
          refine v_iinc C (lv' := [(2, .int (l2 + (-1))), (0, .ref (aE E 28 0)), (1, .int l1), (3, .int l3)]) (l2 + (-1)) 2 (dk dcX11_isSo_1 41 rfl) rfl (congrArg (fun z => l2 + z) ki_m1) (by decide) rfl ?_
          refine v_aload_n C 1 (dk dcX11_isSo_1 42 rfl) rfl rfl ?_
          refine gt_Mo_pile C wd_1130 (dk dcX11_isSo_1 43 rfl) ?_
          refine v_iload_n C 0 (dk dcX11_isSo_1 44 rfl) rfl rfl ?_
          refine v_iconst C 1 (dk dcX11_isSo_1 45 rfl) ki_1 ?_
          refine v_isub C (dk dcX11_isSo_1 46 rfl) ?_
          refine v_aload_n C 1 (dk dcX11_isSo_1 47 rfl) rfl rfl ?_
          refine gt_Mo_pile C wd_1130 (dk dcX11_isSo_2 0 rfl) ?_
          refine v_iload_n C 0 (dk dcX11_isSo_2 1 rfl) rfl rfl ?_
          refine v_iconst C 1 (dk dcX11_isSo_2 2 rfl) ki_1 ?_
          refine v_isub C (dk dcX11_isSo_2 3 rfl) ?_
          obtain ⟨b_7, h⟩ := gd_t h
          refine ld_m_pile C b_7 (dk dcX11_isSo_2 4 rfl) ?_
          refine v_if_ne C 201 (dk dcX11_isSo_2 5 rfl) (by decide) (fun c_8 => ?_) (fun c_8 => ?_)
          · replace h := if_f c_8 h
            exact vj_sub [1, 2, 0, 3] rfl (vX11_isSo_j201 hL C hK17 _ h)
          · replace h := if_t c_8 h
            refine v_aload_n C 1 (dk dcX11_isSo_2 6 rfl) rfl rfl ?_
            refine gt_Mo_pile C wd_1130 (dk dcX11_isSo_2 7 rfl) ?_
            refine v_iload_n C 0 (dk dcX11_isSo_2 8 rfl) rfl rfl ?_
            obtain ⟨b_9, h⟩ := gd_t h
            refine ld_m_pile C b_9 (dk dcX11_isSo_2 9 rfl) ?_
            refine v_if_eq C 205 (dk dcX11_isSo_2 10 rfl) (by decide) (fun c_10 => ?_) (fun c_10 => ?_)
            · replace h := if_t c_10 h
              refine v_iconst C 0 (dk dcX11_isSo_2 13 rfl) ki_0 ?_
              exact vj_sub [1, 2, 0, 3] rfl (vX11_isSo_j206 hL C hK17 _ h)
            · replace h := if_f c_10 h
              exact vj_sub [1, 2, 0, 3] rfl (vX11_isSo_j201 hL C hK17 _ h)
set_option maxRecDepth 20000 in
set_option maxHeartbeats 4000000 in
theorem vX11_isSo_l17 {L : Nat} (hL : 4 ≤ L) (C : CX p s m args meth c cX11_isSo 4 RX11 (some .boolean) E) {l1 : Int32} {g : STt} {l2 : Int32} {l3 : Int32} (r : STt × Int32) (h : fX11_isSo_l17 l1 g l2 l3 = some r) : VJ p l e (rmL (L + 1)) s m args below meth c (QE below E (cellsM E r.1 ++ wx) (some (.int r.2)) args s) E 4 (cellsM E g ++ wx) [(0, .ref (aE E 28 0)), (1, .int l1), (2, .int l2), (3, .int l3)] [] 17 :=
  iterO_ind (F := fun K z => fX11_isSo_l17c K l1 z.1 z.2.1 z.2.2) (fun z r => VJ p l e (rmL (L + 1)) s m args below meth c (QE below E (cellsM E r.1 ++ wx) (some (.int r.2)) args s) E 4 (cellsM E z.1 ++ wx) [(0, .ref (aE E 28 0)), (1, .int l1), (2, .int z.2.1), (3, .int z.2.2)] [] 17) (fun K hK z r h => vX11_isSo_l17c hL C (fun {g} {l2} {l3} r h => hK (g, l2, l3) r h) r h) fuelN (g, l2, l3) r h
set_option maxRecDepth 20000 in
set_option maxHeartbeats 4000000 in
theorem mtX11_isSo {l : Launch} {E : WEt} {wx : va_W} (L : Nat) (hL : 4 ≤ L)  {g : STt} {x1 : Int32} {g' : STt} {rr : Int32} (h : fX11_isSo g x1 = some (g', rr)) : MT l E yX11_isSo cX11_isSo 4 (some .boolean) (L + 1) [.ref (aE E 28 0), .int x1] (cellsM E g ++ wx) (cellsM E g' ++ wx) (some (.int rr)) := by
  refine mt_of (by decide +kernel) (Nat.le_of_ble_eq_true rfl) ?_
  intro p e s m args below meth c C
  replace C : CX p s m args meth c cX11_isSo 4 RX11 (some .boolean) E := C
  unfold fX11_isSo at h
  refine vj_sub (lv' := [(0, .ref (aE E 28 0)), (1, .int x1)]) [0, 1] rfl ?_
  refine v_iconst C 0 (dk dcX11_isSo_0 0 rfl) ki_0 ?_
  refine v_istore_n C (lv' := [(2, .int 0), (0, .ref (aE E 28 0)), (1, .int x1)]) (dk dcX11_isSo_0 1 rfl) rfl (by decide) rfl ?_
  refine v_bipush C 100 (dk dcX11_isSo_0 2 rfl) kb_100 ?_
  refine v_aload_n C 1 (dk dcX11_isSo_0 3 rfl) rfl rfl ?_
  refine gt_Mo_holds C wd_1116 (dk dcX11_isSo_0 4 rfl) ?_
  refine v_imul C (dk dcX11_isSo_0 5 rfl) ?_
  refine v_aload_n C 1 (dk dcX11_isSo_0 6 rfl) rfl rfl ?_
  refine gt_Mo_clauseFrom C wd_1120 (dk dcX11_isSo_0 7 rfl) ?_
  refine v_iload_n C 2 (dk dcX11_isSo_0 8 rfl) rfl rfl ?_
  obtain ⟨b_1, h⟩ := gd_t h
  refine ld_m_clauseFrom C b_1 (dk dcX11_isSo_0 9 rfl) ?_
  refine v_iadd C (dk dcX11_isSo_0 10 rfl) ?_
  refine v_istore_n C (lv' := [(3, .int ((100 * (g.1 36 0)) + (g.2.1 62 0 x1.toNatClampNeg))), (2, .int 0), (0, .ref (aE E 28 0)), (1, .int x1)]) (dk dcX11_isSo_0 11 rfl) rfl (by decide) rfl ?_
  exact vj_sub [2, 3, 1, 0] rfl (vX11_isSo_l17 hL C _ h)
set_option maxRecDepth 20000 in
set_option maxHeartbeats 4000000 in
theorem vX11_sumOf_j67 {L : Nat} (hL : 5 ≤ L) (C : CX p s m args meth c cX11_sumOf 4 RX11 (some .int) E) {g : STt} {l1 : Int32} {l2 : Int32} {l3 : Int32} {K19 : (STt × Int32 × Int32) → Option (STt × Int32)} (hK19 : ∀ {g : STt} {l2 : Int32} {l3 : Int32} (r : STt × Int32), K19 (g, l2, l3) = some r → VJ p l e (rmL (L + 1)) s m args below meth c (QE below E (cellsM E r.1 ++ wx) (some (.int r.2)) args s) E 4 (cellsM E g ++ wx) [(0, .ref (aE E 28 0)), (1, .int l1), (2, .int l2), (3, .int l3)] [] 19) (r : STt × Int32) (h : fX11_sumOf_j67 K19 g l1 l2 l3 = some r) : VJ p l e (rmL (L + 1)) s m args below meth c (QE below E (cellsM E r.1 ++ wx) (some (.int r.2)) args s) E 4 (cellsM E g ++ wx) [(0, .ref (aE E 28 0)), (1, .int l1), (2, .int l2), (3, .int l3)] [] 67 := by
  unfold fX11_sumOf_j67 at h
  refine v_iinc C (lv' := [(3, .int (l3 + 1)), (0, .ref (aE E 28 0)), (1, .int l1), (2, .int l2)]) (l3 + 1) 3 (dk dcX11_sumOf_0 41 rfl) rfl (congrArg (fun z => l3 + z) ki_1) (by decide) rfl ?_
  refine v_goto C 19 (dk dcX11_sumOf_0 42 rfl) (by decide) ?_
  exact vj_sub [1, 2, 3, 0] rfl (hK19 _ h)
set_option maxRecDepth 20000 in
set_option maxHeartbeats 4000000 in
theorem vX11_sumOf_l19c {L : Nat} (hL : 5 ≤ L) (C : CX p s m args meth c cX11_sumOf 4 RX11 (some .int) E) {l1 : Int32} {K19 : (STt × Int32 × Int32) → Option (STt × Int32)} (hK19 : ∀ {g : STt} {l2 : Int32} {l3 : Int32} (r : STt × Int32), K19 (g, l2, l3) = some r → VJ p l e (rmL (L + 1)) s m args below meth c (QE below E (cellsM E r.1 ++ wx) (some (.int r.2)) args s) E 4 (cellsM E g ++ wx) [(0, .ref (aE E 28 0)), (1, .int l1), (2, .int l2), (3, .int l3)] [] 19) {g : STt} {l2 : Int32} {l3 : Int32} (r : STt × Int32) (h : fX11_sumOf_l19c K19 l1 g l2 l3 = some r) : VJ p l e (rmL (L + 1)) s m args below meth c (QE below E (cellsM E r.1 ++ wx) (some (.int r.2)) args s) E 4 (cellsM E g ++ wx) [(0, .ref (aE E 28 0)), (1, .int l1), (2, .int l2), (3, .int l3)] [] 19 := by
  unfold fX11_sumOf_l19c at h
  refine v_iload_n C 3 (dk dcX11_sumOf_0 12 rfl) rfl rfl ?_
  refine v_bipush C 10 (dk dcX11_sumOf_0 13 rfl) kb_10 ?_
  refine v_aload_n C 0 (dk dcX11_sumOf_0 14 rfl) rfl rfl ?_
  refine gt_Mo_holds C wd_1116 (dk dcX11_sumOf_0 15 rfl) ?_
  refine v_imul C (dk dcX11_sumOf_0 16 rfl) ?_
  refine v_aload_n C 0 (dk dcX11_sumOf_0 17 rfl) rfl rfl ?_
  refine gt_Mo_clauseMany C wd_1117 (dk dcX11_sumOf_0 18 rfl) ?_
  refine v_aload_n C 0 (dk dcX11_sumOf_0 19 rfl) rfl rfl ?_
  refine gt_Mo_holds C wd_1116 (dk dcX11_sumOf_0 20 rfl) ?_
  obtain ⟨b_1, h⟩ := gd_t h
  refine ld_m_clauseMany C b_1 (dk dcX11_sumOf_0 21 rfl) ?_
  refine v_iadd C (dk dcX11_sumOf_0 22 rfl) ?_
  refine v_icmp_ge C 73 (dk dcX11_sumOf_0 23 rfl) (by decide) (fun c_2 => ?_) (fun c_2 => ?_)
  · replace h := if_t c_2 h
    refine v_iload_n C 2 (dk dcX11_sumOf_0 43 rfl) rfl rfl ?_
    cases h
    exact v_iret C rfl (dk dcX11_sumOf_0 44 rfl)
  · replace h := if_f c_2 h
    refine v_aload_n C 0 (dk dcX11_sumOf_0 24 rfl) rfl rfl ?_
    refine gt_Mo_clauseIs C wd_1118 (dk dcX11_sumOf_0 25 rfl) ?_
    refine v_iload_n C 3 (dk dcX11_sumOf_0 26 rfl) rfl rfl ?_
    obtain ⟨b_3, h⟩ := gd_t h
    refine ld_m_clauseIs C b_3 (dk dcX11_sumOf_0 27 rfl) ?_
    refine v_iload_n C 1 (dk dcX11_sumOf_0 28 rfl) rfl rfl ?_
    refine v_icmp_ne C 67 (dk dcX11_sumOf_0 29 rfl) (by decide) (fun c_4 => ?_) (fun c_4 => ?_)
    · replace h := if_f c_4 h
      exact vj_sub [0, 1, 2, 3] rfl (vX11_sumOf_j67 hL C hK19 _ h)
    · replace h := if_t c_4 h
      refine v_aload_n C 0 (dk dcX11_sumOf_0 30 rfl) rfl rfl ?_
      refine v_iload_n C 3 (dk dcX11_sumOf_0 31 rfl) rfl rfl ?_
      obtain ⟨g_6, r_7, h_5, h⟩ := bnd_s h
      refine v_callV1 C (mtX11_isSo (L - 1) (by omega) h_5) wmX11_isSo wd_1369 (by omega) (by decide) rfl _ (ce_Mo) rfl rfl (Nat.le_of_ble_eq_true rfl) (dk dcX11_sumOf_0 32 rfl) ?_
      refine v_if_eq C 67 (dk dcX11_sumOf_0 33 rfl) (by decide) (fun c_8 => ?_) (fun c_8 => ?_)
      · replace h := if_t c_8 h
        exact vj_sub [0, 1, 2, 3] rfl (vX11_sumOf_j67 hL C hK19 _ h)
      · replace h := if_f c_8 h
        refine v_iload_n C 2 (dk dcX11_sumOf_0 34 rfl) rfl rfl ?_
        refine v_aload_n C 0 (dk dcX11_sumOf_0 35 rfl) rfl rfl ?_
        refine gt_Mo_clauseN C wd_1119 (dk dcX11_sumOf_0 36 rfl) ?_
        refine v_iload_n C 3 (dk dcX11_sumOf_0 37 rfl) rfl rfl ?_
        obtain ⟨b_9, h⟩ := gd_t h
        refine ld_m_clauseN C b_9 (dk dcX11_sumOf_0 38 rfl) ?_
        refine v_iadd C (dk dcX11_sumOf_0 39 rfl) ?_
        refine v_istore_n C (lv' := [(2, .int (l2 + (g_6.2.1 61 0 l3.toNatClampNeg))), (0, .ref (aE E 28 0)), (1, .int l1), (3, .int l3)]) (dk dcX11_sumOf_0 40 rfl) rfl (by decide) rfl ?_
        exact vj_sub [1, 2, 0, 3] rfl (vX11_sumOf_j67 hL C hK19 _ h)
set_option maxRecDepth 20000 in
set_option maxHeartbeats 4000000 in
theorem vX11_sumOf_l19 {L : Nat} (hL : 5 ≤ L) (C : CX p s m args meth c cX11_sumOf 4 RX11 (some .int) E) {l1 : Int32} {g : STt} {l2 : Int32} {l3 : Int32} (r : STt × Int32) (h : fX11_sumOf_l19 l1 g l2 l3 = some r) : VJ p l e (rmL (L + 1)) s m args below meth c (QE below E (cellsM E r.1 ++ wx) (some (.int r.2)) args s) E 4 (cellsM E g ++ wx) [(0, .ref (aE E 28 0)), (1, .int l1), (2, .int l2), (3, .int l3)] [] 19 :=
  iterO_ind (F := fun K z => fX11_sumOf_l19c K l1 z.1 z.2.1 z.2.2) (fun z r => VJ p l e (rmL (L + 1)) s m args below meth c (QE below E (cellsM E r.1 ++ wx) (some (.int r.2)) args s) E 4 (cellsM E z.1 ++ wx) [(0, .ref (aE E 28 0)), (1, .int l1), (2, .int z.2.1), (3, .int z.2.2)] [] 19) (fun K hK z r h => vX11_sumOf_l19c hL C (fun {g} {l2} {l3} r h => hK (g, l2, l3) r h) r h) fuelN (g, l2, l3) r h
set_option maxRecDepth 20000 in
set_option maxHeartbeats 4000000 in
theorem mtX11_sumOf {l : Launch} {E : WEt} {wx : va_W} (L : Nat) (hL : 5 ≤ L)  {g : STt} {x1 : Int32} {g' : STt} {rr : Int32} (h : fX11_sumOf g x1 = some (g', rr)) : MT l E yX11_sumOf cX11_sumOf 4 (some .int) (L + 1) [.ref (aE E 28 0), .int x1] (cellsM E g ++ wx) (cellsM E g' ++ wx) (some (.int rr)) := by
  refine mt_of (by decide +kernel) (Nat.le_of_ble_eq_true rfl) ?_
  intro p e s m args below meth c C
  replace C : CX p s m args meth c cX11_sumOf 4 RX11 (some .int) E := C
  unfold fX11_sumOf at h
  refine vj_sub (lv' := [(0, .ref (aE E 28 0)), (1, .int x1)]) [0, 1] rfl ?_
  refine v_iconst C 0 (dk dcX11_sumOf_0 0 rfl) ki_0 ?_
  refine v_istore_n C (lv' := [(2, .int 0), (0, .ref (aE E 28 0)), (1, .int x1)]) (dk dcX11_sumOf_0 1 rfl) rfl (by decide) rfl ?_
  refine v_aload_n C 1 (dk dcX11_sumOf_0 2 rfl) rfl rfl ?_
  refine gt_Mo_holds C wd_1116 (dk dcX11_sumOf_0 3 rfl) ?_
  refine v_if_ge C 11 (dk dcX11_sumOf_0 4 rfl) (by decide) (fun c_1 => ?_) (fun c_1 => ?_)
  · replace h := if_t c_1 h
    refine v_bipush C 10 (dk dcX11_sumOf_0 7 rfl) kb_10 ?_
    refine v_aload_n C 1 (dk dcX11_sumOf_0 8 rfl) rfl rfl ?_
    refine gt_Mo_holds C wd_1116 (dk dcX11_sumOf_0 9 rfl) ?_
    refine v_imul C (dk dcX11_sumOf_0 10 rfl) ?_
    refine v_istore_n C (lv' := [(3, .int (10 * (g.1 36 0))), (2, .int 0), (0, .ref (aE E 28 0)), (1, .int x1)]) (dk dcX11_sumOf_0 11 rfl) rfl (by decide) rfl ?_
    exact vj_sub [2, 3, 1, 0] rfl (vX11_sumOf_l19 hL C _ h)
  · replace h := if_f c_1 h
    refine v_iconst C 0 (dk dcX11_sumOf_0 5 rfl) ki_0 ?_
    cases h
    exact v_iret C rfl (dk dcX11_sumOf_0 6 rfl)
set_option maxRecDepth 20000 in
set_option maxHeartbeats 4000000 in
theorem vX11_lessBy_j74 {L : Nat} (hL : 6 ≤ L) (C : CX p s m args meth c cX11_lessBy 4 RX11 (some .int) E) {g : STt} (r : STt × Int32) (h : fX11_lessBy_j74 g = some r) : VJ p l e (rmL (L + 1)) s m args below meth c (QE below E (cellsM E r.1 ++ wx) (some (.int r.2)) args s) E 4 (cellsM E g ++ wx) [(0, .ref (aE E 28 0))] [] 74 := by
  unfold fX11_lessBy_j74 at h
  refine v_aload_n C 0 (dk dcX11_lessBy_0 24 rfl) rfl rfl ?_
  refine v_iconst C 2 (dk dcX11_lessBy_0 25 rfl) ki_2 ?_
  obtain ⟨g_2, r_3, h_1, h⟩ := bnd_s h
  refine v_callV1 C (mtX11_sumOf (L - 1) (by omega) h_1) wmX11_sumOf wd_1365 (by omega) (by decide) rfl _ (ce_Mo) rfl rfl (Nat.le_of_ble_eq_true rfl) (dk dcX11_lessBy_0 26 rfl) ?_
  refine v_goto C 83 (dk dcX11_lessBy_0 27 rfl) (by decide) ?_
  cases h
  exact v_iret C rfl (dk dcX11_lessBy_0 29 rfl)
set_option maxRecDepth 20000 in
set_option maxHeartbeats 4000000 in
theorem vX11_lessBy_j95 {L : Nat} (hL : 6 ≤ L) (C : CX p s m args meth c cX11_lessBy 4 RX11 (some .int) E) {g : STt} (r : STt × Int32) (h : fX11_lessBy_j95 g = some r) : VJ p l e (rmL (L + 1)) s m args below meth c (QE below E (cellsM E r.1 ++ wx) (some (.int r.2)) args s) E 4 (cellsM E g ++ wx) [(0, .ref (aE E 28 0))] [] 95 := by
  unfold fX11_lessBy_j95 at h
  refine v_aload_n C 0 (dk dcX11_lessBy_0 36 rfl) rfl rfl ?_
  refine gt_Mo_is C wd_1112 (dk dcX11_lessBy_0 37 rfl) ?_
  refine v_bipush C 6 (dk dcX11_lessBy_0 38 rfl) kb_6 ?_
  obtain ⟨b_1, h⟩ := gd_t h
  refine ld_m_is C b_1 (dk dcX11_lessBy_0 39 rfl) ?_
  refine v_goto C 106 (dk dcX11_lessBy_0 40 rfl) (by decide) ?_
  cases h
  exact v_iret C rfl (dk dcX11_lessBy_0 42 rfl)
set_option maxRecDepth 20000 in
set_option maxHeartbeats 4000000 in
theorem mtX11_lessBy {l : Launch} {E : WEt} {wx : va_W} (L : Nat) (hL : 6 ≤ L)  {g : STt} {x1 : Int32} {x2 : Int32} {g' : STt} {rr : Int32} (h : fX11_lessBy g x1 x2 = some (g', rr)) : MT l E yX11_lessBy cX11_lessBy 4 (some .int) (L + 1) [.ref (aE E 28 0), .int x1, .int x2] (cellsM E g ++ wx) (cellsM E g' ++ wx) (some (.int rr)) := by
  refine mt_of (by decide +kernel) (Nat.le_of_ble_eq_true rfl) ?_
  intro p e s m args below meth c C
  replace C : CX p s m args meth c cX11_lessBy 4 RX11 (some .int) E := C
  unfold fX11_lessBy at h
  refine vj_sub (lv' := [(0, .ref (aE E 28 0)), (1, .int x1), (2, .int x2)]) [0, 1, 2] rfl ?_
  refine v_aload_n C 0 (dk dcX11_lessBy_0 0 rfl) rfl rfl ?_
  refine gt_Mo_kind C wd_1109 (dk dcX11_lessBy_0 1 rfl) ?_
  refine v_aload_n C 0 (dk dcX11_lessBy_0 2 rfl) rfl rfl ?_
  refine gt_Mo_is C wd_1112 (dk dcX11_lessBy_0 3 rfl) ?_
  refine v_bipush C 12 (dk dcX11_lessBy_0 4 rfl) kb_12 ?_
  obtain ⟨b_1, h⟩ := gd_t h
  refine ld_m_is C b_1 (dk dcX11_lessBy_0 5 rfl) ?_
  obtain ⟨b_2, h⟩ := gd_t h
  refine ld_m_kind C b_2 (dk dcX11_lessBy_0 6 rfl) ?_
  refine v_istore_n C (lv' := [(3, .int (g.2.1 54 0 (g.2.1 57 0 (12 : Int32).toNatClampNeg).toNatClampNeg)), (0, .ref (aE E 28 0)), (1, .int x1), (2, .int x2)]) (dk dcX11_lessBy_0 7 rfl) rfl (by decide) rfl ?_
  refine v_iload_n C 2 (dk dcX11_lessBy_0 8 rfl) rfl rfl ?_
  by_cases c_3 : x1 = 0
  · replace h := if_t c_3 h
    refine v_tableIn C 52 (dk dcX11_lessBy_0 9 rfl) (by rw [c_3]; decide) (by rw [c_3]; decide) (by rw [c_3]; rfl) (by decide) ?_
    refine v_aload_n C 1 (dk dcX11_lessBy_0 10 rfl) rfl rfl ?_
    refine v_iconst C 1 (dk dcX11_lessBy_0 11 rfl) ki_1 ?_
    obtain ⟨g_5, r_6, h_4, h⟩ := bnd_s h
    refine v_callV1 C (mtX11_sumOf (L - 1) (by omega) h_4) wmX11_sumOf wd_1365 (by omega) (by decide) rfl _ (ce_Mo) rfl rfl (Nat.le_of_ble_eq_true rfl) (dk dcX11_lessBy_0 12 rfl) ?_
    cases h
    exact v_iret C rfl (dk dcX11_lessBy_0 13 rfl)
  · replace h := if_f c_3 h
    by_cases c_4 : x1 = 1
    · replace h := if_t c_4 h
      refine v_tableIn C 58 (dk dcX11_lessBy_0 9 rfl) (by rw [c_4]; decide) (by rw [c_4]; decide) (by rw [c_4]; rfl) (by decide) ?_
      refine v_aload_n C 1 (dk dcX11_lessBy_0 14 rfl) rfl rfl ?_
      refine v_iload_n C 3 (dk dcX11_lessBy_0 15 rfl) rfl rfl ?_
      obtain ⟨r_6, h_5, h⟩ := bnd1_s h
      refine v_callV1 C (mtX11_fearAs (L - 1) (by omega) h_5) wmX11_fearAs wd_1403 (by omega) (by decide) rfl _ (ce_Mo) rfl rfl (Nat.le_of_ble_eq_true rfl) (dk dcX11_lessBy_0 16 rfl) ?_
      cases h
      exact v_iret C rfl (dk dcX11_lessBy_0 17 rfl)
    · replace h := if_f c_4 h
      by_cases c_5 : x1 = 2
      · replace h := if_t c_5 h
        refine v_tableIn C 64 (dk dcX11_lessBy_0 9 rfl) (by rw [c_5]; decide) (by rw [c_5]; decide) (by rw [c_5]; rfl) (by decide) ?_
        refine v_iload_n C 0 (dk dcX11_lessBy_0 18 rfl) rfl rfl ?_
        refine v_iconst C 2 (dk dcX11_lessBy_0 19 rfl) ki_2 ?_
        refine v_icmp_eq C 74 (dk dcX11_lessBy_0 20 rfl) (by decide) (fun c_6 => ?_) (fun c_6 => ?_)
        · replace h := if_t c_6 h
          exact vj_sub [1] rfl (vX11_lessBy_j74 hL C _ h)
        · replace h := if_f c_6 h
          refine v_iload_n C 0 (dk dcX11_lessBy_0 21 rfl) rfl rfl ?_
          refine v_iconst C 5 (dk dcX11_lessBy_0 22 rfl) ki_5 ?_
          refine v_icmp_ne C 82 (dk dcX11_lessBy_0 23 rfl) (by decide) (fun c_7 => ?_) (fun c_7 => ?_)
          · replace h := if_f c_7 h
            refine v_iconst C 0 (dk dcX11_lessBy_0 28 rfl) ki_0 ?_
            cases h
            exact v_iret C rfl (dk dcX11_lessBy_0 29 rfl)
          · replace h := if_t c_7 h
            exact vj_sub [1] rfl (vX11_lessBy_j74 hL C _ h)
      · replace h := if_f c_5 h
        by_cases c_6 : x1 = 3
        · replace h := if_t c_6 h
          refine v_tableIn C 84 (dk dcX11_lessBy_0 9 rfl) (by rw [c_6]; decide) (by rw [c_6]; decide) (by rw [c_6]; rfl) (by decide) ?_
          refine v_iload_n C 0 (dk dcX11_lessBy_0 30 rfl) rfl rfl ?_
          refine v_iconst C 3 (dk dcX11_lessBy_0 31 rfl) ki_3 ?_
          refine v_icmp_eq C 95 (dk dcX11_lessBy_0 32 rfl) (by decide) (fun c_7 => ?_) (fun c_7 => ?_)
          · replace h := if_t c_7 h
            exact vj_sub [1] rfl (vX11_lessBy_j95 hL C _ h)
          · replace h := if_f c_7 h
            refine v_iload_n C 0 (dk dcX11_lessBy_0 33 rfl) rfl rfl ?_
            refine v_bipush C 6 (dk dcX11_lessBy_0 34 rfl) kb_6 ?_
            refine v_icmp_ne C 105 (dk dcX11_lessBy_0 35 rfl) (by decide) (fun c_8 => ?_) (fun c_8 => ?_)
            · replace h := if_f c_8 h
              refine v_iconst C 0 (dk dcX11_lessBy_0 41 rfl) ki_0 ?_
              cases h
              exact v_iret C rfl (dk dcX11_lessBy_0 42 rfl)
            · replace h := if_t c_8 h
              exact vj_sub [1] rfl (vX11_lessBy_j95 hL C _ h)
        · replace h := if_f c_6 h
          by_cases c_7 : x1 = 4
          · replace h := if_t c_7 h
            refine v_tableIn C 107 (dk dcX11_lessBy_0 9 rfl) (by rw [c_7]; decide) (by rw [c_7]; decide) (by rw [c_7]; rfl) (by decide) ?_
            refine v_iload_n C 0 (dk dcX11_lessBy_0 43 rfl) rfl rfl ?_
            refine v_iconst C 5 (dk dcX11_lessBy_0 44 rfl) ki_5 ?_
            refine v_icmp_ne C 124 (dk dcX11_lessBy_0 45 rfl) (by decide) (fun c_8 => ?_) (fun c_8 => ?_)
            · replace h := if_f c_8 h
              refine v_iconst C 0 (dk dcX11_lessBy_1 5 rfl) ki_0 ?_
              cases h
              exact v_iret C rfl (dk dcX11_lessBy_1 6 rfl)
            · replace h := if_t c_8 h
              refine v_aload_n C 1 (dk dcX11_lessBy_0 46 rfl) rfl rfl ?_
              refine gt_Mo_is C wd_1112 (dk dcX11_lessBy_0 47 rfl) ?_
              refine v_bipush C 8 (dk dcX11_lessBy_1 0 rfl) kb_8 ?_
              obtain ⟨b_9, h⟩ := gd_t h
              refine ld_m_is C b_9 (dk dcX11_lessBy_1 1 rfl) ?_
              refine v_iconst C 2 (dk dcX11_lessBy_1 2 rfl) ki_2 ?_
              refine v_idiv C (dk dcX11_lessBy_1 3 rfl) (by decide) ?_
              refine v_goto C 125 (dk dcX11_lessBy_1 4 rfl) (by decide) ?_
              cases h
              exact v_iret C rfl (dk dcX11_lessBy_1 6 rfl)
          · replace h := if_f c_7 h
            by_cases c_8 : x1 = 5
            · replace h := if_t c_8 h
              refine v_tableIn C 126 (dk dcX11_lessBy_0 9 rfl) (by rw [c_8]; decide) (by rw [c_8]; decide) (by rw [c_8]; rfl) (by decide) ?_
              refine v_iload_n C 0 (dk dcX11_lessBy_1 7 rfl) rfl rfl ?_
              refine v_bipush C 6 (dk dcX11_lessBy_1 8 rfl) kb_6 ?_
              refine v_icmp_ne C 155 (dk dcX11_lessBy_1 9 rfl) (by decide) (fun c_9 => ?_) (fun c_9 => ?_)
              · replace h := if_f c_9 h
                refine v_iconst C 0 (dk dcX11_lessBy_1 23 rfl) ki_0 ?_
                cases h
                exact v_iret C rfl (dk dcX11_lessBy_1 24 rfl)
              · replace h := if_t c_9 h
                refine v_aload_n C 1 (dk dcX11_lessBy_1 10 rfl) rfl rfl ?_
                refine gt_Mo_number C wd_1110 (dk dcX11_lessBy_1 11 rfl) ?_
                refine v_aload_n C 1 (dk dcX11_lessBy_1 12 rfl) rfl rfl ?_
                refine gt_Mo_is C wd_1112 (dk dcX11_lessBy_1 13 rfl) ?_
                refine v_bipush C 12 (dk dcX11_lessBy_1 14 rfl) kb_12 ?_
                obtain ⟨b_10, h⟩ := gd_t h
                refine ld_m_is C b_10 (dk dcX11_lessBy_1 15 rfl) ?_
                obtain ⟨b_11, h⟩ := gd_t h
                refine ld_m_number C b_11 (dk dcX11_lessBy_1 16 rfl) ?_
                refine v_aload_n C 1 (dk dcX11_lessBy_1 17 rfl) rfl rfl ?_
                refine gt_Mo_is C wd_1112 (dk dcX11_lessBy_1 18 rfl) ?_
                refine v_bipush C 12 (dk dcX11_lessBy_1 19 rfl) kb_12 ?_
                obtain ⟨b_12, h⟩ := gd_t h
                refine ld_m_is C b_12 (dk dcX11_lessBy_1 20 rfl) ?_
                refine v_imul C (dk dcX11_lessBy_1 21 rfl) ?_
                refine v_goto C 156 (dk dcX11_lessBy_1 22 rfl) (by decide) ?_
                cases h
                exact v_iret C rfl (dk dcX11_lessBy_1 24 rfl)
            · replace h := if_f c_8 h
              have ec_3 := i32_ne (k := 0) c_3 (by decide)
              have ec_4 := i32_ne (k := 1) c_4 (by decide)
              have ec_5 := i32_ne (k := 2) c_5 (by decide)
              have ec_6 := i32_ne (k := 3) c_6 (by decide)
              have ec_7 := i32_ne (k := 4) c_7 (by decide)
              have ec_8 := i32_ne (k := 5) c_8 (by decide)
              refine v_tableOut C 157 (dk dcX11_lessBy_0 9 rfl) (by omega) (by decide) ?_
              refine v_aload_n C 1 (dk dcX11_lessBy_1 25 rfl) rfl rfl ?_
              refine gt_Mo_is C wd_1112 (dk dcX11_lessBy_1 26 rfl) ?_
              refine v_bipush C 13 (dk dcX11_lessBy_1 27 rfl) kb_13 ?_
              obtain ⟨b_9, h⟩ := gd_t h
              refine ld_m_is C b_9 (dk dcX11_lessBy_1 28 rfl) ?_
              refine v_iconst C 1 (dk dcX11_lessBy_1 29 rfl) ki_1 ?_
              refine v_icmp_ne C 173 (dk dcX11_lessBy_1 30 rfl) (by decide) (fun c_10 => ?_) (fun c_10 => ?_)
              · replace h := if_f c_10 h
                refine v_iconst C 0 (dk dcX11_lessBy_1 33 rfl) ki_0 ?_
                cases h
                exact v_iret C rfl (dk dcX11_lessBy_1 34 rfl)
              · replace h := if_t c_10 h
                refine v_bipush C 15 (dk dcX11_lessBy_1 31 rfl) kb_15 ?_
                refine v_goto C 174 (dk dcX11_lessBy_1 32 rfl) (by decide) ?_
                cases h
                exact v_iret C rfl (dk dcX11_lessBy_1 34 rfl)
set_option maxRecDepth 20000 in
set_option maxHeartbeats 4000000 in
theorem vX11_driveBy_l65c {L : Nat} (hL : 7 ≤ L) (C : CX p s m args meth c cX11_driveBy 4 RX11 (some .int) E) {l1 : Int32} {K65 : (STt × Int32 × Int32) → Option (STt × Int32)} (hK65 : ∀ {g : STt} {l2 : Int32} {l3 : Int32} (r : STt × Int32), K65 (g, l2, l3) = some r → VJ p l e (rmL (L + 1)) s m args below meth c (QE below E (cellsM E r.1 ++ wx) (some (.int r.2)) args s) E 4 (cellsM E g ++ wx) [(0, .ref (aE E 28 0)), (1, .int l1), (2, .int l2), (3, .int l3)] [] 65) {g : STt} {l2 : Int32} {l3 : Int32} (r : STt × Int32) (h : fX11_driveBy_l65c K65 l1 g l2 l3 = some r) : VJ p l e (rmL (L + 1)) s m args below meth c (QE below E (cellsM E r.1 ++ wx) (some (.int r.2)) args s) E 4 (cellsM E g ++ wx) [(0, .ref (aE E 28 0)), (1, .int l1), (2, .int l2), (3, .int l3)] [] 65 := by
  unfold fX11_driveBy_l65c at h
  refine v_iload_n C 3 (dk dcX11_driveBy_0 43 rfl) rfl rfl ?_
  refine v_bipush C 6 (dk dcX11_driveBy_0 44 rfl) kb_6 ?_
  refine v_icmp_gt C 86 (dk dcX11_driveBy_0 45 rfl) (by decide) (fun c_1 => ?_) (fun c_1 => ?_)
  · replace h := if_t c_1 h
    refine v_iload_n C 2 (dk dcX11_driveBy_1 7 rfl) rfl rfl ?_
    refine v_aload_n C 0 (dk dcX11_driveBy_1 8 rfl) rfl rfl ?_
    refine gt_Mo_wandered C wd_1132 (dk dcX11_driveBy_1 9 rfl) ?_
    refine v_isub C (dk dcX11_driveBy_1 10 rfl) ?_
    cases h
    exact v_iret C rfl (dk dcX11_driveBy_1 11 rfl)
  · replace h := if_f c_1 h
    refine v_iload_n C 2 (dk dcX11_driveBy_0 46 rfl) rfl rfl ?_
    refine v_aload_n C 0 (dk dcX11_driveBy_0 47 rfl) rfl rfl ?_
    refine v_iload_n C 3 (dk dcX11_driveBy_1 0 rfl) rfl rfl ?_
    refine v_iload_n C 1 (dk dcX11_driveBy_1 1 rfl) rfl rfl ?_
    obtain ⟨g_3, r_4, h_2, h⟩ := bnd_s h
    refine v_callV1 C (mtX11_lessBy (L - 1) (by omega) h_2) wmX11_lessBy wd_1399 (by omega) (by decide) rfl _ (ce_Mo) rfl rfl (Nat.le_of_ble_eq_true rfl) (dk dcX11_driveBy_1 2 rfl) ?_
    refine v_isub C (dk dcX11_driveBy_1 3 rfl) ?_
    refine v_istore_n C (lv' := [(2, .int (l2 - r_4)), (0, .ref (aE E 28 0)), (1, .int l1), (3, .int l3)]) (dk dcX11_driveBy_1 4 rfl) rfl (by decide) rfl ?_
    refine v_iinc C (lv' := [(3, .int (l3 + 1)), (2, .int (l2 - r_4)), (0, .ref (aE E 28 0)), (1, .int l1)]) (l3 + 1) 3 (dk dcX11_driveBy_1 5 rfl) rfl (congrArg (fun z => l3 + z) ki_1) (by decide) rfl ?_
    refine v_goto C 65 (dk dcX11_driveBy_1 6 rfl) (by decide) ?_
    exact vj_sub [2, 3, 1, 0] rfl (hK65 _ h)
set_option maxRecDepth 20000 in
set_option maxHeartbeats 4000000 in
theorem vX11_driveBy_l65 {L : Nat} (hL : 7 ≤ L) (C : CX p s m args meth c cX11_driveBy 4 RX11 (some .int) E) {l1 : Int32} {g : STt} {l2 : Int32} {l3 : Int32} (r : STt × Int32) (h : fX11_driveBy_l65 l1 g l2 l3 = some r) : VJ p l e (rmL (L + 1)) s m args below meth c (QE below E (cellsM E r.1 ++ wx) (some (.int r.2)) args s) E 4 (cellsM E g ++ wx) [(0, .ref (aE E 28 0)), (1, .int l1), (2, .int l2), (3, .int l3)] [] 65 :=
  iterO_ind (F := fun K z => fX11_driveBy_l65c K l1 z.1 z.2.1 z.2.2) (fun z r => VJ p l e (rmL (L + 1)) s m args below meth c (QE below E (cellsM E r.1 ++ wx) (some (.int r.2)) args s) E 4 (cellsM E z.1 ++ wx) [(0, .ref (aE E 28 0)), (1, .int l1), (2, .int z.2.1), (3, .int z.2.2)] [] 65) (fun K hK z r h => vX11_driveBy_l65c hL C (fun {g} {l2} {l3} r h => hK (g, l2, l3) r h) r h) fuelN (g, l2, l3) r h
set_option maxRecDepth 20000 in
set_option maxHeartbeats 4000000 in
theorem vX11_driveBy_j63 {L : Nat} (hL : 7 ≤ L) (C : CX p s m args meth c cX11_driveBy 4 RX11 (some .int) E) {g : STt} {l1 : Int32} {l2 : Int32} (r : STt × Int32) (h : fX11_driveBy_j63 g l1 l2 = some r) : VJ p l e (rmL (L + 1)) s m args below meth c (QE below E (cellsM E r.1 ++ wx) (some (.int r.2)) args s) E 4 (cellsM E g ++ wx) [(0, .ref (aE E 28 0)), (1, .int l1), (2, .int l2)] [] 63 := by
  unfold fX11_driveBy_j63 at h
  refine v_iconst C 0 (dk dcX11_driveBy_0 41 rfl) ki_0 ?_
  refine v_istore_n C (lv' := [(3, .int 0), (0, .ref (aE E 28 0)), (1, .int l1), (2, .int l2)]) (dk dcX11_driveBy_0 42 rfl) rfl (by decide) rfl ?_
  exact vj_sub [1, 2, 3, 0] rfl (vX11_driveBy_l65 hL C _ h)
set_option maxRecDepth 20000 in
set_option maxHeartbeats 4000000 in
theorem vX11_driveBy_j55 {L : Nat} (hL : 7 ≤ L) (C : CX p s m args meth c cX11_driveBy 4 RX11 (some .int) E) {g : STt} {l1 : Int32} {l2 : Int32} (r : STt × Int32) (h : fX11_driveBy_j55 g l1 l2 = some r) : VJ p l e (rmL (L + 1)) s m args below meth c (QE below E (cellsM E r.1 ++ wx) (some (.int r.2)) args s) E 4 (cellsM E g ++ wx) [(0, .ref (aE E 28 0)), (1, .int l1), (2, .int l2)] [] 55 := by
  unfold fX11_driveBy_j55 at h
  refine v_iload_n C 1 (dk dcX11_driveBy_0 37 rfl) rfl rfl ?_
  refine v_iconst C 3 (dk dcX11_driveBy_0 38 rfl) ki_3 ?_
  refine v_icmp_ne C 63 (dk dcX11_driveBy_0 39 rfl) (by decide) (fun c_1 => ?_) (fun c_1 => ?_)
  · replace h := if_f c_1 h
    exact vj_sub [0, 1, 2] rfl (vX11_driveBy_j63 hL C _ h)
  · replace h := if_t c_1 h
    refine v_iinc C (lv' := [(2, .int (l2 + (-20))), (0, .ref (aE E 28 0)), (1, .int l1)]) (l2 + (-20)) 2 (dk dcX11_driveBy_0 40 rfl) rfl (congrArg (fun z => l2 + z) ki_m20) (by decide) rfl ?_
    exact vj_sub [1, 2, 0] rfl (vX11_driveBy_j63 hL C _ h)
set_option maxRecDepth 20000 in
set_option maxHeartbeats 4000000 in
theorem vX11_driveBy_j41 {L : Nat} (hL : 7 ≤ L) (C : CX p s m args meth c cX11_driveBy 4 RX11 (some .int) E) {g : STt} {l1 : Int32} {l2 : Int32} (r : STt × Int32) (h : fX11_driveBy_j41 g l1 l2 = some r) : VJ p l e (rmL (L + 1)) s m args below meth c (QE below E (cellsM E r.1 ++ wx) (some (.int r.2)) args s) E 4 (cellsM E g ++ wx) [(0, .ref (aE E 28 0)), (1, .int l1), (2, .int l2)] [] 41 := by
  unfold fX11_driveBy_j41 at h
  refine v_iload_n C 1 (dk dcX11_driveBy_0 28 rfl) rfl rfl ?_
  refine v_bipush C 7 (dk dcX11_driveBy_0 29 rfl) kb_7 ?_
  refine v_icmp_ne C 55 (dk dcX11_driveBy_0 30 rfl) (by decide) (fun c_1 => ?_) (fun c_1 => ?_)
  · replace h := if_f c_1 h
    exact vj_sub [0, 1, 2] rfl (vX11_driveBy_j55 hL C _ h)
  · replace h := if_t c_1 h
    refine v_iload_n C 2 (dk dcX11_driveBy_0 31 rfl) rfl rfl ?_
    refine v_aload_n C 0 (dk dcX11_driveBy_0 32 rfl) rfl rfl ?_
    refine v_iconst C 4 (dk dcX11_driveBy_0 33 rfl) ki_4 ?_
    obtain ⟨r_3, h_2, h⟩ := bnd1_s h
    refine v_callV1 C (mtX11_lastOf (L - 1) (by omega) h_2) wmX11_lastOf wd_1357 (by omega) (by decide) rfl _ (ce_Mo) rfl rfl (Nat.le_of_ble_eq_true rfl) (dk dcX11_driveBy_0 34 rfl) ?_
    refine v_iadd C (dk dcX11_driveBy_0 35 rfl) ?_
    refine v_istore_n C (lv' := [(2, .int (l2 + r_3)), (0, .ref (aE E 28 0)), (1, .int l1)]) (dk dcX11_driveBy_0 36 rfl) rfl (by decide) rfl ?_
    exact vj_sub [1, 2, 0] rfl (vX11_driveBy_j55 hL C _ h)
set_option maxRecDepth 20000 in
set_option maxHeartbeats 4000000 in
theorem vX11_driveBy_j24 {L : Nat} (hL : 7 ≤ L) (C : CX p s m args meth c cX11_driveBy 4 RX11 (some .int) E) {g : STt} {l1 : Int32} {l2 : Int32} (r : STt × Int32) (h : fX11_driveBy_j24 g l1 l2 = some r) : VJ p l e (rmL (L + 1)) s m args below meth c (QE below E (cellsM E r.1 ++ wx) (some (.int r.2)) args s) E 4 (cellsM E g ++ wx) [(0, .ref (aE E 28 0)), (1, .int l1), (2, .int l2)] [] 24 := by
  unfold fX11_driveBy_j24 at h
  refine v_iload_n C 1 (dk dcX11_driveBy_0 16 rfl) rfl rfl ?_
  refine v_iconst C 4 (dk dcX11_driveBy_0 17 rfl) ki_4 ?_
  refine v_icmp_ne C 41 (dk dcX11_driveBy_0 18 rfl) (by decide) (fun c_1 => ?_) (fun c_1 => ?_)
  · replace h := if_f c_1 h
    exact vj_sub [0, 1, 2] rfl (vX11_driveBy_j41 hL C _ h)
  · replace h := if_t c_1 h
    refine v_iload_n C 2 (dk dcX11_driveBy_0 19 rfl) rfl rfl ?_
    refine v_aload_n C 0 (dk dcX11_driveBy_0 20 rfl) rfl rfl ?_
    refine gt_Mo_is C wd_1112 (dk dcX11_driveBy_0 21 rfl) ?_
    refine v_bipush C 7 (dk dcX11_driveBy_0 22 rfl) kb_7 ?_
    obtain ⟨b_2, h⟩ := gd_t h
    refine ld_m_is C b_2 (dk dcX11_driveBy_0 23 rfl) ?_
    refine v_iconst C 2 (dk dcX11_driveBy_0 24 rfl) ki_2 ?_
    refine v_idiv C (dk dcX11_driveBy_0 25 rfl) (by decide) ?_
    refine v_iadd C (dk dcX11_driveBy_0 26 rfl) ?_
    refine v_istore_n C (lv' := [(2, .int (l2 + ((g.2.1 57 0 (7 : Int32).toNatClampNeg) / 2))), (0, .ref (aE E 28 0)), (1, .int l1)]) (dk dcX11_driveBy_0 27 rfl) rfl (by decide) rfl ?_
    exact vj_sub [1, 2, 0] rfl (vX11_driveBy_j41 hL C _ h)
set_option maxRecDepth 20000 in
set_option maxHeartbeats 4000000 in
theorem mtX11_driveBy {l : Launch} {E : WEt} {wx : va_W} (L : Nat) (hL : 7 ≤ L)  {g : STt} {x1 : Int32} {g' : STt} {rr : Int32} (h : fX11_driveBy g x1 = some (g', rr)) : MT l E yX11_driveBy cX11_driveBy 4 (some .int) (L + 1) [.ref (aE E 28 0), .int x1] (cellsM E g ++ wx) (cellsM E g' ++ wx) (some (.int rr)) := by
  refine mt_of (by decide +kernel) (Nat.le_of_ble_eq_true rfl) ?_
  intro p e s m args below meth c C
  replace C : CX p s m args meth c cX11_driveBy 4 RX11 (some .int) E := C
  unfold fX11_driveBy at h
  refine vj_sub (lv' := [(0, .ref (aE E 28 0)), (1, .int x1)]) [0, 1] rfl ?_
  refine v_aload_n C 0 (dk dcX11_driveBy_0 0 rfl) rfl rfl ?_
  refine v_iconst C 0 (dk dcX11_driveBy_0 1 rfl) ki_0 ?_
  obtain ⟨g_2, r_3, h_1, h⟩ := bnd_s h
  refine v_callV1 C (mtX11_sumOf (L - 1) (by omega) h_1) wmX11_sumOf wd_1365 (by omega) (by decide) rfl _ (ce_Mo) rfl rfl (Nat.le_of_ble_eq_true rfl) (dk dcX11_driveBy_0 2 rfl) ?_
  refine v_istore_n C (lv' := [(2, .int r_3), (0, .ref (aE E 28 0)), (1, .int x1)]) (dk dcX11_driveBy_0 3 rfl) rfl (by decide) rfl ?_
  refine v_iload_n C 2 (dk dcX11_driveBy_0 4 rfl) rfl rfl ?_
  refine v_iconst C 1 (dk dcX11_driveBy_0 5 rfl) ki_1 ?_
  refine v_icmp_ne C 24 (dk dcX11_driveBy_0 6 rfl) (by decide) (fun c_4 => ?_) (fun c_4 => ?_)
  · replace h := if_f c_4 h
    exact vj_sub [1, 2, 0] rfl (vX11_driveBy_j24 hL C _ h)
  · replace h := if_t c_4 h
    refine v_iload_n C 0 (dk dcX11_driveBy_0 7 rfl) rfl rfl ?_
    refine v_aload_n C 1 (dk dcX11_driveBy_0 8 rfl) rfl rfl ?_
    refine v_iconst C 3 (dk dcX11_driveBy_0 9 rfl) ki_3 ?_
    obtain ⟨r_6, h_5, h⟩ := bnd1_s h
    refine v_callV1 C (mtX11_lastOf (L - 1) (by omega) h_5) wmX11_lastOf wd_1357 (by omega) (by decide) rfl _ (ce_Mo) rfl rfl (Nat.le_of_ble_eq_true rfl) (dk dcX11_driveBy_0 10 rfl) ?_
    refine v_aload_n C 1 (dk dcX11_driveBy_0 11 rfl) rfl rfl ?_
    refine gt_Mo_moreLead C wd_1131 (dk dcX11_driveBy_0 12 rfl) ?_
    refine v_iadd C (dk dcX11_driveBy_0 13 rfl) ?_
    refine v_iadd C (dk dcX11_driveBy_0 14 rfl) ?_
    refine v_istore_n C (lv' := [(2, .int (r_3 + (r_6 + (g_2.1 40 0)))), (0, .ref (aE E 28 0)), (1, .int x1)]) (dk dcX11_driveBy_0 15 rfl) rfl (by decide) rfl ?_
    exact vj_sub [1, 2, 0] rfl (vX11_driveBy_j24 hL C _ h)
set_option maxRecDepth 20000 in
set_option maxHeartbeats 4000000 in
theorem mtX11_wouldBy {l : Launch} {E : WEt} {wx : va_W} (L : Nat) (hL : 8 ≤ L)  {g : STt} {x1 : Int32} {g' : STt} {rr : Int32} (h : fX11_wouldBy g x1 = some (g', rr)) : MT l E yX11_wouldBy cX11_wouldBy 3 (some .int) (L + 1) [.ref (aE E 28 0), .int x1] (cellsM E g ++ wx) (cellsM E g' ++ wx) (some (.int rr)) := by
  refine mt_of (by decide +kernel) (Nat.le_of_ble_eq_true rfl) ?_
  intro p e s m args below meth c C
  replace C : CX p s m args meth c cX11_wouldBy 3 RX11 (some .int) E := C
  unfold fX11_wouldBy at h
  refine vj_sub (lv' := [(0, .ref (aE E 28 0)), (1, .int x1)]) [0, 1] rfl ?_
  refine v_iload_n C 1 (dk dcX11_wouldBy_0 0 rfl) rfl rfl ?_
  refine v_bipush C 6 (dk dcX11_wouldBy_0 1 rfl) kb_6 ?_
  refine v_icmp_ne C 8 (dk dcX11_wouldBy_0 2 rfl) (by decide) (fun c_1 => ?_) (fun c_1 => ?_)
  · replace h := if_f c_1 h
    refine v_aload_n C 0 (dk dcX11_wouldBy_0 5 rfl) rfl rfl ?_
    refine v_iload_n C 1 (dk dcX11_wouldBy_0 6 rfl) rfl rfl ?_
    obtain ⟨g_3, r_4, h_2, h⟩ := bnd_s h
    refine v_callV1 C (mtX11_driveBy (L - 1) (by omega) h_2) wmX11_driveBy wd_1395 (by omega) (by decide) rfl _ (ce_Mo) rfl rfl (Nat.le_of_ble_eq_true rfl) (dk dcX11_wouldBy_0 7 rfl) ?_
    refine v_istore_n C (lv' := [(2, .int r_4), (0, .ref (aE E 28 0)), (1, .int x1)]) (dk dcX11_wouldBy_0 8 rfl) rfl (by decide) rfl ?_
    refine v_iload_n C 0 (dk dcX11_wouldBy_0 9 rfl) rfl rfl ?_
    refine v_if_le C 22 (dk dcX11_wouldBy_0 10 rfl) (by decide) (fun c_5 => ?_) (fun c_5 => ?_)
    · replace h := if_t c_5 h
      refine v_iload_n C 0 (dk dcX11_wouldBy_0 13 rfl) rfl rfl ?_
      refine v_bipush C (-15) (dk dcX11_wouldBy_0 14 rfl) kb_m15 ?_
      refine v_icmp_le C 32 (dk dcX11_wouldBy_0 15 rfl) (by decide) (fun c_6 => ?_) (fun c_6 => ?_)
      · replace h := if_t c_6 h
        refine v_iload_n C 0 (dk dcX11_wouldBy_0 18 rfl) rfl rfl ?_
        refine v_bipush C (-40) (dk dcX11_wouldBy_0 19 rfl) kb_m40 ?_
        refine v_icmp_le C 42 (dk dcX11_wouldBy_0 20 rfl) (by decide) (fun c_7 => ?_) (fun c_7 => ?_)
        · replace h := if_t c_7 h
          refine v_iconst C 3 (dk dcX11_wouldBy_0 23 rfl) ki_3 ?_
          cases h
          exact v_iret C rfl (dk dcX11_wouldBy_0 24 rfl)
        · replace h := if_f c_7 h
          refine v_iconst C 2 (dk dcX11_wouldBy_0 21 rfl) ki_2 ?_
          refine v_goto C 43 (dk dcX11_wouldBy_0 22 rfl) (by decide) ?_
          cases h
          exact v_iret C rfl (dk dcX11_wouldBy_0 24 rfl)
      · replace h := if_f c_6 h
        refine v_iconst C 0 (dk dcX11_wouldBy_0 16 rfl) ki_0 ?_
        refine v_goto C 43 (dk dcX11_wouldBy_0 17 rfl) (by decide) ?_
        cases h
        exact v_iret C rfl (dk dcX11_wouldBy_0 24 rfl)
    · replace h := if_f c_5 h
      refine v_iconst C 1 (dk dcX11_wouldBy_0 11 rfl) ki_1 ?_
      refine v_goto C 43 (dk dcX11_wouldBy_0 12 rfl) (by decide) ?_
      cases h
      exact v_iret C rfl (dk dcX11_wouldBy_0 24 rfl)
  · replace h := if_t c_1 h
    refine v_iconst C 1 (dk dcX11_wouldBy_0 3 rfl) ki_1 ?_
    cases h
    exact v_iret C rfl (dk dcX11_wouldBy_0 4 rfl)
set_option maxRecDepth 20000 in
set_option maxHeartbeats 4000000 in
theorem mtX11_would {l : Launch} {E : WEt} {wx : va_W} (L : Nat) (hL : 9 ≤ L)  {g : STt} {x1 : Int32} {g' : STt} {rr : Int32} (h : fX11_would g x1 = some (g', rr)) : MT l E yX11_would cX11_would 2 (some .int) (L + 1) [.ref (aE E 28 0), .int x1] (cellsM E g ++ wx) (cellsM E g' ++ wx) (some (.int rr)) := by
  refine mt_of (by decide +kernel) (Nat.le_of_ble_eq_true rfl) ?_
  intro p e s m args below meth c C
  replace C : CX p s m args meth c cX11_would 2 RX11 (some .int) E := C
  unfold fX11_would at h
  refine vj_sub (lv' := [(0, .ref (aE E 28 0)), (1, .int x1)]) [0, 1] rfl ?_
  refine v_iload_n C 1 (dk dcX11_would_0 0 rfl) rfl rfl ?_
  obtain ⟨r_2, h_1, h⟩ := bnd1_s h
  refine v_callS1 C (mtX11_isAct (L - 1) (by omega) h_1) wmX11_isAct wd_1390 (by omega) (by decide) rfl rfl (Nat.le_of_ble_eq_true rfl) (dk dcX11_would_0 1 rfl) ?_
  refine v_if_ne C 11 (dk dcX11_would_0 2 rfl) (by decide) (fun c_3 => ?_) (fun c_3 => ?_)
  · replace h := if_f c_3 h
    refine v_aload_n C 0 (dk dcX11_would_0 5 rfl) rfl rfl ?_
    obtain ⟨r_5, h_4, h⟩ := bnd1_s h
    refine v_callV1 C (mtX11_isOver (L - 1) (by omega) h_4) wmX11_isOver wd_1361 (by omega) (by decide) rfl _ (ce_Mo) rfl rfl (Nat.le_of_ble_eq_true rfl) (dk dcX11_would_0 6 rfl) ?_
    refine v_if_eq C 23 (dk dcX11_would_0 7 rfl) (by decide) (fun c_6 => ?_) (fun c_6 => ?_)
    · replace h := if_t c_6 h
      refine v_aload_n C 0 (dk dcX11_would_0 10 rfl) rfl rfl ?_
      refine v_iload_n C 1 (dk dcX11_would_0 11 rfl) rfl rfl ?_
      obtain ⟨g_8, r_9, h_7, h⟩ := bnd_s h
      refine v_callV1 C (mtX11_wouldBy (L - 1) (by omega) h_7) wmX11_wouldBy wd_1411 (by omega) (by decide) rfl _ (ce_Mo) rfl rfl (Nat.le_of_ble_eq_true rfl) (dk dcX11_would_0 12 rfl) ?_
      cases h
      exact v_iret C rfl (dk dcX11_would_0 13 rfl)
    · replace h := if_f c_6 h
      refine v_bipush C (-5) (dk dcX11_would_0 8 rfl) kb_m5 ?_
      refine v_goto C 28 (dk dcX11_would_0 9 rfl) (by decide) ?_
      cases h
      exact v_iret C rfl (dk dcX11_would_0 13 rfl)
  · replace h := if_t c_3 h
    refine v_iconst C (-1) (dk dcX11_would_0 3 rfl) ki_m1 ?_
    refine v_goto C 28 (dk dcX11_would_0 4 rfl) (by decide) ?_
    cases h
    exact v_iret C rfl (dk dcX11_would_0 13 rfl)
set_option maxRecDepth 20000 in
set_option maxHeartbeats 4000000 in
theorem vX11_why_j46 {L : Nat} (hL : 9 ≤ L) (C : CX p s m args meth c cX11_why 3 RX11 (some .int) E) {g : STt} {l1 : Int32} {l2 : Int32} {K23 : (STt × Int32 × Int32) → Option (STt × Int32)} (hK23 : ∀ {g : STt} {l1 : Int32} {l2 : Int32} (r : STt × Int32), K23 (g, l1, l2) = some r → VJ p l e (rmL (L + 1)) s m args below meth c (QE below E (cellsM E r.1 ++ wx) (some (.int r.2)) args s) E 3 (cellsM E g ++ wx) [(0, .ref (aE E 28 0)), (1, .int l1), (2, .int l2)] [] 23) (r : STt × Int32) (h : fX11_why_j46 K23 g l1 l2 = some r) : VJ p l e (rmL (L + 1)) s m args below meth c (QE below E (cellsM E r.1 ++ wx) (some (.int r.2)) args s) E 3 (cellsM E g ++ wx) [(0, .ref (aE E 28 0)), (1, .int l1), (2, .int l2)] [] 46 := by
  unfold fX11_why_j46 at h
  refine v_iinc C (lv' := [(2, .int (l2 + 1)), (0, .ref (aE E 28 0)), (1, .int l1)]) (l2 + 1) 2 (dk dcX11_why_0 28 rfl) rfl (congrArg (fun z => l2 + z) ki_1) (by decide) rfl ?_
  refine v_goto C 23 (dk dcX11_why_0 29 rfl) (by decide) ?_
  exact vj_sub [1, 2, 0] rfl (hK23 _ h)
set_option maxRecDepth 20000 in
set_option maxHeartbeats 4000000 in
theorem vX11_why_l23c {L : Nat} (hL : 9 ≤ L) (C : CX p s m args meth c cX11_why 3 RX11 (some .int) E) {K23 : (STt × Int32 × Int32) → Option (STt × Int32)} (hK23 : ∀ {g : STt} {l1 : Int32} {l2 : Int32} (r : STt × Int32), K23 (g, l1, l2) = some r → VJ p l e (rmL (L + 1)) s m args below meth c (QE below E (cellsM E r.1 ++ wx) (some (.int r.2)) args s) E 3 (cellsM E g ++ wx) [(0, .ref (aE E 28 0)), (1, .int l1), (2, .int l2)] [] 23) {g : STt} {l1 : Int32} {l2 : Int32} (r : STt × Int32) (h : fX11_why_l23c K23 g l1 l2 = some r) : VJ p l e (rmL (L + 1)) s m args below meth c (QE below E (cellsM E r.1 ++ wx) (some (.int r.2)) args s) E 3 (cellsM E g ++ wx) [(0, .ref (aE E 28 0)), (1, .int l1), (2, .int l2)] [] 23 := by
  unfold fX11_why_l23c at h
  refine v_iload_n C 2 (dk dcX11_why_0 14 rfl) rfl rfl ?_
  refine v_bipush C 6 (dk dcX11_why_0 15 rfl) kb_6 ?_
  refine v_icmp_gt C 52 (dk dcX11_why_0 16 rfl) (by decide) (fun c_1 => ?_) (fun c_1 => ?_)
  · replace h := if_t c_1 h
    refine v_iload_n C 1 (dk dcX11_why_0 30 rfl) rfl rfl ?_
    cases h
    exact v_iret C rfl (dk dcX11_why_0 31 rfl)
  · replace h := if_f c_1 h
    refine v_aload_n C 0 (dk dcX11_why_0 17 rfl) rfl rfl ?_
    refine v_iload_n C 2 (dk dcX11_why_0 18 rfl) rfl rfl ?_
    refine v_iconst C 0 (dk dcX11_why_0 19 rfl) ki_0 ?_
    obtain ⟨g_3, r_4, h_2, h⟩ := bnd_s h
    refine v_callV1 C (mtX11_lessBy (L - 1) (by omega) h_2) wmX11_lessBy wd_1399 (by omega) (by decide) rfl _ (ce_Mo) rfl rfl (Nat.le_of_ble_eq_true rfl) (dk dcX11_why_0 20 rfl) ?_
    refine v_aload_n C 0 (dk dcX11_why_0 21 rfl) rfl rfl ?_
    refine v_iload_n C 1 (dk dcX11_why_0 22 rfl) rfl rfl ?_
    refine v_iconst C 0 (dk dcX11_why_0 23 rfl) ki_0 ?_
    obtain ⟨g_6, r_7, h_5, h⟩ := bnd_s h
    refine v_callV1 C (mtX11_lessBy (L - 1) (by omega) h_5) wmX11_lessBy wd_1399 (by omega) (by decide) rfl _ (ce_Mo) rfl rfl (Nat.le_of_ble_eq_true rfl) (dk dcX11_why_0 24 rfl) ?_
    refine v_icmp_le C 46 (dk dcX11_why_0 25 rfl) (by decide) (fun c_8 => ?_) (fun c_8 => ?_)
    · replace h := if_t c_8 h
      exact vj_sub [0, 1, 2] rfl (vX11_why_j46 hL C hK23 _ h)
    · replace h := if_f c_8 h
      refine v_iload_n C 2 (dk dcX11_why_0 26 rfl) rfl rfl ?_
      refine v_istore_n C (lv' := [(1, .int l2), (0, .ref (aE E 28 0)), (2, .int l2)]) (dk dcX11_why_0 27 rfl) rfl (by decide) rfl ?_
      exact vj_sub [1, 0, 2] rfl (vX11_why_j46 hL C hK23 _ h)
set_option maxRecDepth 20000 in
set_option maxHeartbeats 4000000 in
theorem vX11_why_l23 {L : Nat} (hL : 9 ≤ L) (C : CX p s m args meth c cX11_why 3 RX11 (some .int) E) {g : STt} {l1 : Int32} {l2 : Int32} (r : STt × Int32) (h : fX11_why_l23 g l1 l2 = some r) : VJ p l e (rmL (L + 1)) s m args below meth c (QE below E (cellsM E r.1 ++ wx) (some (.int r.2)) args s) E 3 (cellsM E g ++ wx) [(0, .ref (aE E 28 0)), (1, .int l1), (2, .int l2)] [] 23 :=
  iterO_ind (F := fun K z => fX11_why_l23c K z.1 z.2.1 z.2.2) (fun z r => VJ p l e (rmL (L + 1)) s m args below meth c (QE below E (cellsM E r.1 ++ wx) (some (.int r.2)) args s) E 3 (cellsM E z.1 ++ wx) [(0, .ref (aE E 28 0)), (1, .int z.2.1), (2, .int z.2.2)] [] 23) (fun K hK z r h => vX11_why_l23c hL C (fun {g} {l1} {l2} r h => hK (g, l1, l2) r h) r h) fuelN (g, l1, l2) r h
set_option maxRecDepth 20000 in
set_option maxHeartbeats 4000000 in
theorem mtX11_why {l : Launch} {E : WEt} {wx : va_W} (L : Nat) (hL : 9 ≤ L)  {g : STt} {g' : STt} {rr : Int32} (h : fX11_why g = some (g', rr)) : MT l E yX11_why cX11_why 3 (some .int) (L + 1) [.ref (aE E 28 0)] (cellsM E g ++ wx) (cellsM E g' ++ wx) (some (.int rr)) := by
  refine mt_of (by decide +kernel) (Nat.le_of_ble_eq_true rfl) ?_
  intro p e s m args below meth c C
  replace C : CX p s m args meth c cX11_why 3 RX11 (some .int) E := C
  unfold fX11_why at h
  refine vj_sub (lv' := [(0, .ref (aE E 28 0))]) [0] rfl ?_
  refine v_aload_n C 0 (dk dcX11_why_0 0 rfl) rfl rfl ?_
  obtain ⟨r_2, h_1, h⟩ := bnd1_s h
  refine v_callV1 C (mtX11_isOver (L - 1) (by omega) h_1) wmX11_isOver wd_1361 (by omega) (by decide) rfl _ (ce_Mo) rfl rfl (Nat.le_of_ble_eq_true rfl) (dk dcX11_why_0 1 rfl) ?_
  refine v_if_ne C 16 (dk dcX11_why_0 2 rfl) (by decide) (fun c_3 => ?_) (fun c_3 => ?_)
  · replace h := if_f c_3 h
    refine v_bipush C (-5) (dk dcX11_why_0 8 rfl) kb_m5 ?_
    cases h
    exact v_iret C rfl (dk dcX11_why_0 9 rfl)
  · replace h := if_t c_3 h
    refine v_aload_n C 0 (dk dcX11_why_0 3 rfl) rfl rfl ?_
    refine v_iconst C 0 (dk dcX11_why_0 4 rfl) ki_0 ?_
    obtain ⟨g_5, r_6, h_4, h⟩ := bnd_s h
    refine v_callV1 C (mtX11_wouldBy (L - 1) (by omega) h_4) wmX11_wouldBy wd_1411 (by omega) (by decide) rfl _ (ce_Mo) rfl rfl (Nat.le_of_ble_eq_true rfl) (dk dcX11_why_0 5 rfl) ?_
    refine v_iconst C 1 (dk dcX11_why_0 6 rfl) ki_1 ?_
    refine v_icmp_ne C 19 (dk dcX11_why_0 7 rfl) (by decide) (fun c_7 => ?_) (fun c_7 => ?_)
    · replace h := if_f c_7 h
      refine v_iconst C 0 (dk dcX11_why_0 10 rfl) ki_0 ?_
      refine v_istore_n C (lv' := [(1, .int 0), (0, .ref (aE E 28 0))]) (dk dcX11_why_0 11 rfl) rfl (by decide) rfl ?_
      refine v_iconst C 1 (dk dcX11_why_0 12 rfl) ki_1 ?_
      refine v_istore_n C (lv' := [(2, .int 1), (1, .int 0), (0, .ref (aE E 28 0))]) (dk dcX11_why_0 13 rfl) rfl (by decide) rfl ?_
      exact vj_sub [2, 1, 0] rfl (vX11_why_l23 hL C _ h)
    · replace h := if_t c_7 h
      refine v_bipush C (-5) (dk dcX11_why_0 8 rfl) kb_m5 ?_
      cases h
      exact v_iret C rfl (dk dcX11_why_0 9 rfl)
set_option maxRecDepth 20000 in
set_option maxHeartbeats 4000000 in
theorem mtX11_wander {l : Launch} {E : WEt} {wx : va_W} (L : Nat) (hL : 3 ≤ L)  {g : STt} {x1 : Int32} {g' : STt} {rr : Int32} (h : fX11_wander g x1 = some (g', rr)) : MT l E yX11_wander cX11_wander 3 (some .int) (L + 1) [.ref (aE E 28 0), .int x1] (cellsM E g ++ wx) (cellsM E g' ++ wx) (some (.int rr)) := by
  refine mt_of (by decide +kernel) (Nat.le_of_ble_eq_true rfl) ?_
  intro p e s m args below meth c C
  replace C : CX p s m args meth c cX11_wander 3 RX11 (some .int) E := C
  unfold fX11_wander at h
  refine vj_sub (lv' := [(0, .ref (aE E 28 0)), (1, .int x1)]) [0, 1] rfl ?_
  refine v_iload_n C 1 (dk dcX11_wander_0 0 rfl) rfl rfl ?_
  refine v_iconst C 0 (dk dcX11_wander_0 1 rfl) ki_0 ?_
  refine v_bipush C 10 (dk dcX11_wander_0 2 rfl) kb_10 ?_
  obtain ⟨r_2, h_1, h⟩ := bnd1_s h
  refine v_callS1 C (mtX11_in (L - 1) (by omega) h_1) wmX11_in wd_1266 (by omega) (by decide) rfl rfl (Nat.le_of_ble_eq_true rfl) (dk dcX11_wander_0 3 rfl) ?_
  refine v_if_ne C 13 (dk dcX11_wander_0 4 rfl) (by decide) (fun c_3 => ?_) (fun c_3 => ?_)
  · replace h := if_f c_3 h
    refine v_aload_n C 0 (dk dcX11_wander_0 7 rfl) rfl rfl ?_
    refine gt_Mo_odds C wd_1137 (dk dcX11_wander_0 8 rfl) ?_
    refine v_istore_n C (lv' := [(2, .int (g.1 44 0)), (0, .ref (aE E 28 0)), (1, .int x1)]) (dk dcX11_wander_0 9 rfl) rfl (by decide) rfl ?_
    refine v_aload_n C 1 (dk dcX11_wander_0 10 rfl) rfl rfl ?_
    refine v_iload_n C 2 (dk dcX11_wander_0 11 rfl) rfl rfl ?_
    refine pt_Mo_odds C wd_1137 (dk dcX11_wander_0 12 rfl) ?_
    refine v_iload_n C 0 (dk dcX11_wander_0 13 rfl) rfl rfl ?_
    cases h
    exact v_iret C rfl (dk dcX11_wander_0 14 rfl)
  · replace h := if_t c_3 h
    refine v_bipush C (-2) (dk dcX11_wander_0 5 rfl) kb_m2 ?_
    cases h
    exact v_iret C rfl (dk dcX11_wander_0 6 rfl)
set_option maxRecDepth 20000 in
set_option maxHeartbeats 4000000 in
theorem mtX11_mostOf {l : Launch} {E : WEt} {wx : va_W} (L : Nat) (hL : 2 ≤ L)  {g : STt} {x1 : Int32} {rr : Int32} (h : fX11_mostOf g x1 = some rr) : MT l E yX11_mostOf cX11_mostOf 2 (some .int) (L + 1) [.ref (aE E 28 0), .int x1] (cellsM E g ++ wx) (cellsM E g ++ wx) (some (.int rr)) := by
  refine mt_of (by decide +kernel) (Nat.le_of_ble_eq_true rfl) ?_
  intro p e s m args below meth c C
  replace C : CX p s m args meth c cX11_mostOf 2 RX11 (some .int) E := C
  unfold fX11_mostOf at h
  refine vj_sub (lv' := [(0, .ref (aE E 28 0)), (1, .int x1)]) [0, 1] rfl ?_
  refine v_iload_n C 1 (dk dcX11_mostOf_0 0 rfl) rfl rfl ?_
  refine v_bipush C 9 (dk dcX11_mostOf_0 1 rfl) kb_9 ?_
  refine v_icmp_ne C 11 (dk dcX11_mostOf_0 2 rfl) (by decide) (fun c_1 => ?_) (fun c_1 => ?_)
  · replace h := if_f c_1 h
    refine v_iload_n C 1 (dk dcX11_mostOf_0 5 rfl) rfl rfl ?_
    refine v_bipush C 12 (dk dcX11_mostOf_0 6 rfl) kb_12 ?_
    refine v_icmp_ne C 24 (dk dcX11_mostOf_0 7 rfl) (by decide) (fun c_2 => ?_) (fun c_2 => ?_)
    · replace h := if_f c_2 h
      refine v_iload_n C 1 (dk dcX11_mostOf_0 11 rfl) rfl rfl ?_
      refine v_bipush C 13 (dk dcX11_mostOf_0 12 rfl) kb_13 ?_
      refine v_icmp_ne C 34 (dk dcX11_mostOf_0 13 rfl) (by decide) (fun c_3 => ?_) (fun c_3 => ?_)
      · replace h := if_f c_3 h
        refine v_bipush C 99 (dk dcX11_mostOf_0 16 rfl) kb_99 ?_
        cases h
        exact v_iret C rfl (dk dcX11_mostOf_0 17 rfl)
      · replace h := if_t c_3 h
        refine v_iconst C 1 (dk dcX11_mostOf_0 14 rfl) ki_1 ?_
        refine v_goto C 36 (dk dcX11_mostOf_0 15 rfl) (by decide) ?_
        cases h
        exact v_iret C rfl (dk dcX11_mostOf_0 17 rfl)
    · replace h := if_t c_2 h
      refine v_aload_n C 0 (dk dcX11_mostOf_0 8 rfl) rfl rfl ?_
      refine gt_Mo_places C wd_1108 (dk dcX11_mostOf_0 9 rfl) ?_
      refine v_goto C 36 (dk dcX11_mostOf_0 10 rfl) (by decide) ?_
      cases h
      exact v_iret C rfl (dk dcX11_mostOf_0 17 rfl)
  · replace h := if_t c_1 h
    refine v_bipush C 9 (dk dcX11_mostOf_0 3 rfl) kb_9 ?_
    refine v_goto C 36 (dk dcX11_mostOf_0 4 rfl) (by decide) ?_
    cases h
    exact v_iret C rfl (dk dcX11_mostOf_0 17 rfl)
set_option maxRecDepth 20000 in
set_option maxHeartbeats 4000000 in
theorem mtX11_more {l : Launch} {E : WEt} {wx : va_W} (L : Nat) (hL : 3 ≤ L)  {g : STt} {x1 : Int32} {x2 : Int32} {g' : STt} (h : fX11_more g x1 x2 = some g') : MT l E yX11_more cX11_more 3 none (L + 1) [.ref (aE E 28 0), .int x1, .int x2] (cellsM E g ++ wx) (cellsM E g' ++ wx) none := by
  refine mt_of (by decide +kernel) (Nat.le_of_ble_eq_true rfl) ?_
  intro p e s m args below meth c C
  replace C : CX p s m args meth c cX11_more 3 RX11 none E := C
  unfold fX11_more at h
  refine vj_sub (lv' := [(0, .ref (aE E 28 0)), (1, .int x1), (2, .int x2)]) [0, 1, 2] rfl ?_
  refine v_aload_n C 0 (dk dcX11_more_0 0 rfl) rfl rfl ?_
  refine gt_Mo_is C wd_1112 (dk dcX11_more_0 1 rfl) ?_
  refine v_iload_n C 1 (dk dcX11_more_0 2 rfl) rfl rfl ?_
  refine v_aload_n C 0 (dk dcX11_more_0 3 rfl) rfl rfl ?_
  refine gt_Mo_is C wd_1112 (dk dcX11_more_0 4 rfl) ?_
  refine v_iload_n C 1 (dk dcX11_more_0 5 rfl) rfl rfl ?_
  obtain ⟨b_1, h⟩ := gd_t h
  refine ld_m_is C b_1 (dk dcX11_more_0 6 rfl) ?_
  refine v_iload_n C 2 (dk dcX11_more_0 7 rfl) rfl rfl ?_
  refine v_iadd C (dk dcX11_more_0 8 rfl) ?_
  refine v_aload_n C 0 (dk dcX11_more_0 9 rfl) rfl rfl ?_
  refine v_iload_n C 1 (dk dcX11_more_0 10 rfl) rfl rfl ?_
  obtain ⟨r_3, h_2, h⟩ := bnd1_s h
  refine v_callV1 C (mtX11_mostOf (L - 1) (by omega) h_2) wmX11_mostOf wd_1281 (by omega) (by decide) rfl _ (ce_Mo) rfl rfl (Nat.le_of_ble_eq_true rfl) (dk dcX11_more_0 11 rfl) ?_
  obtain ⟨r_5, h_4, h⟩ := bnd1_s h
  refine v_callS1 C (mtX11_held (L - 1) (by omega) h_4) wmX11_held wd_1380 (by omega) (by decide) rfl rfl (Nat.le_of_ble_eq_true rfl) (dk dcX11_more_0 12 rfl) ?_
  obtain ⟨b_6, h⟩ := gd_t h
  refine st_m_is C b_6 (dk dcX11_more_0 13 rfl) ?_
  cases h
  exact v_vret C rfl (dk dcX11_more_0 14 rfl)
set_option maxRecDepth 20000 in
set_option maxHeartbeats 4000000 in
theorem vX11_driven_j73 {L : Nat} (hL : 4 ≤ L) (C : CX p s m args meth c cX11_driven 4 RX11 none E) {g : STt} {l1 : Int32} {l2 : Int32} (r : STt) (h : fX11_driven_j73 g l1 l2 = some r) : VJ p l e (rmL (L + 1)) s m args below meth c (QE below E (cellsM E r ++ wx) (none) args s) E 4 (cellsM E g ++ wx) [(0, .ref (aE E 28 0)), (1, .int l1), (2, .int l2)] [] 73 := by
  unfold fX11_driven_j73 at h
  refine v_iload_n C 1 (dk dcX11_driven_0 39 rfl) rfl rfl ?_
  refine v_iconst C 1 (dk dcX11_driven_0 40 rfl) ki_1 ?_
  refine v_icmp_ne C 89 (dk dcX11_driven_0 41 rfl) (by decide) (fun c_1 => ?_) (fun c_1 => ?_)
  · replace h := if_f c_1 h
    cases h
    exact v_vret C rfl (dk dcX11_driven_1 0 rfl)
  · replace h := if_t c_1 h
    refine v_iload_n C 2 (dk dcX11_driven_0 42 rfl) rfl rfl ?_
    refine v_if_ne C 89 (dk dcX11_driven_0 43 rfl) (by decide) (fun c_2 => ?_) (fun c_2 => ?_)
    · replace h := if_f c_2 h
      cases h
      exact v_vret C rfl (dk dcX11_driven_1 0 rfl)
    · replace h := if_t c_2 h
      refine v_aload_n C 0 (dk dcX11_driven_0 44 rfl) rfl rfl ?_
      refine v_bipush C 6 (dk dcX11_driven_0 45 rfl) kb_6 ?_
      refine v_iconst C (-1) (dk dcX11_driven_0 46 rfl) ki_m1 ?_
      obtain ⟨g_4, h_3, h⟩ := bnd1_s h
      refine v_callV0 C (mtX11_more (L - 1) (by omega) h_3) wmX11_more wd_1427 (by omega) (by decide) rfl _ (ce_Mo) rfl rfl (Nat.le_of_ble_eq_true rfl) (dk dcX11_driven_0 47 rfl) ?_
      cases h
      exact v_vret C rfl (dk dcX11_driven_1 0 rfl)
set_option maxRecDepth 20000 in
set_option maxHeartbeats 4000000 in
theorem vX11_driven_j49 {L : Nat} (hL : 4 ≤ L) (C : CX p s m args meth c cX11_driven 4 RX11 none E) {g : STt} {l1 : Int32} {l2 : Int32} {l3 : Int32} (r : STt) (h : fX11_driven_j49 g l1 l2 l3 = some r) : VJ p l e (rmL (L + 1)) s m args below meth c (QE below E (cellsM E r ++ wx) (none) args s) E 4 (cellsM E g ++ wx) [(0, .ref (aE E 28 0)), (1, .int l1), (2, .int l2), (3, .int l3)] [] 49 := by
  unfold fX11_driven_j49 at h
  refine v_iload_n C 1 (dk dcX11_driven_0 26 rfl) rfl rfl ?_
  refine v_bipush C 7 (dk dcX11_driven_0 27 rfl) kb_7 ?_
  refine v_icmp_ne C 73 (dk dcX11_driven_0 28 rfl) (by decide) (fun c_1 => ?_) (fun c_1 => ?_)
  · replace h := if_f c_1 h
    exact vj_sub [0, 1, 2] rfl (vX11_driven_j73 hL C _ h)
  · replace h := if_t c_1 h
    refine v_iload_n C 2 (dk dcX11_driven_0 29 rfl) rfl rfl ?_
    refine v_if_ne C 73 (dk dcX11_driven_0 30 rfl) (by decide) (fun c_2 => ?_) (fun c_2 => ?_)
    · replace h := if_f c_2 h
      exact vj_sub [0, 1, 2] rfl (vX11_driven_j73 hL C _ h)
    · replace h := if_t c_2 h
      refine v_aload_n C 0 (dk dcX11_driven_0 31 rfl) rfl rfl ?_
      refine v_iload_n C 3 (dk dcX11_driven_0 32 rfl) rfl rfl ?_
      refine v_iconst C 3 (dk dcX11_driven_0 33 rfl) ki_3 ?_
      obtain ⟨g_4, h_3, h⟩ := bnd1_s h
      refine v_callV0 C (mtX11_more (L - 1) (by omega) h_3) wmX11_more wd_1427 (by omega) (by decide) rfl _ (ce_Mo) rfl rfl (Nat.le_of_ble_eq_true rfl) (dk dcX11_driven_0 34 rfl) ?_
      refine v_aload_n C 0 (dk dcX11_driven_0 35 rfl) rfl rfl ?_
      refine v_bipush C 6 (dk dcX11_driven_0 36 rfl) kb_6 ?_
      refine v_bipush C (-2) (dk dcX11_driven_0 37 rfl) kb_m2 ?_
      obtain ⟨g_6, h_5, h⟩ := bnd1_s h
      refine v_callV0 C (mtX11_more (L - 1) (by omega) h_5) wmX11_more wd_1427 (by omega) (by decide) rfl _ (ce_Mo) rfl rfl (Nat.le_of_ble_eq_true rfl) (dk dcX11_driven_0 38 rfl) ?_
      exact vj_sub [0, 1, 2] rfl (vX11_driven_j73 hL C _ h)
set_option maxRecDepth 20000 in
set_option maxHeartbeats 4000000 in
theorem vX11_driven_j28 {L : Nat} (hL : 4 ≤ L) (C : CX p s m args meth c cX11_driven 4 RX11 none E) {g : STt} {l1 : Int32} {l2 : Int32} {l3 : Int32} (r : STt) (h : fX11_driven_j28 g l1 l2 l3 = some r) : VJ p l e (rmL (L + 1)) s m args below meth c (QE below E (cellsM E r ++ wx) (none) args s) E 4 (cellsM E g ++ wx) [(0, .ref (aE E 28 0)), (1, .int l1), (2, .int l2), (3, .int l3)] [] 28 := by
  unfold fX11_driven_j28 at h
  refine v_iload_n C 1 (dk dcX11_driven_0 15 rfl) rfl rfl ?_
  refine v_iconst C 5 (dk dcX11_driven_0 16 rfl) ki_5 ?_
  refine v_icmp_ne C 49 (dk dcX11_driven_0 17 rfl) (by decide) (fun c_1 => ?_) (fun c_1 => ?_)
  · replace h := if_f c_1 h
    exact vj_sub [0, 1, 2, 3] rfl (vX11_driven_j49 hL C _ h)
  · replace h := if_t c_1 h
    refine v_aload_n C 0 (dk dcX11_driven_0 18 rfl) rfl rfl ?_
    refine v_bipush C 10 (dk dcX11_driven_0 19 rfl) kb_10 ?_
    refine v_bipush C (-5) (dk dcX11_driven_0 20 rfl) kb_m5 ?_
    obtain ⟨g_3, h_2, h⟩ := bnd1_s h
    refine v_callV0 C (mtX11_more (L - 1) (by omega) h_2) wmX11_more wd_1427 (by omega) (by decide) rfl _ (ce_Mo) rfl rfl (Nat.le_of_ble_eq_true rfl) (dk dcX11_driven_0 21 rfl) ?_
    refine v_aload_n C 0 (dk dcX11_driven_0 22 rfl) rfl rfl ?_
    refine v_bipush C 11 (dk dcX11_driven_0 23 rfl) kb_11 ?_
    refine v_bipush C (-5) (dk dcX11_driven_0 24 rfl) kb_m5 ?_
    obtain ⟨g_5, h_4, h⟩ := bnd1_s h
    refine v_callV0 C (mtX11_more (L - 1) (by omega) h_4) wmX11_more wd_1427 (by omega) (by decide) rfl _ (ce_Mo) rfl rfl (Nat.le_of_ble_eq_true rfl) (dk dcX11_driven_0 25 rfl) ?_
    exact vj_sub [0, 1, 2, 3] rfl (vX11_driven_j49 hL C _ h)
set_option maxRecDepth 20000 in
set_option maxHeartbeats 4000000 in
theorem vX11_driven_j17 {L : Nat} (hL : 4 ≤ L) (C : CX p s m args meth c cX11_driven 4 RX11 none E) {g : STt} {l1 : Int32} {l2 : Int32} {l3 : Int32} {s0 : Int32} {s1 : Int32} (r : STt) (h : fX11_driven_j17 g l1 l2 l3 s0 s1 = some r) : VJ p l e (rmL (L + 1)) s m args below meth c (QE below E (cellsM E r ++ wx) (none) args s) E 4 (cellsM E g ++ wx) [(0, .ref (aE E 28 0)), (1, .int l1), (2, .int l2), (3, .int l3)] [.int s0, .int s1, .ref (aE E 28 0)] 17 := by
  unfold fX11_driven_j17 at h
  obtain ⟨g_2, h_1, h⟩ := bnd1_s h
  refine v_callV0 C (mtX11_more (L - 1) (by omega) h_1) wmX11_more wd_1427 (by omega) (by decide) rfl _ (ce_Mo) rfl rfl (Nat.le_of_ble_eq_true rfl) (dk dcX11_driven_0 10 rfl) ?_
  refine v_aload_n C 0 (dk dcX11_driven_0 11 rfl) rfl rfl ?_
  refine v_bipush C 7 (dk dcX11_driven_0 12 rfl) kb_7 ?_
  refine v_bipush C (-3) (dk dcX11_driven_0 13 rfl) kb_m3 ?_
  obtain ⟨g_4, h_3, h⟩ := bnd1_s h
  refine v_callV0 C (mtX11_more (L - 1) (by omega) h_3) wmX11_more wd_1427 (by omega) (by decide) rfl _ (ce_Mo) rfl rfl (Nat.le_of_ble_eq_true rfl) (dk dcX11_driven_0 14 rfl) ?_
  exact vj_sub [0, 1, 2, 3] rfl (vX11_driven_j28 hL C _ h)
set_option maxRecDepth 20000 in
set_option maxHeartbeats 4000000 in
theorem mtX11_driven {l : Launch} {E : WEt} {wx : va_W} (L : Nat) (hL : 4 ≤ L)  {g : STt} {x1 : Int32} {x2 : Int32} {x3 : Int32} {g' : STt} (h : fX11_driven g x1 x2 x3 = some g') : MT l E yX11_driven cX11_driven 4 none (L + 1) [.ref (aE E 28 0), .int x1, .int x2, .int x3] (cellsM E g ++ wx) (cellsM E g' ++ wx) none := by
  refine mt_of (by decide +kernel) (Nat.le_of_ble_eq_true rfl) ?_
  intro p e s m args below meth c C
  replace C : CX p s m args meth c cX11_driven 4 RX11 none E := C
  unfold fX11_driven at h
  refine vj_sub (lv' := [(0, .ref (aE E 28 0)), (1, .int x1), (2, .int x2), (3, .int x3)]) [0, 1, 2, 3] rfl ?_
  refine v_iload_n C 1 (dk dcX11_driven_0 0 rfl) rfl rfl ?_
  refine v_iconst C 4 (dk dcX11_driven_0 1 rfl) ki_4 ?_
  refine v_icmp_ne C 28 (dk dcX11_driven_0 2 rfl) (by decide) (fun c_1 => ?_) (fun c_1 => ?_)
  · replace h := if_f c_1 h
    exact vj_sub [0, 1, 2, 3] rfl (vX11_driven_j28 hL C _ h)
  · replace h := if_t c_1 h
    refine v_aload_n C 0 (dk dcX11_driven_0 3 rfl) rfl rfl ?_
    refine v_bipush C 6 (dk dcX11_driven_0 4 rfl) kb_6 ?_
    refine v_iload_n C 2 (dk dcX11_driven_0 5 rfl) rfl rfl ?_
    refine v_if_eq C 16 (dk dcX11_driven_0 6 rfl) (by decide) (fun c_2 => ?_) (fun c_2 => ?_)
    · replace h := if_t c_2 h
      refine v_iconst C 5 (dk dcX11_driven_0 9 rfl) ki_5 ?_
      exact vj_sub [0, 1, 2, 3] rfl (vX11_driven_j17 hL C _ h)
    · replace h := if_f c_2 h
      refine v_iconst C (-1) (dk dcX11_driven_0 7 rfl) ki_m1 ?_
      refine v_goto C 17 (dk dcX11_driven_0 8 rfl) (by decide) ?_
      exact vj_sub [0, 1, 2, 3] rfl (vX11_driven_j17 hL C _ h)
set_option maxRecDepth 20000 in
set_option maxHeartbeats 4000000 in
theorem mtX11_fordHalves {l : Launch} {E : WEt} {wx : va_W} (L : Nat) (hL : 3 ≤ L)  {g : STt} {rr : Int32} (h : fX11_fordHalves g = some rr) : MT l E yX11_fordHalves cX11_fordHalves 1 (some .int) (L + 1) [.ref (aE E 28 0)] (cellsM E g ++ wx) (cellsM E g ++ wx) (some (.int rr)) := by
  refine mt_of (by decide +kernel) (Nat.le_of_ble_eq_true rfl) ?_
  intro p e s m args below meth c C
  replace C : CX p s m args meth c cX11_fordHalves 1 RX11 (some .int) E := C
  unfold fX11_fordHalves at h
  refine vj_sub (lv' := [(0, .ref (aE E 28 0))]) [0] rfl ?_
  refine v_aload_n C 0 (dk dcX11_fordHalves_0 0 rfl) rfl rfl ?_
  refine v_bipush C 6 (dk dcX11_fordHalves_0 1 rfl) kb_6 ?_
  obtain ⟨r_2, h_1, h⟩ := bnd1_s h
  refine v_callV1 C (mtX11_lastOf (L - 1) (by omega) h_1) wmX11_lastOf wd_1357 (by omega) (by decide) rfl _ (ce_Mo) rfl rfl (Nat.le_of_ble_eq_true rfl) (dk dcX11_fordHalves_0 2 rfl) ?_
  refine v_if_ne C 13 (dk dcX11_fordHalves_0 3 rfl) (by decide) (fun c_3 => ?_) (fun c_3 => ?_)
  · replace h := if_f c_3 h
    refine v_aload_n C 0 (dk dcX11_fordHalves_0 6 rfl) rfl rfl ?_
    refine v_bipush C 6 (dk dcX11_fordHalves_0 7 rfl) kb_6 ?_
    obtain ⟨r_5, h_4, h⟩ := bnd1_s h
    refine v_callV1 C (mtX11_lastOf (L - 1) (by omega) h_4) wmX11_lastOf wd_1357 (by omega) (by decide) rfl _ (ce_Mo) rfl rfl (Nat.le_of_ble_eq_true rfl) (dk dcX11_fordHalves_0 8 rfl) ?_
    cases h
    exact v_iret C rfl (dk dcX11_fordHalves_0 9 rfl)
  · replace h := if_t c_3 h
    refine v_iconst C 1 (dk dcX11_fordHalves_0 4 rfl) ki_1 ?_
    refine v_goto C 19 (dk dcX11_fordHalves_0 5 rfl) (by decide) ?_
    cases h
    exact v_iret C rfl (dk dcX11_fordHalves_0 9 rfl)
set_option maxRecDepth 20000 in
set_option maxHeartbeats 4000000 in
theorem vX11_does_j263 {L : Nat} (hL : 9 ≤ L) (C : CX p s m args meth c cX11_does 5 RX11 (some .int) E) {g : STt} {l2 : Int32} {l3 : Int32} {s0 : Int32} {s1 : Int32} (r : STt × Int32) (h : fX11_does_j263 g l2 l3 s0 s1 = some r) : VJ p l e (rmL (L + 1)) s m args below meth c (QE below E (cellsM E r.1 ++ wx) (some (.int r.2)) args s) E 5 (cellsM E g ++ wx) [(0, .ref (aE E 28 0)), (2, .int l2), (3, .int l3)] [.int s0, .int s1, .ref (aE E 28 0)] 263 := by
  unfold fX11_does_j263 at h
  refine v_iload_n C 1 (dk dcX11_does_3 1 rfl) rfl rfl ?_
  obtain ⟨g_2, h_1, h⟩ := bnd1_s h
  refine v_callV0 C (mtX11_driven (L - 1) (by omega) h_1) wmX11_driven wd_1431 (by omega) (by decide) rfl _ (ce_Mo) rfl rfl (Nat.le_of_ble_eq_true rfl) (dk dcX11_does_3 2 rfl) ?_
  refine v_aload_n C 0 (dk dcX11_does_3 3 rfl) rfl rfl ?_
  refine gt_Mo_is C wd_1112 (dk dcX11_does_3 4 rfl) ?_
  refine v_bipush C 14 (dk dcX11_does_3 5 rfl) kb_14 ?_
  refine v_dup2 C rfl rfl (dk dcX11_does_3 6 rfl) ?_
  obtain ⟨b_3, h⟩ := gd_t h
  refine ld_m_is C b_3 (dk dcX11_does_3 7 rfl) ?_
  refine v_iconst C 1 (dk dcX11_does_3 8 rfl) ki_1 ?_
  refine v_iadd C (dk dcX11_does_3 9 rfl) ?_
  obtain ⟨b_4, h⟩ := gd_t h
  refine st_m_is C b_4 (dk dcX11_does_3 10 rfl) ?_
  refine v_iload_n C 2 (dk dcX11_does_3 11 rfl) rfl rfl ?_
  cases h
  exact v_iret C rfl (dk dcX11_does_3 12 rfl)
set_option maxRecDepth 20000 in
set_option maxHeartbeats 4000000 in
theorem vX11_does_j251 {L : Nat} (hL : 9 ≤ L) (C : CX p s m args meth c cX11_does 5 RX11 (some .int) E) {g : STt} {l1 : Int32} {l2 : Int32} {l3 : Int32} (r : STt × Int32) (h : fX11_does_j251 g l1 l2 l3 = some r) : VJ p l e (rmL (L + 1)) s m args below meth c (QE below E (cellsM E r.1 ++ wx) (some (.int r.2)) args s) E 5 (cellsM E g ++ wx) [(0, .ref (aE E 28 0)), (1, .int l1), (2, .int l2), (3, .int l3)] [] 251 := by
  unfold fX11_does_j251 at h
  refine v_aload_n C 0 (dk dcX11_does_2 41 rfl) rfl rfl ?_
  refine v_iload_n C 1 (dk dcX11_does_2 42 rfl) rfl rfl ?_
  refine v_iload_n C 3 (dk dcX11_does_2 43 rfl) rfl rfl ?_
  refine v_iconst C 1 (dk dcX11_does_2 44 rfl) ki_1 ?_
  refine v_icmp_ne C 262 (dk dcX11_does_2 45 rfl) (by decide) (fun c_1 => ?_) (fun c_1 => ?_)
  · replace h := if_f c_1 h
    refine v_iconst C 0 (dk dcX11_does_3 0 rfl) ki_0 ?_
    exact vj_sub [0, 2, 3] rfl (vX11_does_j263 hL C _ h)
  · replace h := if_t c_1 h
    refine v_iconst C 1 (dk dcX11_does_2 46 rfl) ki_1 ?_
    refine v_goto C 263 (dk dcX11_does_2 47 rfl) (by decide) ?_
    exact vj_sub [0, 2, 3] rfl (vX11_does_j263 hL C _ h)
set_option maxRecDepth 20000 in
set_option maxHeartbeats 4000000 in
theorem vX11_does_j185 {L : Nat} (hL : 9 ≤ L) (C : CX p s m args meth c cX11_does 5 RX11 (some .int) E) {g : STt} {l1 : Int32} {l2 : Int32} {l3 : Int32} (r : STt × Int32) (h : fX11_does_j185 g l1 l2 l3 = some r) : VJ p l e (rmL (L + 1)) s m args below meth c (QE below E (cellsM E r.1 ++ wx) (some (.int r.2)) args s) E 5 (cellsM E g ++ wx) [(0, .ref (aE E 28 0)), (1, .int l1), (2, .int l2), (3, .int l3)] [] 185 := by
  unfold fX11_does_j185 at h
  refine v_aload_n C 0 (dk dcX11_does_2 2 rfl) rfl rfl ?_
  refine gt_Mo_is C wd_1112 (dk dcX11_does_2 3 rfl) ?_
  refine v_bipush C 13 (dk dcX11_does_2 4 rfl) kb_13 ?_
  refine v_iconst C 0 (dk dcX11_does_2 5 rfl) ki_0 ?_
  obtain ⟨b_1, h⟩ := gd_t h
  refine st_m_is C b_1 (dk dcX11_does_2 6 rfl) ?_
  refine v_goto C 251 (dk dcX11_does_2 7 rfl) (by decide) ?_
  exact vj_sub [0, 1, 2, 3] rfl (vX11_does_j251 hL C _ h)
set_option maxRecDepth 20000 in
set_option maxHeartbeats 4000000 in
theorem vX11_does_j217 {L : Nat} (hL : 9 ≤ L) (C : CX p s m args meth c cX11_does 5 RX11 (some .int) E) {g : STt} {l1 : Int32} {l2 : Int32} {l3 : Int32} (r : STt × Int32) (h : fX11_does_j217 g l1 l2 l3 = some r) : VJ p l e (rmL (L + 1)) s m args below meth c (QE below E (cellsM E r.1 ++ wx) (some (.int r.2)) args s) E 5 (cellsM E g ++ wx) [(0, .ref (aE E 28 0)), (1, .int l1), (2, .int l2), (3, .int l3)] [] 217 := by
  unfold fX11_does_j217 at h
  refine v_aload_n C 0 (dk dcX11_does_2 21 rfl) rfl rfl ?_
  refine gt_Mo_is C wd_1112 (dk dcX11_does_2 22 rfl) ?_
  refine v_bipush C 9 (dk dcX11_does_2 23 rfl) kb_9 ?_
  refine v_iconst C 0 (dk dcX11_does_2 24 rfl) ki_0 ?_
  obtain ⟨b_1, h⟩ := gd_t h
  refine st_m_is C b_1 (dk dcX11_does_2 25 rfl) ?_
  refine v_aload_n C 0 (dk dcX11_does_2 26 rfl) rfl rfl ?_
  refine gt_Mo_is C wd_1112 (dk dcX11_does_2 27 rfl) ?_
  refine v_bipush C 13 (dk dcX11_does_2 28 rfl) kb_13 ?_
  refine v_iconst C 0 (dk dcX11_does_2 29 rfl) ki_0 ?_
  obtain ⟨b_2, h⟩ := gd_t h
  refine st_m_is C b_2 (dk dcX11_does_2 30 rfl) ?_
  refine v_goto C 251 (dk dcX11_does_2 31 rfl) (by decide) ?_
  exact vj_sub [0, 1, 2, 3] rfl (vX11_does_j251 hL C _ h)
set_option maxRecDepth 20000 in
set_option maxHeartbeats 4000000 in
theorem mtX11_does {l : Launch} {E : WEt} {wx : va_W} (L : Nat) (hL : 9 ≤ L)  {g : STt} {x1 : Int32} {g' : STt} {rr : Int32} (h : fX11_does g x1 = some (g', rr)) : MT l E yX11_does cX11_does 5 (some .int) (L + 1) [.ref (aE E 28 0), .int x1] (cellsM E g ++ wx) (cellsM E g' ++ wx) (some (.int rr)) := by
  refine mt_of (by decide +kernel) (Nat.le_of_ble_eq_true rfl) ?_
  intro p e s m args below meth c C
  replace C : CX p s m args meth c cX11_does 5 RX11 (some .int) E := C
  unfold fX11_does at h
  refine vj_sub (lv' := [(0, .ref (aE E 28 0)), (1, .int x1)]) [0, 1] rfl ?_
  refine v_aload_n C 0 (dk dcX11_does_0 0 rfl) rfl rfl ?_
  obtain ⟨r_2, h_1, h⟩ := bnd1_s h
  refine v_callV1 C (mtX11_isOver (L - 1) (by omega) h_1) wmX11_isOver wd_1361 (by omega) (by decide) rfl _ (ce_Mo) rfl rfl (Nat.le_of_ble_eq_true rfl) (dk dcX11_does_0 1 rfl) ?_
  refine v_if_eq C 10 (dk dcX11_does_0 2 rfl) (by decide) (fun c_3 => ?_) (fun c_3 => ?_)
  · replace h := if_t c_3 h
    refine v_aload_n C 0 (dk dcX11_does_0 5 rfl) rfl rfl ?_
    refine gt_Mo_thing C wd_1111 (dk dcX11_does_0 6 rfl) ?_
    refine v_aload_n C 0 (dk dcX11_does_0 7 rfl) rfl rfl ?_
    refine gt_Mo_is C wd_1112 (dk dcX11_does_0 8 rfl) ?_
    refine v_bipush C 12 (dk dcX11_does_0 9 rfl) kb_12 ?_
    obtain ⟨b_4, h⟩ := gd_t h
    refine ld_m_is C b_4 (dk dcX11_does_0 10 rfl) ?_
    obtain ⟨b_5, h⟩ := gd_t h
    refine ld_m_thing C b_5 (dk dcX11_does_0 11 rfl) ?_
    refine v_istore_n C (lv' := [(2, .int (g.2.1 56 0 (g.2.1 57 0 (12 : Int32).toNatClampNeg).toNatClampNeg)), (0, .ref (aE E 28 0)), (1, .int x1)]) (dk dcX11_does_0 12 rfl) rfl (by decide) rfl ?_
    refine v_aload_n C 1 (dk dcX11_does_0 13 rfl) rfl rfl ?_
    refine v_iload_n C 2 (dk dcX11_does_0 14 rfl) rfl rfl ?_
    obtain ⟨g_7, r_8, h_6, h⟩ := bnd_s h
    refine v_callV1 C (mtX11_wouldBy (L - 1) (by omega) h_6) wmX11_wouldBy wd_1411 (by omega) (by decide) rfl _ (ce_Mo) rfl rfl (Nat.le_of_ble_eq_true rfl) (dk dcX11_does_0 15 rfl) ?_
    refine v_istore_n C (lv' := [(3, .int r_8), (2, .int (g.2.1 56 0 (g.2.1 57 0 (12 : Int32).toNatClampNeg).toNatClampNeg)), (0, .ref (aE E 28 0)), (1, .int x1)]) (dk dcX11_does_0 16 rfl) rfl (by decide) rfl ?_
    refine v_iload_n C 3 (dk dcX11_does_0 17 rfl) rfl rfl ?_
    refine v_bipush C 6 (dk dcX11_does_0 18 rfl) kb_6 ?_
    refine v_icmp_ne C 86 (dk dcX11_does_0 19 rfl) (by decide) (fun c_9 => ?_) (fun c_9 => ?_)
    · replace h := if_f c_9 h
      refine v_aload_n C 2 (dk dcX11_does_1 5 rfl) rfl rfl ?_
      refine v_iconst C 5 (dk dcX11_does_1 6 rfl) ki_5 ?_
      obtain ⟨r_11, h_10, h⟩ := bnd1_s h
      refine v_callV1 C (mtX11_lastOf (L - 1) (by omega) h_10) wmX11_lastOf wd_1357 (by omega) (by decide) rfl _ (ce_Mo) rfl rfl (Nat.le_of_ble_eq_true rfl) (dk dcX11_does_1 7 rfl) ?_
      refine v_istore C (lv' := [(4, .int r_11), (3, .int r_8), (2, .int (g.2.1 56 0 (g.2.1 57 0 (12 : Int32).toNatClampNeg).toNatClampNeg)), (0, .ref (aE E 28 0)), (1, .int x1)]) (dk dcX11_does_1 8 rfl) (by decide) rfl ?_
      refine v_iload_n C 1 (dk dcX11_does_1 9 rfl) rfl rfl ?_
      by_cases c_12 : r_8 = 0
      · replace h := if_t c_12 h
        refine v_tableIn C 164 (dk dcX11_does_1 10 rfl) (by rw [c_12]; decide) (by rw [c_12]; decide) (by rw [c_12]; rfl) (by decide) ?_
        refine v_iload_n C 4 (dk dcX11_does_1 38 rfl) rfl rfl ?_
        refine v_bipush C 7 (dk dcX11_does_1 39 rfl) kb_7 ?_
        refine v_icmp_eq C 185 (dk dcX11_does_1 40 rfl) (by decide) (fun c_13 => ?_) (fun c_13 => ?_)
        · replace h := if_t c_13 h
          exact vj_sub [3, 4, 2, 1] rfl (vX11_does_j185 hL C _ h)
        · replace h := if_f c_13 h
          refine v_aload_n C 3 (dk dcX11_does_1 41 rfl) rfl rfl ?_
          refine v_iload_n C 2 (dk dcX11_does_1 42 rfl) rfl rfl ?_
          refine v_iload C 0 (dk dcX11_does_1 43 rfl) rfl ?_
          refine v_ineg C (dk dcX11_does_1 44 rfl) ?_
          obtain ⟨g_15, h_14, h⟩ := bnd1_s h
          refine v_callV0 C (mtX11_more (L - 1) (by omega) h_14) wmX11_more wd_1427 (by omega) (by decide) rfl _ (ce_Mo) rfl rfl (Nat.le_of_ble_eq_true rfl) (dk dcX11_does_1 45 rfl) ?_
          refine v_aload_n C 3 (dk dcX11_does_1 46 rfl) rfl rfl ?_
          refine v_bipush C 9 (dk dcX11_does_1 47 rfl) kb_9 ?_
          refine v_iconst C 1 (dk dcX11_does_2 0 rfl) ki_1 ?_
          obtain ⟨g_17, h_16, h⟩ := bnd1_s h
          refine v_callV0 C (mtX11_more (L - 1) (by omega) h_16) wmX11_more wd_1427 (by omega) (by decide) rfl _ (ce_Mo) rfl rfl (Nat.le_of_ble_eq_true rfl) (dk dcX11_does_2 1 rfl) ?_
          exact vj_sub [3, 4, 2, 1] rfl (vX11_does_j185 hL C _ h)
      · replace h := if_f c_12 h
        by_cases c_13 : r_8 = 1
        · replace h := if_t c_13 h
          refine v_tableIn C 120 (dk dcX11_does_1 10 rfl) (by rw [c_13]; decide) (by rw [c_13]; decide) (by rw [c_13]; rfl) (by decide) ?_
          refine v_aload_n C 3 (dk dcX11_does_1 11 rfl) rfl rfl ?_
          refine v_iload_n C 2 (dk dcX11_does_1 12 rfl) rfl rfl ?_
          refine v_bipush C (-5) (dk dcX11_does_1 13 rfl) kb_m5 ?_
          obtain ⟨g_15, h_14, h⟩ := bnd1_s h
          refine v_callV0 C (mtX11_more (L - 1) (by omega) h_14) wmX11_more wd_1427 (by omega) (by decide) rfl _ (ce_Mo) rfl rfl (Nat.le_of_ble_eq_true rfl) (dk dcX11_does_1 14 rfl) ?_
          refine v_aload_n C 3 (dk dcX11_does_1 15 rfl) rfl rfl ?_
          refine v_bipush C 8 (dk dcX11_does_1 16 rfl) kb_8 ?_
          refine v_iconst C 1 (dk dcX11_does_1 17 rfl) ki_1 ?_
          obtain ⟨g_17, h_16, h⟩ := bnd1_s h
          refine v_callV0 C (mtX11_more (L - 1) (by omega) h_16) wmX11_more wd_1427 (by omega) (by decide) rfl _ (ce_Mo) rfl rfl (Nat.le_of_ble_eq_true rfl) (dk dcX11_does_1 18 rfl) ?_
          refine v_aload_n C 3 (dk dcX11_does_1 19 rfl) rfl rfl ?_
          refine gt_Mo_is C wd_1112 (dk dcX11_does_1 20 rfl) ?_
          refine v_bipush C 9 (dk dcX11_does_1 21 rfl) kb_9 ?_
          refine v_iconst C 0 (dk dcX11_does_1 22 rfl) ki_0 ?_
          obtain ⟨b_18, h⟩ := gd_t h
          refine st_m_is C b_18 (dk dcX11_does_1 23 rfl) ?_
          refine v_aload_n C 3 (dk dcX11_does_1 24 rfl) rfl rfl ?_
          refine gt_Mo_is C wd_1112 (dk dcX11_does_1 25 rfl) ?_
          refine v_bipush C 13 (dk dcX11_does_1 26 rfl) kb_13 ?_
          refine v_iconst C 0 (dk dcX11_does_1 27 rfl) ki_0 ?_
          obtain ⟨b_19, h⟩ := gd_t h
          refine st_m_is C b_19 (dk dcX11_does_1 28 rfl) ?_
          refine v_aload_n C 3 (dk dcX11_does_1 29 rfl) rfl rfl ?_
          refine gt_Mo_is C wd_1112 (dk dcX11_does_1 30 rfl) ?_
          refine v_bipush C 12 (dk dcX11_does_1 31 rfl) kb_12 ?_
          refine v_dup2 C rfl rfl (dk dcX11_does_1 32 rfl) ?_
          obtain ⟨b_20, h⟩ := gd_t h
          refine ld_m_is C b_20 (dk dcX11_does_1 33 rfl) ?_
          refine v_iconst C 1 (dk dcX11_does_1 34 rfl) ki_1 ?_
          refine v_iadd C (dk dcX11_does_1 35 rfl) ?_
          obtain ⟨b_21, h⟩ := gd_t h
          refine st_m_is C b_21 (dk dcX11_does_1 36 rfl) ?_
          refine v_goto C 251 (dk dcX11_does_1 37 rfl) (by decide) ?_
          exact vj_sub [3, 4, 2, 1] rfl (vX11_does_j251 hL C _ h)
        · replace h := if_f c_13 h
          by_cases c_14 : r_8 = 2
          · replace h := if_t c_14 h
            refine v_tableIn C 196 (dk dcX11_does_1 10 rfl) (by rw [c_14]; decide) (by rw [c_14]; decide) (by rw [c_14]; rfl) (by decide) ?_
            refine v_aload_n C 3 (dk dcX11_does_2 8 rfl) rfl rfl ?_
            refine gt_Mo_is C wd_1112 (dk dcX11_does_2 9 rfl) ?_
            refine v_bipush C 12 (dk dcX11_does_2 10 rfl) kb_12 ?_
            obtain ⟨b_15, h⟩ := gd_t h
            refine ld_m_is C b_15 (dk dcX11_does_2 11 rfl) ?_
            refine v_if_le C 217 (dk dcX11_does_2 12 rfl) (by decide) (fun c_16 => ?_) (fun c_16 => ?_)
            · replace h := if_t c_16 h
              exact vj_sub [3, 4, 2, 1] rfl (vX11_does_j217 hL C _ h)
            · replace h := if_f c_16 h
              refine v_aload_n C 3 (dk dcX11_does_2 13 rfl) rfl rfl ?_
              refine gt_Mo_is C wd_1112 (dk dcX11_does_2 14 rfl) ?_
              refine v_bipush C 12 (dk dcX11_does_2 15 rfl) kb_12 ?_
              refine v_dup2 C rfl rfl (dk dcX11_does_2 16 rfl) ?_
              obtain ⟨b_17, h⟩ := gd_t h
              refine ld_m_is C b_17 (dk dcX11_does_2 17 rfl) ?_
              refine v_iconst C 1 (dk dcX11_does_2 18 rfl) ki_1 ?_
              refine v_isub C (dk dcX11_does_2 19 rfl) ?_
              obtain ⟨b_18, h⟩ := gd_t h
              refine st_m_is C b_18 (dk dcX11_does_2 20 rfl) ?_
              exact vj_sub [3, 4, 2, 1] rfl (vX11_does_j217 hL C _ h)
          · replace h := if_f c_14 h
            have ec_12 := i32_ne (k := 0) c_12 (by decide)
            have ec_13 := i32_ne (k := 1) c_13 (by decide)
            have ec_14 := i32_ne (k := 2) c_14 (by decide)
            refine v_tableOut C 236 (dk dcX11_does_1 10 rfl) (by omega) (by decide) ?_
            refine v_aload_n C 3 (dk dcX11_does_2 32 rfl) rfl rfl ?_
            refine gt_Mo_is C wd_1112 (dk dcX11_does_2 33 rfl) ?_
            refine v_bipush C 13 (dk dcX11_does_2 34 rfl) kb_13 ?_
            refine v_iconst C 1 (dk dcX11_does_2 35 rfl) ki_1 ?_
            obtain ⟨b_15, h⟩ := gd_t h
            refine st_m_is C b_15 (dk dcX11_does_2 36 rfl) ?_
            refine v_aload_n C 3 (dk dcX11_does_2 37 rfl) rfl rfl ?_
            refine v_bipush C 8 (dk dcX11_does_2 38 rfl) kb_8 ?_
            refine v_iconst C (-1) (dk dcX11_does_2 39 rfl) ki_m1 ?_
            obtain ⟨g_17, h_16, h⟩ := bnd1_s h
            refine v_callV0 C (mtX11_more (L - 1) (by omega) h_16) wmX11_more wd_1427 (by omega) (by decide) rfl _ (ce_Mo) rfl rfl (Nat.le_of_ble_eq_true rfl) (dk dcX11_does_2 40 rfl) ?_
            exact vj_sub [3, 4, 2, 1] rfl (vX11_does_j251 hL C _ h)
    · replace h := if_t c_9 h
      refine v_aload_n C 2 (dk dcX11_does_0 20 rfl) rfl rfl ?_
      refine gt_Mo_is C wd_1112 (dk dcX11_does_0 21 rfl) ?_
      refine v_bipush C 14 (dk dcX11_does_0 22 rfl) kb_14 ?_
      refine v_dup2 C rfl rfl (dk dcX11_does_0 23 rfl) ?_
      obtain ⟨b_10, h⟩ := gd_t h
      refine ld_m_is C b_10 (dk dcX11_does_0 24 rfl) ?_
      refine v_aload_n C 2 (dk dcX11_does_0 25 rfl) rfl rfl ?_
      obtain ⟨r_12, h_11, h⟩ := bnd1_s h
      refine v_callV1 C (mtX11_fordHalves (L - 1) (by omega) h_11) wmX11_fordHalves wd_1419 (by omega) (by decide) rfl _ (ce_Mo) rfl rfl (Nat.le_of_ble_eq_true rfl) (dk dcX11_does_0 26 rfl) ?_
      refine v_iadd C (dk dcX11_does_0 27 rfl) ?_
      obtain ⟨b_13, h⟩ := gd_t h
      refine st_m_is C b_13 (dk dcX11_does_0 28 rfl) ?_
      refine v_aload_n C 2 (dk dcX11_does_0 29 rfl) rfl rfl ?_
      refine gt_Mo_is C wd_1112 (dk dcX11_does_0 30 rfl) ?_
      refine v_bipush C 12 (dk dcX11_does_0 31 rfl) kb_12 ?_
      refine v_dup2 C rfl rfl (dk dcX11_does_0 32 rfl) ?_
      obtain ⟨b_14, h⟩ := gd_t h
      refine ld_m_is C b_14 (dk dcX11_does_0 33 rfl) ?_
      refine v_iconst C 1 (dk dcX11_does_0 34 rfl) ki_1 ?_
      refine v_iadd C (dk dcX11_does_0 35 rfl) ?_
      obtain ⟨b_15, h⟩ := gd_t h
      refine st_m_is C b_15 (dk dcX11_does_0 36 rfl) ?_
      refine v_aload_n C 2 (dk dcX11_does_0 37 rfl) rfl rfl ?_
      refine gt_Mo_is C wd_1112 (dk dcX11_does_0 38 rfl) ?_
      refine v_bipush C 9 (dk dcX11_does_0 39 rfl) kb_9 ?_
      refine v_iconst C 0 (dk dcX11_does_0 40 rfl) ki_0 ?_
      obtain ⟨b_16, h⟩ := gd_t h
      refine st_m_is C b_16 (dk dcX11_does_0 41 rfl) ?_
      refine v_aload_n C 2 (dk dcX11_does_0 42 rfl) rfl rfl ?_
      refine gt_Mo_is C wd_1112 (dk dcX11_does_0 43 rfl) ?_
      refine v_bipush C 13 (dk dcX11_does_0 44 rfl) kb_13 ?_
      refine v_iconst C 0 (dk dcX11_does_0 45 rfl) ki_0 ?_
      obtain ⟨b_17, h⟩ := gd_t h
      refine st_m_is C b_17 (dk dcX11_does_0 46 rfl) ?_
      refine v_aload_n C 2 (dk dcX11_does_0 47 rfl) rfl rfl ?_
      refine v_bipush C 6 (dk dcX11_does_1 0 rfl) kb_6 ?_
      refine v_bipush C 10 (dk dcX11_does_1 1 rfl) kb_10 ?_
      obtain ⟨g_19, h_18, h⟩ := bnd1_s h
      refine v_callV0 C (mtX11_more (L - 1) (by omega) h_18) wmX11_more wd_1427 (by omega) (by decide) rfl _ (ce_Mo) rfl rfl (Nat.le_of_ble_eq_true rfl) (dk dcX11_does_1 2 rfl) ?_
      refine v_iconst C 1 (dk dcX11_does_1 3 rfl) ki_1 ?_
      cases h
      exact v_iret C rfl (dk dcX11_does_1 4 rfl)
  · replace h := if_f c_3 h
    refine v_bipush C (-5) (dk dcX11_does_0 3 rfl) kb_m5 ?_
    cases h
    exact v_iret C rfl (dk dcX11_does_0 4 rfl)
set_option maxRecDepth 20000 in
set_option maxHeartbeats 4000000 in
theorem vX11_keepNow_l2c {L : Nat} (hL : 2 ≤ L) (C : CX p s m args meth c cX11_keepNow 2 RX11 none E) {K2 : (STt × Int32) → Option STt} (hK2 : ∀ {g : STt} {l1 : Int32} (r : STt), K2 (g, l1) = some r → VJ p l e (rmL (L + 1)) s m args below meth c (QE below E (cellsM E r ++ wx) (none) args s) E 2 (cellsM E g ++ wx) [(0, .ref (aE E 28 0)), (1, .int l1)] [] 2) {g : STt} {l1 : Int32} (r : STt) (h : fX11_keepNow_l2c K2 g l1 = some r) : VJ p l e (rmL (L + 1)) s m args below meth c (QE below E (cellsM E r ++ wx) (none) args s) E 2 (cellsM E g ++ wx) [(0, .ref (aE E 28 0)), (1, .int l1)] [] 2 := by
  unfold fX11_keepNow_l2c at h
  refine v_iload_n C 1 (dk dcX11_keepNow_0 2 rfl) rfl rfl ?_
  refine v_bipush C 15 (dk dcX11_keepNow_0 3 rfl) kb_15 ?_
  refine v_icmp_ge C 26 (dk dcX11_keepNow_0 4 rfl) (by decide) (fun c_1 => ?_) (fun c_1 => ?_)
  · replace h := if_t c_1 h
    cases h
    exact v_vret C rfl (dk dcX11_keepNow_0 15 rfl)
  · replace h := if_f c_1 h
    refine v_aload_n C 0 (dk dcX11_keepNow_0 5 rfl) rfl rfl ?_
    refine gt_Mo_was C wd_1135 (dk dcX11_keepNow_0 6 rfl) ?_
    refine v_iload_n C 1 (dk dcX11_keepNow_0 7 rfl) rfl rfl ?_
    refine v_aload_n C 0 (dk dcX11_keepNow_0 8 rfl) rfl rfl ?_
    refine gt_Mo_is C wd_1112 (dk dcX11_keepNow_0 9 rfl) ?_
    refine v_iload_n C 1 (dk dcX11_keepNow_0 10 rfl) rfl rfl ?_
    obtain ⟨b_2, h⟩ := gd_t h
    refine ld_m_is C b_2 (dk dcX11_keepNow_0 11 rfl) ?_
    obtain ⟨b_3, h⟩ := gd_t h
    refine st_m_was C b_3 (dk dcX11_keepNow_0 12 rfl) ?_
    refine v_iinc C (lv' := [(1, .int (l1 + 1)), (0, .ref (aE E 28 0))]) (l1 + 1) 1 (dk dcX11_keepNow_0 13 rfl) rfl (congrArg (fun z => l1 + z) ki_1) (by decide) rfl ?_
    refine v_goto C 2 (dk dcX11_keepNow_0 14 rfl) (by decide) ?_
    exact vj_sub [1, 0] rfl (hK2 _ h)
set_option maxRecDepth 20000 in
set_option maxHeartbeats 4000000 in
theorem vX11_keepNow_l2 {L : Nat} (hL : 2 ≤ L) (C : CX p s m args meth c cX11_keepNow 2 RX11 none E) {g : STt} {l1 : Int32} (r : STt) (h : fX11_keepNow_l2 g l1 = some r) : VJ p l e (rmL (L + 1)) s m args below meth c (QE below E (cellsM E r ++ wx) (none) args s) E 2 (cellsM E g ++ wx) [(0, .ref (aE E 28 0)), (1, .int l1)] [] 2 :=
  iterO_ind (F := fun K z => fX11_keepNow_l2c K z.1 z.2) (fun z r => VJ p l e (rmL (L + 1)) s m args below meth c (QE below E (cellsM E r ++ wx) (none) args s) E 2 (cellsM E z.1 ++ wx) [(0, .ref (aE E 28 0)), (1, .int z.2)] [] 2) (fun K hK z r h => vX11_keepNow_l2c hL C (fun {g} {l1} r h => hK (g, l1) r h) r h) fuelN (g, l1) r h
set_option maxRecDepth 20000 in
set_option maxHeartbeats 4000000 in
theorem mtX11_keepNow {l : Launch} {E : WEt} {wx : va_W} (L : Nat) (hL : 2 ≤ L)  {g : STt} {g' : STt} (h : fX11_keepNow g = some g') : MT l E yX11_keepNow cX11_keepNow 2 none (L + 1) [.ref (aE E 28 0)] (cellsM E g ++ wx) (cellsM E g' ++ wx) none := by
  refine mt_of (by decide +kernel) (Nat.le_of_ble_eq_true rfl) ?_
  intro p e s m args below meth c C
  replace C : CX p s m args meth c cX11_keepNow 2 RX11 none E := C
  unfold fX11_keepNow at h
  refine vj_sub (lv' := [(0, .ref (aE E 28 0))]) [0] rfl ?_
  refine v_iconst C 0 (dk dcX11_keepNow_0 0 rfl) ki_0 ?_
  refine v_istore_n C (lv' := [(1, .int 0), (0, .ref (aE E 28 0))]) (dk dcX11_keepNow_0 1 rfl) rfl (by decide) rfl ?_
  exact vj_sub [1, 0] rfl (vX11_keepNow_l2 hL C _ h)
set_option maxRecDepth 20000 in
set_option maxHeartbeats 4000000 in
theorem vX11_layBack_l2c {L : Nat} (hL : 2 ≤ L) (C : CX p s m args meth c cX11_layBack 2 RX11 none E) {K2 : (STt × Int32) → Option STt} (hK2 : ∀ {g : STt} {l1 : Int32} (r : STt), K2 (g, l1) = some r → VJ p l e (rmL (L + 1)) s m args below meth c (QE below E (cellsM E r ++ wx) (none) args s) E 2 (cellsM E g ++ wx) [(0, .ref (aE E 28 0)), (1, .int l1)] [] 2) {g : STt} {l1 : Int32} (r : STt) (h : fX11_layBack_l2c K2 g l1 = some r) : VJ p l e (rmL (L + 1)) s m args below meth c (QE below E (cellsM E r ++ wx) (none) args s) E 2 (cellsM E g ++ wx) [(0, .ref (aE E 28 0)), (1, .int l1)] [] 2 := by
  unfold fX11_layBack_l2c at h
  refine v_iload_n C 1 (dk dcX11_layBack_0 2 rfl) rfl rfl ?_
  refine v_bipush C 15 (dk dcX11_layBack_0 3 rfl) kb_15 ?_
  refine v_icmp_ge C 26 (dk dcX11_layBack_0 4 rfl) (by decide) (fun c_1 => ?_) (fun c_1 => ?_)
  · replace h := if_t c_1 h
    cases h
    exact v_vret C rfl (dk dcX11_layBack_0 15 rfl)
  · replace h := if_f c_1 h
    refine v_aload_n C 0 (dk dcX11_layBack_0 5 rfl) rfl rfl ?_
    refine gt_Mo_is C wd_1112 (dk dcX11_layBack_0 6 rfl) ?_
    refine v_iload_n C 1 (dk dcX11_layBack_0 7 rfl) rfl rfl ?_
    refine v_aload_n C 0 (dk dcX11_layBack_0 8 rfl) rfl rfl ?_
    refine gt_Mo_was C wd_1135 (dk dcX11_layBack_0 9 rfl) ?_
    refine v_iload_n C 1 (dk dcX11_layBack_0 10 rfl) rfl rfl ?_
    obtain ⟨b_2, h⟩ := gd_t h
    refine ld_m_was C b_2 (dk dcX11_layBack_0 11 rfl) ?_
    obtain ⟨b_3, h⟩ := gd_t h
    refine st_m_is C b_3 (dk dcX11_layBack_0 12 rfl) ?_
    refine v_iinc C (lv' := [(1, .int (l1 + 1)), (0, .ref (aE E 28 0))]) (l1 + 1) 1 (dk dcX11_layBack_0 13 rfl) rfl (congrArg (fun z => l1 + z) ki_1) (by decide) rfl ?_
    refine v_goto C 2 (dk dcX11_layBack_0 14 rfl) (by decide) ?_
    exact vj_sub [1, 0] rfl (hK2 _ h)
set_option maxRecDepth 20000 in
set_option maxHeartbeats 4000000 in
theorem vX11_layBack_l2 {L : Nat} (hL : 2 ≤ L) (C : CX p s m args meth c cX11_layBack 2 RX11 none E) {g : STt} {l1 : Int32} (r : STt) (h : fX11_layBack_l2 g l1 = some r) : VJ p l e (rmL (L + 1)) s m args below meth c (QE below E (cellsM E r ++ wx) (none) args s) E 2 (cellsM E g ++ wx) [(0, .ref (aE E 28 0)), (1, .int l1)] [] 2 :=
  iterO_ind (F := fun K z => fX11_layBack_l2c K z.1 z.2) (fun z r => VJ p l e (rmL (L + 1)) s m args below meth c (QE below E (cellsM E r ++ wx) (none) args s) E 2 (cellsM E z.1 ++ wx) [(0, .ref (aE E 28 0)), (1, .int z.2)] [] 2) (fun K hK z r h => vX11_layBack_l2c hL C (fun {g} {l1} r h => hK (g, l1) r h) r h) fuelN (g, l1) r h
set_option maxRecDepth 20000 in
set_option maxHeartbeats 4000000 in
theorem mtX11_layBack {l : Launch} {E : WEt} {wx : va_W} (L : Nat) (hL : 2 ≤ L)  {g : STt} {g' : STt} (h : fX11_layBack g = some g') : MT l E yX11_layBack cX11_layBack 2 none (L + 1) [.ref (aE E 28 0)] (cellsM E g ++ wx) (cellsM E g' ++ wx) none := by
  refine mt_of (by decide +kernel) (Nat.le_of_ble_eq_true rfl) ?_
  intro p e s m args below meth c C
  replace C : CX p s m args meth c cX11_layBack 2 RX11 none E := C
  unfold fX11_layBack at h
  refine vj_sub (lv' := [(0, .ref (aE E 28 0))]) [0] rfl ?_
  refine v_iconst C 0 (dk dcX11_layBack_0 0 rfl) ki_0 ?_
  refine v_istore_n C (lv' := [(1, .int 0), (0, .ref (aE E 28 0))]) (dk dcX11_layBack_0 1 rfl) rfl (by decide) rfl ?_
  exact vj_sub [1, 0] rfl (vX11_layBack_l2 hL C _ h)
set_option maxRecDepth 20000 in
set_option maxHeartbeats 4000000 in
theorem vX11_waitsFor_j52 {L : Nat} (hL : 10 ≤ L) (C : CX p s m args meth c cX11_waitsFor 3 RX11 (some .int) E) {g : STt} {l1 : Int32} (r : STt × Int32) (h : fX11_waitsFor_j52 g l1 = some r) : VJ p l e (rmL (L + 1)) s m args below meth c (QE below E (cellsM E r.1 ++ wx) (some (.int r.2)) args s) E 3 (cellsM E g ++ wx) [(0, .ref (aE E 28 0)), (1, .int l1)] [] 52 := by
  unfold fX11_waitsFor_j52 at h
  refine v_aload_n C 0 (dk dcX11_waitsFor_0 30 rfl) rfl rfl ?_
  obtain ⟨g_2, h_1, h⟩ := bnd1_s h
  refine v_callV0 C (mtX11_layBack (L - 1) (by omega) h_1) wmX11_layBack wd_1447 (by omega) (by decide) rfl _ (ce_Mo) rfl rfl (Nat.le_of_ble_eq_true rfl) (dk dcX11_waitsFor_0 31 rfl) ?_
  refine v_iload_n C 1 (dk dcX11_waitsFor_0 32 rfl) rfl rfl ?_
  cases h
  exact v_iret C rfl (dk dcX11_waitsFor_0 33 rfl)
set_option maxRecDepth 20000 in
set_option maxHeartbeats 4000000 in
theorem vX11_waitsFor_j46 {L : Nat} (hL : 10 ≤ L) (C : CX p s m args meth c cX11_waitsFor 3 RX11 (some .int) E) {g : STt} {l1 : Int32} {l2 : Int32} {K9 : (STt × Int32 × Int32) → Option (STt × Int32)} (hK9 : ∀ {g : STt} {l1 : Int32} {l2 : Int32} (r : STt × Int32), K9 (g, l1, l2) = some r → VJ p l e (rmL (L + 1)) s m args below meth c (QE below E (cellsM E r.1 ++ wx) (some (.int r.2)) args s) E 3 (cellsM E g ++ wx) [(0, .ref (aE E 28 0)), (1, .int l1), (2, .int l2)] [] 9) (r : STt × Int32) (h : fX11_waitsFor_j46 K9 g l1 l2 = some r) : VJ p l e (rmL (L + 1)) s m args below meth c (QE below E (cellsM E r.1 ++ wx) (some (.int r.2)) args s) E 3 (cellsM E g ++ wx) [(0, .ref (aE E 28 0)), (1, .int l1), (2, .int l2)] [] 46 := by
  unfold fX11_waitsFor_j46 at h
  refine v_iinc C (lv' := [(2, .int (l2 + 1)), (0, .ref (aE E 28 0)), (1, .int l1)]) (l2 + 1) 2 (dk dcX11_waitsFor_0 28 rfl) rfl (congrArg (fun z => l2 + z) ki_1) (by decide) rfl ?_
  refine v_goto C 9 (dk dcX11_waitsFor_0 29 rfl) (by decide) ?_
  exact vj_sub [1, 2, 0] rfl (hK9 _ h)
set_option maxRecDepth 20000 in
set_option maxHeartbeats 4000000 in
theorem vX11_waitsFor_l9c {L : Nat} (hL : 10 ≤ L) (C : CX p s m args meth c cX11_waitsFor 3 RX11 (some .int) E) {K9 : (STt × Int32 × Int32) → Option (STt × Int32)} (hK9 : ∀ {g : STt} {l1 : Int32} {l2 : Int32} (r : STt × Int32), K9 (g, l1, l2) = some r → VJ p l e (rmL (L + 1)) s m args below meth c (QE below E (cellsM E r.1 ++ wx) (some (.int r.2)) args s) E 3 (cellsM E g ++ wx) [(0, .ref (aE E 28 0)), (1, .int l1), (2, .int l2)] [] 9) {g : STt} {l1 : Int32} {l2 : Int32} (r : STt × Int32) (h : fX11_waitsFor_l9c K9 g l1 l2 = some r) : VJ p l e (rmL (L + 1)) s m args below meth c (QE below E (cellsM E r.1 ++ wx) (some (.int r.2)) args s) E 3 (cellsM E g ++ wx) [(0, .ref (aE E 28 0)), (1, .int l1), (2, .int l2)] [] 9 := by
  unfold fX11_waitsFor_l9c at h
  refine v_iload_n C 2 (dk dcX11_waitsFor_0 6 rfl) rfl rfl ?_
  refine v_bipush C 60 (dk dcX11_waitsFor_0 7 rfl) kb_60 ?_
  refine v_icmp_gt C 52 (dk dcX11_waitsFor_0 8 rfl) (by decide) (fun c_1 => ?_) (fun c_1 => ?_)
  · replace h := if_t c_1 h
    exact vj_sub [0, 1] rfl (vX11_waitsFor_j52 hL C _ h)
  · replace h := if_f c_1 h
    refine v_iload_n C 1 (dk dcX11_waitsFor_0 9 rfl) rfl rfl ?_
    refine v_if_ge C 52 (dk dcX11_waitsFor_0 10 rfl) (by decide) (fun c_2 => ?_) (fun c_2 => ?_)
    · replace h := if_t c_2 h
      exact vj_sub [0, 1] rfl (vX11_waitsFor_j52 hL C _ h)
    · replace h := if_f c_2 h
      refine v_aload_n C 0 (dk dcX11_waitsFor_0 11 rfl) rfl rfl ?_
      refine v_iconst C 0 (dk dcX11_waitsFor_0 12 rfl) ki_0 ?_
      obtain ⟨g_4, r_5, h_3, h⟩ := bnd_s h
      refine v_callV1 C (mtX11_does (L - 1) (by omega) h_3) wmX11_does wd_1423 (by omega) (by decide) rfl _ (ce_Mo) rfl rfl (Nat.le_of_ble_eq_true rfl) (dk dcX11_waitsFor_0 13 rfl) ?_
      refine v_pop C rfl (dk dcX11_waitsFor_0 14 rfl) ?_
      refine v_aload_n C 0 (dk dcX11_waitsFor_0 15 rfl) rfl rfl ?_
      refine gt_Mo_is C wd_1112 (dk dcX11_waitsFor_0 16 rfl) ?_
      refine v_bipush C 12 (dk dcX11_waitsFor_0 17 rfl) kb_12 ?_
      obtain ⟨b_6, h⟩ := gd_t h
      refine ld_m_is C b_6 (dk dcX11_waitsFor_0 18 rfl) ?_
      refine v_aload_n C 0 (dk dcX11_waitsFor_0 19 rfl) rfl rfl ?_
      refine gt_Mo_was C wd_1135 (dk dcX11_waitsFor_0 20 rfl) ?_
      refine v_bipush C 12 (dk dcX11_waitsFor_0 21 rfl) kb_12 ?_
      obtain ⟨b_7, h⟩ := gd_t h
      refine ld_m_was C b_7 (dk dcX11_waitsFor_0 22 rfl) ?_
      refine v_iconst C 1 (dk dcX11_waitsFor_0 23 rfl) ki_1 ?_
      refine v_iadd C (dk dcX11_waitsFor_0 24 rfl) ?_
      refine v_icmp_ne C 46 (dk dcX11_waitsFor_0 25 rfl) (by decide) (fun c_8 => ?_) (fun c_8 => ?_)
      · replace h := if_f c_8 h
        exact vj_sub [0, 1, 2] rfl (vX11_waitsFor_j46 hL C hK9 _ h)
      · replace h := if_t c_8 h
        refine v_iload_n C 2 (dk dcX11_waitsFor_0 26 rfl) rfl rfl ?_
        refine v_istore_n C (lv' := [(1, .int l2), (0, .ref (aE E 28 0)), (2, .int l2)]) (dk dcX11_waitsFor_0 27 rfl) rfl (by decide) rfl ?_
        exact vj_sub [1, 0, 2] rfl (vX11_waitsFor_j46 hL C hK9 _ h)
set_option maxRecDepth 20000 in
set_option maxHeartbeats 4000000 in
theorem vX11_waitsFor_l9 {L : Nat} (hL : 10 ≤ L) (C : CX p s m args meth c cX11_waitsFor 3 RX11 (some .int) E) {g : STt} {l1 : Int32} {l2 : Int32} (r : STt × Int32) (h : fX11_waitsFor_l9 g l1 l2 = some r) : VJ p l e (rmL (L + 1)) s m args below meth c (QE below E (cellsM E r.1 ++ wx) (some (.int r.2)) args s) E 3 (cellsM E g ++ wx) [(0, .ref (aE E 28 0)), (1, .int l1), (2, .int l2)] [] 9 :=
  iterO_ind (F := fun K z => fX11_waitsFor_l9c K z.1 z.2.1 z.2.2) (fun z r => VJ p l e (rmL (L + 1)) s m args below meth c (QE below E (cellsM E r.1 ++ wx) (some (.int r.2)) args s) E 3 (cellsM E z.1 ++ wx) [(0, .ref (aE E 28 0)), (1, .int z.2.1), (2, .int z.2.2)] [] 9) (fun K hK z r h => vX11_waitsFor_l9c hL C (fun {g} {l1} {l2} r h => hK (g, l1, l2) r h) r h) fuelN (g, l1, l2) r h
set_option maxRecDepth 20000 in
set_option maxHeartbeats 4000000 in
theorem mtX11_waitsFor {l : Launch} {E : WEt} {wx : va_W} (L : Nat) (hL : 10 ≤ L)  {g : STt} {g' : STt} {rr : Int32} (h : fX11_waitsFor g = some (g', rr)) : MT l E yX11_waitsFor cX11_waitsFor 3 (some .int) (L + 1) [.ref (aE E 28 0)] (cellsM E g ++ wx) (cellsM E g' ++ wx) (some (.int rr)) := by
  refine mt_of (by decide +kernel) (Nat.le_of_ble_eq_true rfl) ?_
  intro p e s m args below meth c C
  replace C : CX p s m args meth c cX11_waitsFor 3 RX11 (some .int) E := C
  unfold fX11_waitsFor at h
  refine vj_sub (lv' := [(0, .ref (aE E 28 0))]) [0] rfl ?_
  refine v_aload_n C 0 (dk dcX11_waitsFor_0 0 rfl) rfl rfl ?_
  obtain ⟨g_2, h_1, h⟩ := bnd1_s h
  refine v_callV0 C (mtX11_keepNow (L - 1) (by omega) h_1) wmX11_keepNow wd_1443 (by omega) (by decide) rfl _ (ce_Mo) rfl rfl (Nat.le_of_ble_eq_true rfl) (dk dcX11_waitsFor_0 1 rfl) ?_
  refine v_bipush C (-5) (dk dcX11_waitsFor_0 2 rfl) kb_m5 ?_
  refine v_istore_n C (lv' := [(1, .int (-5)), (0, .ref (aE E 28 0))]) (dk dcX11_waitsFor_0 3 rfl) rfl (by decide) rfl ?_
  refine v_iconst C 1 (dk dcX11_waitsFor_0 4 rfl) ki_1 ?_
  refine v_istore_n C (lv' := [(2, .int 1), (1, .int (-5)), (0, .ref (aE E 28 0))]) (dk dcX11_waitsFor_0 5 rfl) rfl (by decide) rfl ?_
  exact vj_sub [2, 1, 0] rfl (vX11_waitsFor_l9 hL C _ h)
set_option maxRecDepth 20000 in
set_option maxHeartbeats 4000000 in
theorem mtX11_waits {l : Launch} {E : WEt} {wx : va_W} (L : Nat) (hL : 11 ≤ L)  {g : STt} {g' : STt} {rr : Int32} (h : fX11_waits g = some (g', rr)) : MT l E yX11_waits cX11_waits 1 (some .int) (L + 1) [.ref (aE E 28 0)] (cellsM E g ++ wx) (cellsM E g' ++ wx) (some (.int rr)) := by
  refine mt_of (by decide +kernel) (Nat.le_of_ble_eq_true rfl) ?_
  intro p e s m args below meth c C
  replace C : CX p s m args meth c cX11_waits 1 RX11 (some .int) E := C
  unfold fX11_waits at h
  refine vj_sub (lv' := [(0, .ref (aE E 28 0))]) [0] rfl ?_
  refine v_aload_n C 0 (dk dcX11_waits_0 0 rfl) rfl rfl ?_
  obtain ⟨r_2, h_1, h⟩ := bnd1_s h
  refine v_callV1 C (mtX11_isOver (L - 1) (by omega) h_1) wmX11_isOver wd_1361 (by omega) (by decide) rfl _ (ce_Mo) rfl rfl (Nat.le_of_ble_eq_true rfl) (dk dcX11_waits_0 1 rfl) ?_
  refine v_if_eq C 12 (dk dcX11_waits_0 2 rfl) (by decide) (fun c_3 => ?_) (fun c_3 => ?_)
  · replace h := if_t c_3 h
    refine v_aload_n C 0 (dk dcX11_waits_0 5 rfl) rfl rfl ?_
    obtain ⟨g_5, r_6, h_4, h⟩ := bnd_s h
    refine v_callV1 C (mtX11_waitsFor (L - 1) (by omega) h_4) wmX11_waitsFor wd_1477 (by omega) (by decide) rfl _ (ce_Mo) rfl rfl (Nat.le_of_ble_eq_true rfl) (dk dcX11_waits_0 6 rfl) ?_
    cases h
    exact v_iret C rfl (dk dcX11_waits_0 7 rfl)
  · replace h := if_f c_3 h
    refine v_bipush C (-3) (dk dcX11_waits_0 3 rfl) kb_m3 ?_
    refine v_goto C 16 (dk dcX11_waits_0 4 rfl) (by decide) ?_
    cases h
    exact v_iret C rfl (dk dcX11_waits_0 7 rfl)
set_option maxRecDepth 20000 in
set_option maxHeartbeats 4000000 in
theorem vX11_undo_l116c {L : Nat} (hL : 2 ≤ L) (C : CX p s m args meth c cX11_undo 2 RX11 (some .int) E) {K116 : (STt × Int32) → Option (STt × Int32)} (hK116 : ∀ {g : STt} {l1 : Int32} (r : STt × Int32), K116 (g, l1) = some r → VJ p l e (rmL (L + 1)) s m args below meth c (QE below E (cellsM E r.1 ++ wx) (some (.int r.2)) args s) E 2 (cellsM E g ++ wx) [(0, .ref (aE E 28 0)), (1, .int l1)] [] 116) {g : STt} {l1 : Int32} (r : STt × Int32) (h : fX11_undo_l116c K116 g l1 = some r) : VJ p l e (rmL (L + 1)) s m args below meth c (QE below E (cellsM E r.1 ++ wx) (some (.int r.2)) args s) E 2 (cellsM E g ++ wx) [(0, .ref (aE E 28 0)), (1, .int l1)] [] 116 := by
  unfold fX11_undo_l116c at h
  refine v_iload_n C 1 (dk dcX11_undo_1 17 rfl) rfl rfl ?_
  refine v_iconst C 4 (dk dcX11_undo_1 18 rfl) ki_4 ?_
  refine v_icmp_ge C 139 (dk dcX11_undo_1 19 rfl) (by decide) (fun c_1 => ?_) (fun c_1 => ?_)
  · replace h := if_t c_1 h
    refine v_aload_n C 0 (dk dcX11_undo_1 30 rfl) rfl rfl ?_
    refine gt_Mo_is C wd_1112 (dk dcX11_undo_1 31 rfl) ?_
    refine v_bipush C 12 (dk dcX11_undo_1 32 rfl) kb_12 ?_
    obtain ⟨b_2, h⟩ := gd_t h
    refine ld_m_is C b_2 (dk dcX11_undo_1 33 rfl) ?_
    cases h
    exact v_iret C rfl (dk dcX11_undo_1 34 rfl)
  · replace h := if_f c_1 h
    refine v_aload_n C 0 (dk dcX11_undo_1 20 rfl) rfl rfl ?_
    refine gt_Mo_beastFear C wd_1139 (dk dcX11_undo_1 21 rfl) ?_
    refine v_iload_n C 1 (dk dcX11_undo_1 22 rfl) rfl rfl ?_
    refine v_aload_n C 0 (dk dcX11_undo_1 23 rfl) rfl rfl ?_
    refine gt_Mo_keptFear C wd_1155 (dk dcX11_undo_1 24 rfl) ?_
    refine v_iload_n C 1 (dk dcX11_undo_1 25 rfl) rfl rfl ?_
    obtain ⟨b_2, h⟩ := gd_t h
    refine ld_m_keptFear C b_2 (dk dcX11_undo_1 26 rfl) ?_
    obtain ⟨b_3, h⟩ := gd_t h
    refine st_m_beastFear C b_3 (dk dcX11_undo_1 27 rfl) ?_
    refine v_iinc C (lv' := [(1, .int (l1 + 1)), (0, .ref (aE E 28 0))]) (l1 + 1) 1 (dk dcX11_undo_1 28 rfl) rfl (congrArg (fun z => l1 + z) ki_1) (by decide) rfl ?_
    refine v_goto C 116 (dk dcX11_undo_1 29 rfl) (by decide) ?_
    exact vj_sub [1, 0] rfl (hK116 _ h)
set_option maxRecDepth 20000 in
set_option maxHeartbeats 4000000 in
theorem vX11_undo_l116 {L : Nat} (hL : 2 ≤ L) (C : CX p s m args meth c cX11_undo 2 RX11 (some .int) E) {g : STt} {l1 : Int32} (r : STt × Int32) (h : fX11_undo_l116 g l1 = some r) : VJ p l e (rmL (L + 1)) s m args below meth c (QE below E (cellsM E r.1 ++ wx) (some (.int r.2)) args s) E 2 (cellsM E g ++ wx) [(0, .ref (aE E 28 0)), (1, .int l1)] [] 116 :=
  iterO_ind (F := fun K z => fX11_undo_l116c K z.1 z.2) (fun z r => VJ p l e (rmL (L + 1)) s m args below meth c (QE below E (cellsM E r.1 ++ wx) (some (.int r.2)) args s) E 2 (cellsM E z.1 ++ wx) [(0, .ref (aE E 28 0)), (1, .int z.2)] [] 116) (fun K hK z r h => vX11_undo_l116c hL C (fun {g} {l1} r h => hK (g, l1) r h) r h) fuelN (g, l1) r h
set_option maxRecDepth 20000 in
set_option maxHeartbeats 4000000 in
theorem vX11_undo_l78c {L : Nat} (hL : 2 ≤ L) (C : CX p s m args meth c cX11_undo 2 RX11 (some .int) E) {K78 : (STt × Int32) → Option (STt × Int32)} (hK78 : ∀ {g : STt} {l1 : Int32} (r : STt × Int32), K78 (g, l1) = some r → VJ p l e (rmL (L + 1)) s m args below meth c (QE below E (cellsM E r.1 ++ wx) (some (.int r.2)) args s) E 2 (cellsM E g ++ wx) [(0, .ref (aE E 28 0)), (1, .int l1)] [] 78) {g : STt} {l1 : Int32} (r : STt × Int32) (h : fX11_undo_l78c K78 g l1 = some r) : VJ p l e (rmL (L + 1)) s m args below meth c (QE below E (cellsM E r.1 ++ wx) (some (.int r.2)) args s) E 2 (cellsM E g ++ wx) [(0, .ref (aE E 28 0)), (1, .int l1)] [] 78 := by
  unfold fX11_undo_l78c at h
  refine v_iload_n C 1 (dk dcX11_undo_0 42 rfl) rfl rfl ?_
  refine v_bipush C 12 (dk dcX11_undo_0 43 rfl) kb_12 ?_
  refine v_icmp_ge C 114 (dk dcX11_undo_0 44 rfl) (by decide) (fun c_1 => ?_) (fun c_1 => ?_)
  · replace h := if_t c_1 h
    refine v_iconst C 0 (dk dcX11_undo_1 15 rfl) ki_0 ?_
    refine v_istore_n C (lv' := [(1, .int 0), (0, .ref (aE E 28 0))]) (dk dcX11_undo_1 16 rfl) rfl (by decide) rfl ?_
    exact vj_sub [1, 0] rfl (vX11_undo_l116 hL C _ h)
  · replace h := if_f c_1 h
    refine v_aload_n C 0 (dk dcX11_undo_0 45 rfl) rfl rfl ?_
    refine gt_Mo_row C wd_1134 (dk dcX11_undo_0 46 rfl) ?_
    refine v_iload_n C 1 (dk dcX11_undo_0 47 rfl) rfl rfl ?_
    refine v_aload_n C 0 (dk dcX11_undo_1 0 rfl) rfl rfl ?_
    refine gt_Mo_keptRow C wd_1153 (dk dcX11_undo_1 1 rfl) ?_
    refine v_iload_n C 1 (dk dcX11_undo_1 2 rfl) rfl rfl ?_
    obtain ⟨b_2, h⟩ := gd_t h
    refine ld_m_keptRow C b_2 (dk dcX11_undo_1 3 rfl) ?_
    obtain ⟨b_3, h⟩ := gd_t h
    refine st_m_row C b_3 (dk dcX11_undo_1 4 rfl) ?_
    refine v_aload_n C 0 (dk dcX11_undo_1 5 rfl) rfl rfl ?_
    refine gt_Mo_film C wd_1141 (dk dcX11_undo_1 6 rfl) ?_
    refine v_iload_n C 1 (dk dcX11_undo_1 7 rfl) rfl rfl ?_
    refine v_aload_n C 0 (dk dcX11_undo_1 8 rfl) rfl rfl ?_
    refine gt_Mo_keptFilm C wd_1154 (dk dcX11_undo_1 9 rfl) ?_
    refine v_iload_n C 1 (dk dcX11_undo_1 10 rfl) rfl rfl ?_
    obtain ⟨b_4, h⟩ := gd_t h
    refine ld_m_keptFilm C b_4 (dk dcX11_undo_1 11 rfl) ?_
    obtain ⟨b_5, h⟩ := gd_t h
    refine st_m_film C b_5 (dk dcX11_undo_1 12 rfl) ?_
    refine v_iinc C (lv' := [(1, .int (l1 + 1)), (0, .ref (aE E 28 0))]) (l1 + 1) 1 (dk dcX11_undo_1 13 rfl) rfl (congrArg (fun z => l1 + z) ki_1) (by decide) rfl ?_
    refine v_goto C 78 (dk dcX11_undo_1 14 rfl) (by decide) ?_
    exact vj_sub [1, 0] rfl (hK78 _ h)
set_option maxRecDepth 20000 in
set_option maxHeartbeats 4000000 in
theorem vX11_undo_l78 {L : Nat} (hL : 2 ≤ L) (C : CX p s m args meth c cX11_undo 2 RX11 (some .int) E) {g : STt} {l1 : Int32} (r : STt × Int32) (h : fX11_undo_l78 g l1 = some r) : VJ p l e (rmL (L + 1)) s m args below meth c (QE below E (cellsM E r.1 ++ wx) (some (.int r.2)) args s) E 2 (cellsM E g ++ wx) [(0, .ref (aE E 28 0)), (1, .int l1)] [] 78 :=
  iterO_ind (F := fun K z => fX11_undo_l78c K z.1 z.2) (fun z r => VJ p l e (rmL (L + 1)) s m args below meth c (QE below E (cellsM E r.1 ++ wx) (some (.int r.2)) args s) E 2 (cellsM E z.1 ++ wx) [(0, .ref (aE E 28 0)), (1, .int z.2)] [] 78) (fun K hK z r h => vX11_undo_l78c hL C (fun {g} {l1} r h => hK (g, l1) r h) r h) fuelN (g, l1) r h
set_option maxRecDepth 20000 in
set_option maxHeartbeats 4000000 in
theorem vX11_undo_l52c {L : Nat} (hL : 2 ≤ L) (C : CX p s m args meth c cX11_undo 2 RX11 (some .int) E) {K52 : (STt × Int32) → Option (STt × Int32)} (hK52 : ∀ {g : STt} {l1 : Int32} (r : STt × Int32), K52 (g, l1) = some r → VJ p l e (rmL (L + 1)) s m args below meth c (QE below E (cellsM E r.1 ++ wx) (some (.int r.2)) args s) E 2 (cellsM E g ++ wx) [(0, .ref (aE E 28 0)), (1, .int l1)] [] 52) {g : STt} {l1 : Int32} (r : STt × Int32) (h : fX11_undo_l52c K52 g l1 = some r) : VJ p l e (rmL (L + 1)) s m args below meth c (QE below E (cellsM E r.1 ++ wx) (some (.int r.2)) args s) E 2 (cellsM E g ++ wx) [(0, .ref (aE E 28 0)), (1, .int l1)] [] 52 := by
  unfold fX11_undo_l52c at h
  refine v_iload_n C 1 (dk dcX11_undo_0 27 rfl) rfl rfl ?_
  refine v_bipush C 15 (dk dcX11_undo_0 28 rfl) kb_15 ?_
  refine v_icmp_ge C 76 (dk dcX11_undo_0 29 rfl) (by decide) (fun c_1 => ?_) (fun c_1 => ?_)
  · replace h := if_t c_1 h
    refine v_iconst C 0 (dk dcX11_undo_0 40 rfl) ki_0 ?_
    refine v_istore_n C (lv' := [(1, .int 0), (0, .ref (aE E 28 0))]) (dk dcX11_undo_0 41 rfl) rfl (by decide) rfl ?_
    exact vj_sub [1, 0] rfl (vX11_undo_l78 hL C _ h)
  · replace h := if_f c_1 h
    refine v_aload_n C 0 (dk dcX11_undo_0 30 rfl) rfl rfl ?_
    refine gt_Mo_is C wd_1112 (dk dcX11_undo_0 31 rfl) ?_
    refine v_iload_n C 1 (dk dcX11_undo_0 32 rfl) rfl rfl ?_
    refine v_aload_n C 0 (dk dcX11_undo_0 33 rfl) rfl rfl ?_
    refine gt_Mo_keptIs C wd_1152 (dk dcX11_undo_0 34 rfl) ?_
    refine v_iload_n C 1 (dk dcX11_undo_0 35 rfl) rfl rfl ?_
    obtain ⟨b_2, h⟩ := gd_t h
    refine ld_m_keptIs C b_2 (dk dcX11_undo_0 36 rfl) ?_
    obtain ⟨b_3, h⟩ := gd_t h
    refine st_m_is C b_3 (dk dcX11_undo_0 37 rfl) ?_
    refine v_iinc C (lv' := [(1, .int (l1 + 1)), (0, .ref (aE E 28 0))]) (l1 + 1) 1 (dk dcX11_undo_0 38 rfl) rfl (congrArg (fun z => l1 + z) ki_1) (by decide) rfl ?_
    refine v_goto C 52 (dk dcX11_undo_0 39 rfl) (by decide) ?_
    exact vj_sub [1, 0] rfl (hK52 _ h)
set_option maxRecDepth 20000 in
set_option maxHeartbeats 4000000 in
theorem vX11_undo_l52 {L : Nat} (hL : 2 ≤ L) (C : CX p s m args meth c cX11_undo 2 RX11 (some .int) E) {g : STt} {l1 : Int32} (r : STt × Int32) (h : fX11_undo_l52 g l1 = some r) : VJ p l e (rmL (L + 1)) s m args below meth c (QE below E (cellsM E r.1 ++ wx) (some (.int r.2)) args s) E 2 (cellsM E g ++ wx) [(0, .ref (aE E 28 0)), (1, .int l1)] [] 52 :=
  iterO_ind (F := fun K z => fX11_undo_l52c K z.1 z.2) (fun z r => VJ p l e (rmL (L + 1)) s m args below meth c (QE below E (cellsM E r.1 ++ wx) (some (.int r.2)) args s) E 2 (cellsM E z.1 ++ wx) [(0, .ref (aE E 28 0)), (1, .int z.2)] [] 52) (fun K hK z r h => vX11_undo_l52c hL C (fun {g} {l1} r h => hK (g, l1) r h) r h) fuelN (g, l1) r h
set_option maxRecDepth 20000 in
set_option maxHeartbeats 4000000 in
theorem mtX11_undo {l : Launch} {E : WEt} {wx : va_W} (L : Nat) (hL : 2 ≤ L)  {g : STt} {g' : STt} {rr : Int32} (h : fX11_undo g = some (g', rr)) : MT l E yX11_undo cX11_undo 2 (some .int) (L + 1) [.ref (aE E 28 0)] (cellsM E g ++ wx) (cellsM E g' ++ wx) (some (.int rr)) := by
  refine mt_of (by decide +kernel) (Nat.le_of_ble_eq_true rfl) ?_
  intro p e s m args below meth c C
  replace C : CX p s m args meth c cX11_undo 2 RX11 (some .int) E := C
  unfold fX11_undo at h
  refine vj_sub (lv' := [(0, .ref (aE E 28 0))]) [0] rfl ?_
  refine v_aload_n C 0 (dk dcX11_undo_0 0 rfl) rfl rfl ?_
  refine gt_Mo_hasImage C wd_1146 (dk dcX11_undo_0 1 rfl) ?_
  refine v_if_ne C 10 (dk dcX11_undo_0 2 rfl) (by decide) (fun c_1 => ?_) (fun c_1 => ?_)
  · replace h := if_f c_1 h
    refine v_aload_n C 0 (dk dcX11_undo_0 5 rfl) rfl rfl ?_
    refine v_aload_n C 0 (dk dcX11_undo_0 6 rfl) rfl rfl ?_
    refine gt_Mo_keptHolds C wd_1147 (dk dcX11_undo_0 7 rfl) ?_
    refine pt_Mo_holds C wd_1116 (dk dcX11_undo_0 8 rfl) ?_
    refine v_aload_n C 0 (dk dcX11_undo_0 9 rfl) rfl rfl ?_
    refine v_aload_n C 0 (dk dcX11_undo_0 10 rfl) rfl rfl ?_
    refine gt_Mo_keptOdds C wd_1148 (dk dcX11_undo_0 11 rfl) ?_
    refine pt_Mo_odds C wd_1137 (dk dcX11_undo_0 12 rfl) ?_
    refine v_aload_n C 0 (dk dcX11_undo_0 13 rfl) rfl rfl ?_
    refine v_aload_n C 0 (dk dcX11_undo_0 14 rfl) rfl rfl ?_
    refine gt_Mo_keptRows C wd_1149 (dk dcX11_undo_0 15 rfl) ?_
    refine pt_Mo_rowMany C wd_1133 (dk dcX11_undo_0 16 rfl) ?_
    refine v_aload_n C 0 (dk dcX11_undo_0 17 rfl) rfl rfl ?_
    refine v_aload_n C 0 (dk dcX11_undo_0 18 rfl) rfl rfl ?_
    refine gt_Mo_keptFilmed C wd_1150 (dk dcX11_undo_0 19 rfl) ?_
    refine pt_Mo_filmed C wd_1140 (dk dcX11_undo_0 20 rfl) ?_
    refine v_aload_n C 0 (dk dcX11_undo_0 21 rfl) rfl rfl ?_
    refine v_aload_n C 0 (dk dcX11_undo_0 22 rfl) rfl rfl ?_
    refine gt_Mo_keptBeasts C wd_1151 (dk dcX11_undo_0 23 rfl) ?_
    refine pt_Mo_beasts C wd_1138 (dk dcX11_undo_0 24 rfl) ?_
    refine v_iconst C 0 (dk dcX11_undo_0 25 rfl) ki_0 ?_
    refine v_istore_n C (lv' := [(1, .int 0), (0, .ref (aE E 28 0))]) (dk dcX11_undo_0 26 rfl) rfl (by decide) rfl ?_
    exact vj_sub [1, 0] rfl (vX11_undo_l52 hL C _ h)
  · replace h := if_t c_1 h
    refine v_bipush C (-3) (dk dcX11_undo_0 3 rfl) kb_m3 ?_
    cases h
    exact v_iret C rfl (dk dcX11_undo_0 4 rfl)
set_option maxRecDepth 20000 in
set_option maxHeartbeats 4000000 in
theorem mtX11_trace {l : Launch} {E : WEt} {wx : va_W} (L : Nat) (hL : 3 ≤ L)  {g : STt} {x1 : Int32} {rr : Int32} (h : fX11_trace g x1 = some rr) : MT l E yX11_trace cX11_trace 2 (some .int) (L + 1) [.ref (aE E 28 0), .int x1] (cellsM E g ++ wx) (cellsM E g ++ wx) (some (.int rr)) := by
  refine mt_of (by decide +kernel) (Nat.le_of_ble_eq_true rfl) ?_
  intro p e s m args below meth c C
  replace C : CX p s m args meth c cX11_trace 2 RX11 (some .int) E := C
  unfold fX11_trace at h
  refine vj_sub (lv' := [(0, .ref (aE E 28 0)), (1, .int x1)]) [0, 1] rfl ?_
  refine v_iload_n C 1 (dk dcX11_trace_0 0 rfl) rfl rfl ?_
  refine v_iconst C 0 (dk dcX11_trace_0 1 rfl) ki_0 ?_
  refine v_aload_n C 0 (dk dcX11_trace_0 2 rfl) rfl rfl ?_
  refine gt_Mo_traces C wd_1156 (dk dcX11_trace_0 3 rfl) ?_
  refine v_iconst C 1 (dk dcX11_trace_0 4 rfl) ki_1 ?_
  refine v_isub C (dk dcX11_trace_0 5 rfl) ?_
  obtain ⟨r_2, h_1, h⟩ := bnd1_s h
  refine v_callS1 C (mtX11_in (L - 1) (by omega) h_1) wmX11_in wd_1266 (by omega) (by decide) rfl rfl (Nat.le_of_ble_eq_true rfl) (dk dcX11_trace_0 6 rfl) ?_
  refine v_if_eq C 29 (dk dcX11_trace_0 7 rfl) (by decide) (fun c_3 => ?_) (fun c_3 => ?_)
  · replace h := if_t c_3 h
    refine v_iconst C (-1) (dk dcX11_trace_0 16 rfl) ki_m1 ?_
    cases h
    exact v_iret C rfl (dk dcX11_trace_0 17 rfl)
  · replace h := if_f c_3 h
    refine v_iload_n C 1 (dk dcX11_trace_0 8 rfl) rfl rfl ?_
    refine v_bipush C 20 (dk dcX11_trace_0 9 rfl) kb_20 ?_
    refine v_icmp_ge C 29 (dk dcX11_trace_0 10 rfl) (by decide) (fun c_4 => ?_) (fun c_4 => ?_)
    · replace h := if_t c_4 h
      refine v_iconst C (-1) (dk dcX11_trace_0 16 rfl) ki_m1 ?_
      cases h
      exact v_iret C rfl (dk dcX11_trace_0 17 rfl)
    · replace h := if_f c_4 h
      refine v_aload_n C 0 (dk dcX11_trace_0 11 rfl) rfl rfl ?_
      refine gt_Mo_traced C wd_1157 (dk dcX11_trace_0 12 rfl) ?_
      refine v_iload_n C 1 (dk dcX11_trace_0 13 rfl) rfl rfl ?_
      obtain ⟨b_5, h⟩ := gd_t h
      refine ld_m_traced C b_5 (dk dcX11_trace_0 14 rfl) ?_
      refine v_goto C 30 (dk dcX11_trace_0 15 rfl) (by decide) ?_
      cases h
      exact v_iret C rfl (dk dcX11_trace_0 17 rfl)
end MS
