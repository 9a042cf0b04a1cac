theorem kb_16 : (Int8.ofInt (16)).toInt32 = 16 := by decide
theorem kb_17 : (Int8.ofInt (17)).toInt32 = 17 := by decide
theorem kb_18 : (Int8.ofInt (18)).toInt32 = 18 := by decide
theorem kb_19 : (Int8.ofInt (19)).toInt32 = 19 := by decide
theorem kb_21 : (Int8.ofInt (21)).toInt32 = 21 := by decide
theorem kb_22 : (Int8.ofInt (22)).toInt32 = 22 := by decide
theorem kb_23 : (Int8.ofInt (23)).toInt32 = 23 := by decide
theorem kb_24 : (Int8.ofInt (24)).toInt32 = 24 := by decide
theorem kb_25 : (Int8.ofInt (25)).toInt32 = 25 := by decide
theorem kb_26 : (Int8.ofInt (26)).toInt32 = 26 := by decide
theorem kb_27 : (Int8.ofInt (27)).toInt32 = 27 := by decide
theorem kb_28 : (Int8.ofInt (28)).toInt32 = 28 := by decide
theorem kb_29 : (Int8.ofInt (29)).toInt32 = 29 := by decide
theorem kb_31 : (Int8.ofInt (31)).toInt32 = 31 := by decide
theorem kb_101 : (Int8.ofInt (101)).toInt32 = 101 := by decide
theorem kb_103 : (Int8.ofInt (103)).toInt32 = 103 := by decide
theorem kb_105 : (Int8.ofInt (105)).toInt32 = 105 := by decide
theorem kb_110 : (Int8.ofInt (110)).toInt32 = 110 := by decide
theorem kb_111 : (Int8.ofInt (111)).toInt32 = 111 := by decide
theorem kb_114 : (Int8.ofInt (114)).toInt32 = 114 := by decide
theorem kb_117 : (Int8.ofInt (117)).toInt32 = 117 := by decide
theorem ks_360 : (Int16.ofInt (360)).toInt32 = 360 := by decide
theorem ks_700 : (Int16.ofInt (700)).toInt32 = 700 := by decide
set_option maxRecDepth 20000 in
set_option maxHeartbeats 8000000 in
theorem mt_rangeCheck {l : Launch} {E : WEt} {ws : va_W} : MT l E yJ7_rangeCheck_23922 cJ7_rangeCheck_23922 3 none 2 [.int 15, .int 0, .int 6] (ws) (ws) none := by
  refine mt_of (by decide +kernel) (Nat.le_of_ble_eq_true rfl) ?_
  intro p e s m args below meth c C
  replace C : CX p s m args meth c cJ7_rangeCheck_23922 3 RJ7 none E := C
  refine vj_sub (lv' := [(0, .int 15), (1, .int 0), (2, .int 6)]) [0, 1, 2] rfl ?_
  refine v_iload_n C 1 (dk dcJ7_rangeCheck_23922_0 0 rfl) rfl rfl ?_
  refine v_iload_n C 2 (dk dcJ7_rangeCheck_23922_0 1 rfl) rfl rfl ?_
  refine v_icmp_le C 46 (dk dcJ7_rangeCheck_23922_0 2 rfl) (by decide) (fun _ => ?_) (fun h => absurd (by decide) h)
  refine v_iload_n C 1 (dk dcJ7_rangeCheck_23922_0 21 rfl) rfl rfl ?_
  refine v_if_ge C 59 (dk dcJ7_rangeCheck_23922_0 22 rfl) (by decide) (fun _ => ?_) (fun h => absurd (by decide) h)
  refine v_iload_n C 2 (dk dcJ7_rangeCheck_23922_0 28 rfl) rfl rfl ?_
  refine v_iload_n C 0 (dk dcJ7_rangeCheck_23922_0 29 rfl) rfl rfl ?_
  refine v_icmp_le C 73 (dk dcJ7_rangeCheck_23922_0 30 rfl) (by decide) (fun _ => ?_) (fun h => absurd (by decide) h)
  exact v_vret C rfl (dk dcJ7_rangeCheck_23922_0 36 rfl)
set_option maxRecDepth 20000 in
set_option maxHeartbeats 8000000 in
theorem mt_fill15 {l : Launch} {E : WEt} {ws : va_W} {a : Nat} {f : Nat → Int32} : MT l E yJ7_fill_fda19 cJ7_fill_fda19 5 none 3 [.ref a, .int 0, .int 6, .int 10] ((a, .inl (E.2.1 0, 15, .inl f)) :: ws) ((a, .inl (E.2.1 0, 15, .inl (upd (upd (upd (upd (upd (upd f (0 : Int32).toNatClampNeg 10) (1 : Int32).toNatClampNeg 10) (2 : Int32).toNatClampNeg 10) (3 : Int32).toNatClampNeg 10) (4 : Int32).toNatClampNeg 10) (5 : Int32).toNatClampNeg 10))) :: ws) none := by
  refine mt_of (by decide +kernel) (Nat.le_of_ble_eq_true rfl) ?_
  intro p e s m args below meth c C
  replace C : CX p s m args meth c cJ7_fill_fda19 5 RJ7 none E := C
  refine vj_sub (lv' := [(0, .ref a), (1, .int 0), (2, .int 6), (3, .int 10)]) [0, 1, 2, 3] rfl ?_
  refine v_aload_n C 0 (dk dcJ7_fill_fda19_0 0 rfl) rfl rfl ?_
  refine v_alen C (t0 := 0) rfl 0 rfl (v := 15) rfl (dk dcJ7_fill_fda19_0 1 rfl) ?_
  refine v_iload_n C 1 (dk dcJ7_fill_fda19_0 2 rfl) rfl rfl ?_
  refine v_iload_n C 2 (dk dcJ7_fill_fda19_0 3 rfl) rfl rfl ?_
  refine v_callS0 C mt_rangeCheck wmJ7_rangeCheck_23922 wd_216 (by decide) (by decide) rfl rfl (Nat.le_of_ble_eq_true rfl) (dk dcJ7_fill_fda19_0 4 rfl) ?_
  refine v_iload_n C 1 (dk dcJ7_fill_fda19_0 5 rfl) rfl rfl ?_
  refine v_istore C (lv' := [(4, .int 0), (0, .ref a), (1, .int 0), (2, .int 6), (3, .int 10)]) (dk dcJ7_fill_fda19_0 6 rfl) (by decide) rfl ?_
  refine v_iload C 0 (dk dcJ7_fill_fda19_0 7 rfl) rfl ?_
  refine v_iload_n C 3 (dk dcJ7_fill_fda19_0 8 rfl) rfl rfl ?_
  refine v_icmp_ge C 27 (dk dcJ7_fill_fda19_0 9 rfl) (by decide) (fun h => absurd h (by decide)) (fun _ => ?_)
  refine v_aload_n C 1 (dk dcJ7_fill_fda19_0 10 rfl) rfl rfl ?_
  refine v_iload C 0 (dk dcJ7_fill_fda19_0 11 rfl) rfl ?_
  refine v_iload_n C 4 (dk dcJ7_fill_fda19_0 12 rfl) rfl rfl ?_
  refine v_iast C rfl 0 rfl (inB_in (by decide)) (dk dcJ7_fill_fda19_0 13 rfl) (ws' := (a, .inl (E.2.1 0, 15, .inl (upd f (0 : Int32).toNatClampNeg 10))) :: ws) rfl ?_
  refine v_iinc C (lv' := [(4, .int 1), (0, .ref a), (1, .int 0), (2, .int 6), (3, .int 10)]) 1 0 (dk dcJ7_fill_fda19_0 14 rfl) rfl (by decide) (by decide) rfl ?_
  refine v_goto C 10 (dk dcJ7_fill_fda19_0 15 rfl) (by decide) ?_
  refine v_iload C 0 (dk dcJ7_fill_fda19_0 7 rfl) rfl ?_
  refine v_iload_n C 3 (dk dcJ7_fill_fda19_0 8 rfl) rfl rfl ?_
  refine v_icmp_ge C 27 (dk dcJ7_fill_fda19_0 9 rfl) (by decide) (fun h => absurd h (by decide)) (fun _ => ?_)
  refine v_aload_n C 1 (dk dcJ7_fill_fda19_0 10 rfl) rfl rfl ?_
  refine v_iload C 0 (dk dcJ7_fill_fda19_0 11 rfl) rfl ?_
  refine v_iload_n C 4 (dk dcJ7_fill_fda19_0 12 rfl) rfl rfl ?_
  refine v_iast C rfl 0 rfl (inB_in (by decide)) (dk dcJ7_fill_fda19_0 13 rfl) (ws' := (a, .inl (E.2.1 0, 15, .inl (upd (upd f (0 : Int32).toNatClampNeg 10) (1 : Int32).toNatClampNeg 10))) :: ws) rfl ?_
  refine v_iinc C (lv' := [(4, .int 2), (0, .ref a), (1, .int 0), (2, .int 6), (3, .int 10)]) 2 0 (dk dcJ7_fill_fda19_0 14 rfl) rfl (by decide) (by decide) rfl ?_
  refine v_goto C 10 (dk dcJ7_fill_fda19_0 15 rfl) (by decide) ?_
  refine v_iload C 0 (dk dcJ7_fill_fda19_0 7 rfl) rfl ?_
  refine v_iload_n C 3 (dk dcJ7_fill_fda19_0 8 rfl) rfl rfl ?_
  refine v_icmp_ge C 27 (dk dcJ7_fill_fda19_0 9 rfl) (by decide) (fun h => absurd h (by decide)) (fun _ => ?_)
  refine v_aload_n C 1 (dk dcJ7_fill_fda19_0 10 rfl) rfl rfl ?_
  refine v_iload C 0 (dk dcJ7_fill_fda19_0 11 rfl) rfl ?_
  refine v_iload_n C 4 (dk dcJ7_fill_fda19_0 12 rfl) rfl rfl ?_
  refine v_iast C rfl 0 rfl (inB_in (by decide)) (dk dcJ7_fill_fda19_0 13 rfl) (ws' := (a, .inl (E.2.1 0, 15, .inl (upd (upd (upd f (0 : Int32).toNatClampNeg 10) (1 : Int32).toNatClampNeg 10) (2 : Int32).toNatClampNeg 10))) :: ws) rfl ?_
  refine v_iinc C (lv' := [(4, .int 3), (0, .ref a), (1, .int 0), (2, .int 6), (3, .int 10)]) 3 0 (dk dcJ7_fill_fda19_0 14 rfl) rfl (by decide) (by decide) rfl ?_
  refine v_goto C 10 (dk dcJ7_fill_fda19_0 15 rfl) (by decide) ?_
  refine v_iload C 0 (dk dcJ7_fill_fda19_0 7 rfl) rfl ?_
  refine v_iload_n C 3 (dk dcJ7_fill_fda19_0 8 rfl) rfl rfl ?_
  refine v_icmp_ge C 27 (dk dcJ7_fill_fda19_0 9 rfl) (by decide) (fun h => absurd h (by decide)) (fun _ => ?_)
  refine v_aload_n C 1 (dk dcJ7_fill_fda19_0 10 rfl) rfl rfl ?_
  refine v_iload C 0 (dk dcJ7_fill_fda19_0 11 rfl) rfl ?_
  refine v_iload_n C 4 (dk dcJ7_fill_fda19_0 12 rfl) rfl rfl ?_
  refine v_iast C rfl 0 rfl (inB_in (by decide)) (dk dcJ7_fill_fda19_0 13 rfl) (ws' := (a, .inl (E.2.1 0, 15, .inl (upd (upd (upd (upd f (0 : Int32).toNatClampNeg 10) (1 : Int32).toNatClampNeg 10) (2 : Int32).toNatClampNeg 10) (3 : Int32).toNatClampNeg 10))) :: ws) rfl ?_
  refine v_iinc C (lv' := [(4, .int 4), (0, .ref a), (1, .int 0), (2, .int 6), (3, .int 10)]) 4 0 (dk dcJ7_fill_fda19_0 14 rfl) rfl (by decide) (by decide) rfl ?_
  refine v_goto C 10 (dk dcJ7_fill_fda19_0 15 rfl) (by decide) ?_
  refine v_iload C 0 (dk dcJ7_fill_fda19_0 7 rfl) rfl ?_
  refine v_iload_n C 3 (dk dcJ7_fill_fda19_0 8 rfl) rfl rfl ?_
  refine v_icmp_ge C 27 (dk dcJ7_fill_fda19_0 9 rfl) (by decide) (fun h => absurd h (by decide)) (fun _ => ?_)
  refine v_aload_n C 1 (dk dcJ7_fill_fda19_0 10 rfl) rfl rfl ?_
  refine v_iload C 0 (dk dcJ7_fill_fda19_0 11 rfl) rfl ?_
  refine v_iload_n C 4 (dk dcJ7_fill_fda19_0 12 rfl) rfl rfl ?_
  refine v_iast C rfl 0 rfl (inB_in (by decide)) (dk dcJ7_fill_fda19_0 13 rfl) (ws' := (a, .inl (E.2.1 0, 15, .inl (upd (upd (upd (upd (upd f (0 : Int32).toNatClampNeg 10) (1 : Int32).toNatClampNeg 10) (2 : Int32).toNatClampNeg 10) (3 : Int32).toNatClampNeg 10) (4 : Int32).toNatClampNeg 10))) :: ws) rfl ?_
  refine v_iinc C (lv' := [(4, .int 5), (0, .ref a), (1, .int 0), (2, .int 6), (3, .int 10)]) 5 0 (dk dcJ7_fill_fda19_0 14 rfl) rfl (by decide) (by decide) rfl ?_
  refine v_goto C 10 (dk dcJ7_fill_fda19_0 15 rfl) (by decide) ?_
  refine v_iload C 0 (dk dcJ7_fill_fda19_0 7 rfl) rfl ?_
  refine v_iload_n C 3 (dk dcJ7_fill_fda19_0 8 rfl) rfl rfl ?_
  refine v_icmp_ge C 27 (dk dcJ7_fill_fda19_0 9 rfl) (by decide) (fun h => absurd h (by decide)) (fun _ => ?_)
  refine v_aload_n C 1 (dk dcJ7_fill_fda19_0 10 rfl) rfl rfl ?_
  refine v_iload C 0 (dk dcJ7_fill_fda19_0 11 rfl) rfl ?_
  refine v_iload_n C 4 (dk dcJ7_fill_fda19_0 12 rfl) rfl rfl ?_
  refine v_iast C rfl 0 rfl (inB_in (by decide)) (dk dcJ7_fill_fda19_0 13 rfl) (ws' := (a, .inl (E.2.1 0, 15, .inl (upd (upd (upd (upd (upd (upd f (0 : Int32).toNatClampNeg 10) (1 : Int32).toNatClampNeg 10) (2 : Int32).toNatClampNeg 10) (3 : Int32).toNatClampNeg 10) (4 : Int32).toNatClampNeg 10) (5 : Int32).toNatClampNeg 10))) :: ws) rfl ?_
  refine v_iinc C (lv' := [(4, .int 6), (0, .ref a), (1, .int 0), (2, .int 6), (3, .int 10)]) 6 0 (dk dcJ7_fill_fda19_0 14 rfl) rfl (by decide) (by decide) rfl ?_
  refine v_goto C 10 (dk dcJ7_fill_fda19_0 15 rfl) (by decide) ?_
  refine v_iload C 0 (dk dcJ7_fill_fda19_0 7 rfl) rfl ?_
  refine v_iload_n C 3 (dk dcJ7_fill_fda19_0 8 rfl) rfl rfl ?_
  refine v_icmp_ge C 27 (dk dcJ7_fill_fda19_0 9 rfl) (by decide) (fun _ => ?_) (fun h => absurd (by decide) h)
  exact v_vret C rfl (dk dcJ7_fill_fda19_0 16 rfl)
set_option maxRecDepth 20000 in
set_option maxHeartbeats 8000000 in
theorem mcX5_init_100 {l : Launch} {E : WEt} {wx : va_W} (hup : ∀ a b, E.2.2.2.1 a → a ≤ b → E.2.2.2.1 b) {h0 : Nat} : MC l E yX5_init cX5_init 2 3 1 100 [.ref h0, .int 100] ((h0, .inr (5, [.null, .int 0])) :: wx) (fun ad => (ad 0, .inl (E.2.1 0, 100, .inl ((fun _ => 0)))) :: (h0, .inr (5, [.ref (ad 0), .int 0])) :: wx) := by
  refine mc_of hup (by decide +kernel) rfl (Nat.le_of_ble_eq_true rfl) ?_
  intro p e s m args below meth c C X
  replace C : CX p s m args meth c cX5_init 2 RX5 none E := C
  refine vw_sub (lv' := [(0, .ref h0), (1, .int 100)]) [0, 1] rfl ?_
  refine w_aload_n C 0 (dk dcX5_init_0 0 rfl) rfl rfl ?_
  refine w_objInit C wd_136 (dk dcX5_init_0 1 rfl) (Nat.le_of_ble_eq_true rfl) (Nat.le_of_ble_eq_true rfl) ?_
  refine w_aload_n C 0 (dk dcX5_init_0 2 rfl) rfl rfl ?_
  refine w_iconst C 0 (dk dcX5_init_0 3 rfl) ki_0 ?_
  refine w_iload_n C 1 (dk dcX5_init_0 4 rfl) rfl rfl ?_
  refine w_mmax C (Nat.le_of_ble_eq_true rfl) wd_137 (Nat.le_of_ble_eq_true rfl) ⟨Nat.le_of_ble_eq_true rfl, Nat.le_of_ble_eq_true rfl⟩ (dk dcX5_init_0 5 rfl) ?_
  rw [show (if (0 : Int32) < 100 then (100 : Int32) else 0) = 100 from by decide]
  refine w_newa C X (a0 := (100, .inl (fun _ => 0))) (N' := 100) wn_arr0 (ty := .int) rfl (t0 := 0) rfl (fun _ _ h => ra_int h) (fun _ => rfl) (by decide) (by decide) (Nat.le_of_ble_eq_true rfl) (Nat.le_of_ble_eq_true rfl) (Nat.le_of_ble_eq_true rfl) (dk dcX5_init_0 6 rfl) (fun n0 => ?_)
  refine w_putF C X inX5 tyX5 tyX5_ok nmX5 1 rfl rfl 0 (by decide) wd_140 rfl rfl rfl (ty := .array .int) rfl rfl rfl (by show 0 < 2; decide) (dk dcX5_init_0 7 rfl) (ws' := (n0, .inl (E.2.1 0, 100, .inl ((fun _ => 0)))) :: (h0, .inr (5, [.ref n0, .int 0])) :: wx) rfl ?_
  exact w_vretC C (fun k => ([n0] : List Nat).getD k 0) rfl rfl (dk dcX5_init_0 8 rfl)
set_option maxRecDepth 20000 in
set_option maxHeartbeats 8000000 in
theorem mcX5_init_12 {l : Launch} {E : WEt} {wx : va_W} (hup : ∀ a b, E.2.2.2.1 a → a ≤ b → E.2.2.2.1 b) {h0 : Nat} : MC l E yX5_init cX5_init 2 3 1 12 [.ref h0, .int 12] ((h0, .inr (5, [.null, .int 0])) :: wx) (fun ad => (ad 0, .inl (E.2.1 0, 12, .inl ((fun _ => 0)))) :: (h0, .inr (5, [.ref (ad 0), .int 0])) :: wx) := by
  refine mc_of hup (by decide +kernel) rfl (Nat.le_of_ble_eq_true rfl) ?_
  intro p e s m args below meth c C X
  replace C : CX p s m args meth c cX5_init 2 RX5 none E := C
  refine vw_sub (lv' := [(0, .ref h0), (1, .int 12)]) [0, 1] rfl ?_
  refine w_aload_n C 0 (dk dcX5_init_0 0 rfl) rfl rfl ?_
  refine w_objInit C wd_136 (dk dcX5_init_0 1 rfl) (Nat.le_of_ble_eq_true rfl) (Nat.le_of_ble_eq_true rfl) ?_
  refine w_aload_n C 0 (dk dcX5_init_0 2 rfl) rfl rfl ?_
  refine w_iconst C 0 (dk dcX5_init_0 3 rfl) ki_0 ?_
  refine w_iload_n C 1 (dk dcX5_init_0 4 rfl) rfl rfl ?_
  refine w_mmax C (Nat.le_of_ble_eq_true rfl) wd_137 (Nat.le_of_ble_eq_true rfl) ⟨Nat.le_of_ble_eq_true rfl, Nat.le_of_ble_eq_true rfl⟩ (dk dcX5_init_0 5 rfl) ?_
  rw [show (if (0 : Int32) < 12 then (12 : Int32) else 0) = 12 from by decide]
  refine w_newa C X (a0 := (12, .inl (fun _ => 0))) (N' := 12) wn_arr0 (ty := .int) rfl (t0 := 0) rfl (fun _ _ h => ra_int h) (fun _ => rfl) (by decide) (by decide) (Nat.le_of_ble_eq_true rfl) (Nat.le_of_ble_eq_true rfl) (Nat.le_of_ble_eq_true rfl) (dk dcX5_init_0 6 rfl) (fun n0 => ?_)
  refine w_putF C X inX5 tyX5 tyX5_ok nmX5 1 rfl rfl 0 (by decide) wd_140 rfl rfl rfl (ty := .array .int) rfl rfl rfl (by show 0 < 2; decide) (dk dcX5_init_0 7 rfl) (ws' := (n0, .inl (E.2.1 0, 12, .inl ((fun _ => 0)))) :: (h0, .inr (5, [.ref n0, .int 0])) :: wx) rfl ?_
  exact w_vretC C (fun k => ([n0] : List Nat).getD k 0) rfl rfl (dk dcX5_init_0 8 rfl)
set_option maxRecDepth 20000 in
set_option maxHeartbeats 8000000 in
theorem mcX5_init_4 {l : Launch} {E : WEt} {wx : va_W} (hup : ∀ a b, E.2.2.2.1 a → a ≤ b → E.2.2.2.1 b) {h0 : Nat} : MC l E yX5_init cX5_init 2 3 1 4 [.ref h0, .int 4] ((h0, .inr (5, [.null, .int 0])) :: wx) (fun ad => (ad 0, .inl (E.2.1 0, 4, .inl ((fun _ => 0)))) :: (h0, .inr (5, [.ref (ad 0), .int 0])) :: wx) := by
  refine mc_of hup (by decide +kernel) rfl (Nat.le_of_ble_eq_true rfl) ?_
  intro p e s m args below meth c C X
  replace C : CX p s m args meth c cX5_init 2 RX5 none E := C
  refine vw_sub (lv' := [(0, .ref h0), (1, .int 4)]) [0, 1] rfl ?_
  refine w_aload_n C 0 (dk dcX5_init_0 0 rfl) rfl rfl ?_
  refine w_objInit C wd_136 (dk dcX5_init_0 1 rfl) (Nat.le_of_ble_eq_true rfl) (Nat.le_of_ble_eq_true rfl) ?_
  refine w_aload_n C 0 (dk dcX5_init_0 2 rfl) rfl rfl ?_
  refine w_iconst C 0 (dk dcX5_init_0 3 rfl) ki_0 ?_
  refine w_iload_n C 1 (dk dcX5_init_0 4 rfl) rfl rfl ?_
  refine w_mmax C (Nat.le_of_ble_eq_true rfl) wd_137 (Nat.le_of_ble_eq_true rfl) ⟨Nat.le_of_ble_eq_true rfl, Nat.le_of_ble_eq_true rfl⟩ (dk dcX5_init_0 5 rfl) ?_
  rw [show (if (0 : Int32) < 4 then (4 : Int32) else 0) = 4 from by decide]
  refine w_newa C X (a0 := (4, .inl (fun _ => 0))) (N' := 4) wn_arr0 (ty := .int) rfl (t0 := 0) rfl (fun _ _ h => ra_int h) (fun _ => rfl) (by decide) (by decide) (Nat.le_of_ble_eq_true rfl) (Nat.le_of_ble_eq_true rfl) (Nat.le_of_ble_eq_true rfl) (dk dcX5_init_0 6 rfl) (fun n0 => ?_)
  refine w_putF C X inX5 tyX5 tyX5_ok nmX5 1 rfl rfl 0 (by decide) wd_140 rfl rfl rfl (ty := .array .int) rfl rfl rfl (by show 0 < 2; decide) (dk dcX5_init_0 7 rfl) (ws' := (n0, .inl (E.2.1 0, 4, .inl ((fun _ => 0)))) :: (h0, .inr (5, [.ref n0, .int 0])) :: wx) rfl ?_
  exact w_vretC C (fun k => ([n0] : List Nat).getD k 0) rfl rfl (dk dcX5_init_0 8 rfl)
set_option maxRecDepth 20000 in
set_option maxHeartbeats 8000000 in
theorem mcX5_init_20 {l : Launch} {E : WEt} {wx : va_W} (hup : ∀ a b, E.2.2.2.1 a → a ≤ b → E.2.2.2.1 b) {h0 : Nat} : MC l E yX5_init cX5_init 2 3 1 20 [.ref h0, .int 20] ((h0, .inr (5, [.null, .int 0])) :: wx) (fun ad => (ad 0, .inl (E.2.1 0, 20, .inl ((fun _ => 0)))) :: (h0, .inr (5, [.ref (ad 0), .int 0])) :: wx) := by
  refine mc_of hup (by decide +kernel) rfl (Nat.le_of_ble_eq_true rfl) ?_
  intro p e s m args below meth c C X
  replace C : CX p s m args meth c cX5_init 2 RX5 none E := C
  refine vw_sub (lv' := [(0, .ref h0), (1, .int 20)]) [0, 1] rfl ?_
  refine w_aload_n C 0 (dk dcX5_init_0 0 rfl) rfl rfl ?_
  refine w_objInit C wd_136 (dk dcX5_init_0 1 rfl) (Nat.le_of_ble_eq_true rfl) (Nat.le_of_ble_eq_true rfl) ?_
  refine w_aload_n C 0 (dk dcX5_init_0 2 rfl) rfl rfl ?_
  refine w_iconst C 0 (dk dcX5_init_0 3 rfl) ki_0 ?_
  refine w_iload_n C 1 (dk dcX5_init_0 4 rfl) rfl rfl ?_
  refine w_mmax C (Nat.le_of_ble_eq_true rfl) wd_137 (Nat.le_of_ble_eq_true rfl) ⟨Nat.le_of_ble_eq_true rfl, Nat.le_of_ble_eq_true rfl⟩ (dk dcX5_init_0 5 rfl) ?_
  rw [show (if (0 : Int32) < 20 then (20 : Int32) else 0) = 20 from by decide]
  refine w_newa C X (a0 := (20, .inl (fun _ => 0))) (N' := 20) wn_arr0 (ty := .int) rfl (t0 := 0) rfl (fun _ _ h => ra_int h) (fun _ => rfl) (by decide) (by decide) (Nat.le_of_ble_eq_true rfl) (Nat.le_of_ble_eq_true rfl) (Nat.le_of_ble_eq_true rfl) (dk dcX5_init_0 6 rfl) (fun n0 => ?_)
  refine w_putF C X inX5 tyX5 tyX5_ok nmX5 1 rfl rfl 0 (by decide) wd_140 rfl rfl rfl (ty := .array .int) rfl rfl rfl (by show 0 < 2; decide) (dk dcX5_init_0 7 rfl) (ws' := (n0, .inl (E.2.1 0, 20, .inl ((fun _ => 0)))) :: (h0, .inr (5, [.ref n0, .int 0])) :: wx) rfl ?_
  exact w_vretC C (fun k => ([n0] : List Nat).getD k 0) rfl rfl (dk dcX5_init_0 8 rfl)
set_option maxRecDepth 20000 in
set_option maxHeartbeats 8000000 in
theorem mcX1_init {l : Launch} {E : WEt} {wx : va_W} (hup : ∀ a b, E.2.2.2.1 a → a ≤ b → E.2.2.2.1 b) {h0 : Nat} : MC l E yX1_init cX1_init 1 5 1 15 [.ref h0] ((h0, .inr (1, [.null])) :: wx) (fun ad => (ad 0, .inl (E.2.1 0, 15, .inl (upd (upd (upd (upd (upd (upd (upd ((fun _ => 0)) (0 : Int32).toNatClampNeg 10) (1 : Int32).toNatClampNeg 10) (2 : Int32).toNatClampNeg 10) (3 : Int32).toNatClampNeg 10) (4 : Int32).toNatClampNeg 10) (5 : Int32).toNatClampNeg 10) (7 : Int32).toNatClampNeg 20))) :: (h0, .inr (1, [.ref (ad 0)])) :: wx) := by
  refine mc_of hup (by decide +kernel) rfl (Nat.le_of_ble_eq_true rfl) ?_
  intro p e s m args below meth c C X
  replace C : CX p s m args meth c cX1_init 1 RX1 none E := C
  refine vw_sub (lv' := [(0, .ref h0)]) [0] rfl ?_
  refine w_aload_n C 0 (dk dcX1_init_0 0 rfl) rfl rfl ?_
  refine w_objInit C wd_210 (dk dcX1_init_0 1 rfl) (Nat.le_of_ble_eq_true rfl) (Nat.le_of_ble_eq_true rfl) ?_
  refine w_aload_n C 0 (dk dcX1_init_0 2 rfl) rfl rfl ?_
  refine w_gets C C.2.2.2.2.2.2.1.1.1 wd_211 rfl (dk dcX1_init_0 3 rfl) ?_
  refine w_tlen C C.2.2.2.2.2.2.1.1.2 (v := 15) rfl (dk dcX1_init_0 4 rfl) ?_
  refine w_newa C X (a0 := (15, .inl (fun _ => 0))) (N' := 15) wn_arr0 (ty := .int) rfl (t0 := 0) rfl (fun _ _ h => ra_int h) (fun _ => rfl) (by decide) (by decide) (Nat.le_of_ble_eq_true rfl) (Nat.le_of_ble_eq_true rfl) (Nat.le_of_ble_eq_true rfl) (dk dcX1_init_0 5 rfl) (fun n0 => ?_)
  refine w_putF C X inX1 tyX1 tyX1_ok nmX1 1 rfl rfl 0 (by decide) wd_219 rfl rfl rfl (ty := .array .int) rfl rfl rfl (by show 0 < 1; decide) (dk dcX1_init_0 6 rfl) (ws' := (n0, .inl (E.2.1 0, 15, .inl ((fun _ => 0)))) :: (h0, .inr (1, [.ref n0])) :: wx) rfl ?_
  refine w_aload_n C 0 (dk dcX1_init_0 7 rfl) rfl rfl ?_
  refine w_get C inX1 1 rfl rfl 0 (by decide) wd_219 rfl rfl (dk dcX1_init_0 8 rfl) ?_
  refine w_iconst C 0 (dk dcX1_init_0 9 rfl) ki_0 ?_
  refine w_bipush C 6 (dk dcX1_init_0 10 rfl) kb_6 ?_
  refine w_bipush C 10 (dk dcX1_init_0 11 rfl) kb_10 ?_
  refine w_callS0 C (ws' := (n0, .inl (E.2.1 0, 15, .inl (upd (upd (upd (upd (upd (upd ((fun _ => 0)) (0 : Int32).toNatClampNeg 10) (1 : Int32).toNatClampNeg 10) (2 : Int32).toNatClampNeg 10) (3 : Int32).toNatClampNeg 10) (4 : Int32).toNatClampNeg 10) (5 : Int32).toNatClampNeg 10))) :: (h0, .inr (1, [.ref n0])) :: wx) mt_fill15 wmJ7_fill_fda19 wd_213 ⟨Nat.le_of_ble_eq_true rfl, Nat.le_of_ble_eq_true rfl⟩ ⟨Nat.le_of_ble_eq_true rfl, Nat.le_of_ble_eq_true rfl⟩ rfl rfl (Nat.le_of_ble_eq_true rfl) (dk dcX1_init_0 12 rfl) ?_
  refine w_aload_n C 0 (dk dcX1_init_0 13 rfl) rfl rfl ?_
  refine w_get C inX1 1 rfl rfl 0 (by decide) wd_219 rfl rfl (dk dcX1_init_0 14 rfl) ?_
  refine w_bipush C 7 (dk dcX1_init_0 15 rfl) kb_7 ?_
  refine w_bipush C 20 (dk dcX1_init_0 16 rfl) kb_20 ?_
  refine w_iast C rfl 0 rfl (inB_in (by decide)) (dk dcX1_init_0 17 rfl) (ws' := (n0, .inl (E.2.1 0, 15, .inl (upd (upd (upd (upd (upd (upd (upd ((fun _ => 0)) (0 : Int32).toNatClampNeg 10) (1 : Int32).toNatClampNeg 10) (2 : Int32).toNatClampNeg 10) (3 : Int32).toNatClampNeg 10) (4 : Int32).toNatClampNeg 10) (5 : Int32).toNatClampNeg 10) (7 : Int32).toNatClampNeg 20))) :: (h0, .inr (1, [.ref n0])) :: wx) rfl ?_
  exact w_vretC C (fun k => ([n0] : List Nat).getD k 0) rfl rfl (dk dcX1_init_0 18 rfl)
set_option maxRecDepth 20000 in
set_option maxHeartbeats 8000000 in
theorem mcX2_init {l : Launch} {E : WEt} {wx : va_W} (hup : ∀ a b, E.2.2.2.1 a → a ≤ b → E.2.2.2.1 b) {h0 : Nat} : MC l E yX2_init cX2_init 1 3 4 130 [.ref h0] ((h0, .inr (2, [.null, .null, .null, .int 0, .null, .int 0])) :: wx) (fun ad => (ad 3, .inl (E.2.1 0, 100, .inl ((fun _ => 0)))) :: (ad 2, .inl (E.2.1 0, 10, .inl ((fun _ => 0)))) :: (ad 1, .inl (E.2.1 0, 10, .inl ((fun _ => 0)))) :: (ad 0, .inl (E.2.1 0, 10, .inl ((fun _ => 0)))) :: (h0, .inr (2, [.ref (ad 0), .ref (ad 1), .ref (ad 2), .int 0, .ref (ad 3), .int 0])) :: wx) := by
  refine mc_of hup (by decide +kernel) rfl (Nat.le_of_ble_eq_true rfl) ?_
  intro p e s m args below meth c C X
  replace C : CX p s m args meth c cX2_init 1 RX2 none E := C
  refine vw_sub (lv' := [(0, .ref h0)]) [0] rfl ?_
  refine w_aload_n C 0 (dk dcX2_init_0 0 rfl) rfl rfl ?_
  refine w_objInit C wd_160 (dk dcX2_init_0 1 rfl) (Nat.le_of_ble_eq_true rfl) (Nat.le_of_ble_eq_true rfl) ?_
  refine w_aload_n C 0 (dk dcX2_init_0 2 rfl) rfl rfl ?_
  refine w_bipush C 10 (dk dcX2_init_0 3 rfl) kb_10 ?_
  refine w_newa C X (a0 := (10, .inl (fun _ => 0))) (N' := 10) wn_arr0 (ty := .int) rfl (t0 := 0) rfl (fun _ _ h => ra_int h) (fun _ => rfl) (by decide) (by decide) (Nat.le_of_ble_eq_true rfl) (Nat.le_of_ble_eq_true rfl) (Nat.le_of_ble_eq_true rfl) (dk dcX2_init_0 4 rfl) (fun n0 => ?_)
  refine w_putF C X inX2 tyX2 tyX2_ok nmX2 1 rfl rfl 0 (by decide) wd_161 rfl rfl rfl (ty := .array .int) rfl rfl rfl (by show 0 < 6; decide) (dk dcX2_init_0 5 rfl) (ws' := (n0, .inl (E.2.1 0, 10, .inl ((fun _ => 0)))) :: (h0, .inr (2, [.ref n0, .null, .null, .int 0, .null, .int 0])) :: wx) rfl ?_
  refine w_aload_n C 0 (dk dcX2_init_0 6 rfl) rfl rfl ?_
  refine w_bipush C 10 (dk dcX2_init_0 7 rfl) kb_10 ?_
  refine w_newa C X (a0 := (10, .inl (fun _ => 0))) (N' := 10) wn_arr0 (ty := .int) rfl (t0 := 0) rfl (fun _ _ h => ra_int h) (fun _ => rfl) (by decide) (by decide) (Nat.le_of_ble_eq_true rfl) (Nat.le_of_ble_eq_true rfl) (Nat.le_of_ble_eq_true rfl) (dk dcX2_init_0 8 rfl) (fun n1 => ?_)
  refine w_putF C X inX2 tyX2 tyX2_ok nmX2 2 rfl rfl 1 (by decide) wd_162 rfl rfl rfl (ty := .array .int) rfl rfl rfl (by show 1 < 6; decide) (dk dcX2_init_0 9 rfl) (ws' := (n1, .inl (E.2.1 0, 10, .inl ((fun _ => 0)))) :: (n0, .inl (E.2.1 0, 10, .inl ((fun _ => 0)))) :: (h0, .inr (2, [.ref n0, .ref n1, .null, .int 0, .null, .int 0])) :: wx) rfl ?_
  refine w_aload_n C 0 (dk dcX2_init_0 10 rfl) rfl rfl ?_
  refine w_bipush C 10 (dk dcX2_init_0 11 rfl) kb_10 ?_
  refine w_newa C X (a0 := (10, .inl (fun _ => 0))) (N' := 10) wn_arr0 (ty := .int) rfl (t0 := 0) rfl (fun _ _ h => ra_int h) (fun _ => rfl) (by decide) (by decide) (Nat.le_of_ble_eq_true rfl) (Nat.le_of_ble_eq_true rfl) (Nat.le_of_ble_eq_true rfl) (dk dcX2_init_0 12 rfl) (fun n2 => ?_)
  refine w_putF C X inX2 tyX2 tyX2_ok nmX2 3 rfl rfl 2 (by decide) wd_163 rfl rfl rfl (ty := .array .int) rfl rfl rfl (by show 2 < 6; decide) (dk dcX2_init_0 13 rfl) (ws' := (n2, .inl (E.2.1 0, 10, .inl ((fun _ => 0)))) :: (n1, .inl (E.2.1 0, 10, .inl ((fun _ => 0)))) :: (n0, .inl (E.2.1 0, 10, .inl ((fun _ => 0)))) :: (h0, .inr (2, [.ref n0, .ref n1, .ref n2, .int 0, .null, .int 0])) :: wx) rfl ?_
  refine w_aload_n C 0 (dk dcX2_init_0 14 rfl) rfl rfl ?_
  refine w_bipush C 100 (dk dcX2_init_0 15 rfl) kb_100 ?_
  refine w_newa C X (a0 := (100, .inl (fun _ => 0))) (N' := 100) wn_arr0 (ty := .int) rfl (t0 := 0) rfl (fun _ _ h => ra_int h) (fun _ => rfl) (by decide) (by decide) (Nat.le_of_ble_eq_true rfl) (Nat.le_of_ble_eq_true rfl) (Nat.le_of_ble_eq_true rfl) (dk dcX2_init_0 16 rfl) (fun n3 => ?_)
  refine w_putF C X inX2 tyX2 tyX2_ok nmX2 4 rfl rfl 4 (by decide) wd_165 rfl rfl rfl (ty := .array .int) rfl rfl rfl (by show 4 < 6; decide) (dk dcX2_init_0 17 rfl) (ws' := (n3, .inl (E.2.1 0, 100, .inl ((fun _ => 0)))) :: (n2, .inl (E.2.1 0, 10, .inl ((fun _ => 0)))) :: (n1, .inl (E.2.1 0, 10, .inl ((fun _ => 0)))) :: (n0, .inl (E.2.1 0, 10, .inl ((fun _ => 0)))) :: (h0, .inr (2, [.ref n0, .ref n1, .ref n2, .int 0, .ref n3, .int 0])) :: wx) rfl ?_
  exact w_vretC C (fun k => ([n0, n1, n2, n3] : List Nat).getD k 0) rfl rfl (dk dcX2_init_0 18 rfl)
set_option maxRecDepth 20000 in
set_option maxHeartbeats 8000000 in
theorem mcX4_init {l : Launch} {E : WEt} {wx : va_W} (hup : ∀ a b, E.2.2.2.1 a → a ≤ b → E.2.2.2.1 b) {h0 : Nat} : MC l E yX4_init cX4_init 1 3 3 30 [.ref h0] ((h0, .inr (4, [.null, .null, .null, .int 0])) :: wx) (fun ad => (ad 2, .inl (E.2.1 0, 10, .inl ((fun _ => 0)))) :: (ad 1, .inl (E.2.1 0, 10, .inl ((fun _ => 0)))) :: (ad 0, .inl (E.2.1 0, 10, .inl ((fun _ => 0)))) :: (h0, .inr (4, [.ref (ad 0), .ref (ad 1), .ref (ad 2), .int 0])) :: wx) := by
  refine mc_of hup (by decide +kernel) rfl (Nat.le_of_ble_eq_true rfl) ?_
  intro p e s m args below meth c C X
  replace C : CX p s m args meth c cX4_init 1 RX4 none E := C
  refine vw_sub (lv' := [(0, .ref h0)]) [0] rfl ?_
  refine w_aload_n C 0 (dk dcX4_init_0 0 rfl) rfl rfl ?_
  refine w_objInit C wd_110 (dk dcX4_init_0 1 rfl) (Nat.le_of_ble_eq_true rfl) (Nat.le_of_ble_eq_true rfl) ?_
  refine w_aload_n C 0 (dk dcX4_init_0 2 rfl) rfl rfl ?_
  refine w_bipush C 10 (dk dcX4_init_0 3 rfl) kb_10 ?_
  refine w_newa C X (a0 := (10, .inl (fun _ => 0))) (N' := 10) wn_arr0 (ty := .int) rfl (t0 := 0) rfl (fun _ _ h => ra_int h) (fun _ => rfl) (by decide) (by decide) (Nat.le_of_ble_eq_true rfl) (Nat.le_of_ble_eq_true rfl) (Nat.le_of_ble_eq_true rfl) (dk dcX4_init_0 4 rfl) (fun n0 => ?_)
  refine w_putF C X inX4 tyX4 tyX4_ok nmX4 1 rfl rfl 0 (by decide) wd_111 rfl rfl rfl (ty := .array .int) rfl rfl rfl (by show 0 < 4; decide) (dk dcX4_init_0 5 rfl) (ws' := (n0, .inl (E.2.1 0, 10, .inl ((fun _ => 0)))) :: (h0, .inr (4, [.ref n0, .null, .null, .int 0])) :: wx) rfl ?_
  refine w_aload_n C 0 (dk dcX4_init_0 6 rfl) rfl rfl ?_
  refine w_bipush C 10 (dk dcX4_init_0 7 rfl) kb_10 ?_
  refine w_newa C X (a0 := (10, .inl (fun _ => 0))) (N' := 10) wn_arr0 (ty := .int) rfl (t0 := 0) rfl (fun _ _ h => ra_int h) (fun _ => rfl) (by decide) (by decide) (Nat.le_of_ble_eq_true rfl) (Nat.le_of_ble_eq_true rfl) (Nat.le_of_ble_eq_true rfl) (dk dcX4_init_0 8 rfl) (fun n1 => ?_)
  refine w_putF C X inX4 tyX4 tyX4_ok nmX4 2 rfl rfl 1 (by decide) wd_112 rfl rfl rfl (ty := .array .int) rfl rfl rfl (by show 1 < 4; decide) (dk dcX4_init_0 9 rfl) (ws' := (n1, .inl (E.2.1 0, 10, .inl ((fun _ => 0)))) :: (n0, .inl (E.2.1 0, 10, .inl ((fun _ => 0)))) :: (h0, .inr (4, [.ref n0, .ref n1, .null, .int 0])) :: wx) rfl ?_
  refine w_aload_n C 0 (dk dcX4_init_0 10 rfl) rfl rfl ?_
  refine w_bipush C 10 (dk dcX4_init_0 11 rfl) kb_10 ?_
  refine w_newa C X (a0 := (10, .inl (fun _ => 0))) (N' := 10) wn_arr0 (ty := .int) rfl (t0 := 0) rfl (fun _ _ h => ra_int h) (fun _ => rfl) (by decide) (by decide) (Nat.le_of_ble_eq_true rfl) (Nat.le_of_ble_eq_true rfl) (Nat.le_of_ble_eq_true rfl) (dk dcX4_init_0 12 rfl) (fun n2 => ?_)
  refine w_putF C X inX4 tyX4 tyX4_ok nmX4 3 rfl rfl 2 (by decide) wd_113 rfl rfl rfl (ty := .array .int) rfl rfl rfl (by show 2 < 4; decide) (dk dcX4_init_0 13 rfl) (ws' := (n2, .inl (E.2.1 0, 10, .inl ((fun _ => 0)))) :: (n1, .inl (E.2.1 0, 10, .inl ((fun _ => 0)))) :: (n0, .inl (E.2.1 0, 10, .inl ((fun _ => 0)))) :: (h0, .inr (4, [.ref n0, .ref n1, .ref n2, .int 0])) :: wx) rfl ?_
  exact w_vretC C (fun k => ([n0, n1, n2] : List Nat).getD k 0) rfl rfl (dk dcX4_init_0 14 rfl)
set_option maxRecDepth 20000 in
set_option maxHeartbeats 8000000 in
theorem mcX6_init {l : Launch} {E : WEt} {wx : va_W} (hup : ∀ a b, E.2.2.2.1 a → a ≤ b → E.2.2.2.1 b) {h0 : Nat} : MC l E yX6_init cX6_init 1 3 1 60 [.ref h0] ((h0, .inr (6, [.null, .int 0, .int 0])) :: wx) (fun ad => (ad 0, .inl (E.2.1 1, 60, .inr (.inl ((fun _ => 0))))) :: (h0, .inr (6, [.ref (ad 0), .int ((-1)), .int 0])) :: wx) := by
  refine mc_of hup (by decide +kernel) rfl (Nat.le_of_ble_eq_true rfl) ?_
  intro p e s m args below meth c C X
  replace C : CX p s m args meth c cX6_init 1 RX6 none E := C
  refine vw_sub (lv' := [(0, .ref h0)]) [0] rfl ?_
  refine w_aload_n C 0 (dk dcX6_init_0 0 rfl) rfl rfl ?_
  refine w_objInit C wd_324 (dk dcX6_init_0 1 rfl) (Nat.le_of_ble_eq_true rfl) (Nat.le_of_ble_eq_true rfl) ?_
  refine w_aload_n C 0 (dk dcX6_init_0 2 rfl) rfl rfl ?_
  refine w_bipush C 60 (dk dcX6_init_0 3 rfl) kb_60 ?_
  refine w_newa C X (a0 := (60, .inr (.inl (fun _ => 0)))) (N' := 60) wn_arr1 (ty := .long) rfl (t0 := 1) rfl (fun _ _ h => ra_long h) (fun _ => rfl) (by decide) (by decide) (Nat.le_of_ble_eq_true rfl) (Nat.le_of_ble_eq_true rfl) (Nat.le_of_ble_eq_true rfl) (dk dcX6_init_0 4 rfl) (fun n0 => ?_)
  refine w_putF C X inX6 tyX6 tyX6_ok nmX6 1 rfl rfl 0 (by decide) wd_325 rfl rfl rfl (ty := .array .long) rfl rfl rfl (by show 0 < 3; decide) (dk dcX6_init_0 5 rfl) (ws' := (n0, .inl (E.2.1 1, 60, .inr (.inl ((fun _ => 0))))) :: (h0, .inr (6, [.ref n0, .int 0, .int 0])) :: wx) rfl ?_
  refine w_aload_n C 0 (dk dcX6_init_0 6 rfl) rfl rfl ?_
  refine w_iconst C ((-1)) (dk dcX6_init_0 7 rfl) ki_m1 ?_
  refine w_put C inX6 tyX6 tyX6_ok nmX6 1 rfl rfl 1 (by decide) wd_326 rfl rfl (ty := .int) rfl rfl rfl (by show 1 < 3; decide) (dk dcX6_init_0 8 rfl) (ws' := (n0, .inl (E.2.1 1, 60, .inr (.inl ((fun _ => 0))))) :: (h0, .inr (6, [.ref n0, .int ((-1)), .int 0])) :: wx) rfl ?_
  exact w_vretC C (fun k => ([n0] : List Nat).getD k 0) rfl rfl (dk dcX6_init_0 9 rfl)
set_option maxRecDepth 20000 in
set_option maxHeartbeats 8000000 in
theorem mcX7_init {l : Launch} {E : WEt} {wx : va_W} (hup : ∀ a b, E.2.2.2.1 a → a ≤ b → E.2.2.2.1 b) {h0 : Nat} : MC l E yX7_init cX7_init 1 5 2 102 [.ref h0] ((h0, .inr (7, [.null, .int 0])) :: wx) (fun ad => (ad 1, .inl (E.2.1 0, 100, .inl ((fun _ => 0)))) :: (ad 0, .inr (5, [.ref (ad 1), .int 0])) :: (h0, .inr (7, [.ref (ad 0), .int 0])) :: wx) := by
  refine mc_of hup (by decide +kernel) rfl (Nat.le_of_ble_eq_true rfl) ?_
  intro p e s m args below meth c C X
  replace C : CX p s m args meth c cX7_init 1 RX7 none E := C
  refine vw_sub (lv' := [(0, .ref h0)]) [0] rfl ?_
  refine w_aload_n C 0 (dk dcX7_init_0 0 rfl) rfl rfl ?_
  refine w_objInit C wd_130 (dk dcX7_init_0 1 rfl) (Nat.le_of_ble_eq_true rfl) (Nat.le_of_ble_eq_true rfl) ?_
  refine w_aload_n C 0 (dk dcX7_init_0 2 rfl) rfl rfl ?_
  refine w_new C X inX5 tyX5 tyX5_ok wd_131 wn_instX5 wn_initX5 (ci := 5) rfl (fs := [.null, .int 0]) (by decide +kernel) (Nat.le_of_ble_eq_true rfl) (Nat.le_of_ble_eq_true rfl) (dk dcX7_init_0 3 rfl) (fun n0 => ?_)
  refine w_dup C rfl (dk dcX7_init_0 4 rfl) ?_
  refine w_bipush C 100 (dk dcX7_init_0 5 rfl) kb_100 ?_
  refine w_callI C X.2.2 (mcX5_init_100 hup) wmX5_init rfl wd_133 ⟨Nat.le_of_ble_eq_true rfl, Nat.le_of_ble_eq_true rfl⟩ ⟨Nat.le_of_ble_eq_true rfl, Nat.le_of_ble_eq_true rfl⟩ rfl rfl (Nat.le_of_ble_eq_true rfl) (dk dcX7_init_0 6 rfl) (fun d1 => ?_)
  refine vw_ws (ws' := (d1 0, .inl (E.2.1 0, 100, .inl ((fun _ => 0)))) :: (n0, .inr (5, [.ref (d1 0), .int 0])) :: (h0, .inr (7, [.null, .int 0])) :: wx) rfl ?_
  refine w_putF C X inX7 tyX7 tyX7_ok nmX7 2 rfl rfl 0 (by decide) wd_147 rfl rfl rfl (ty := .object "DonkeyBridge$Strip") rfl rfl rfl (by show 0 < 2; decide) (dk dcX7_init_0 7 rfl) (ws' := (d1 0, .inl (E.2.1 0, 100, .inl ((fun _ => 0)))) :: (n0, .inr (5, [.ref (d1 0), .int 0])) :: (h0, .inr (7, [.ref n0, .int 0])) :: wx) rfl ?_
  exact w_vretC C (fun k => ([n0, d1 0] : List Nat).getD k 0) rfl rfl (dk dcX7_init_0 8 rfl)
set_option maxRecDepth 20000 in
set_option maxHeartbeats 8000000 in
theorem mcX3_init {l : Launch} {E : WEt} {wx : va_W} (hup : ∀ a b, E.2.2.2.1 a → a ≤ b → E.2.2.2.1 b) {h0 : Nat} : MC l E yX3_init cX3_init 1 7 8 50 [.ref h0] ((h0, .inr (3, [.null, .null, .null, .null, .int 0, .int 0])) :: wx) (fun ad => (ad 7, .inl (E.2.1 0, 4, .inl ((fun _ => 0)))) :: (ad 6, .inr (5, [.ref (ad 7), .int 0])) :: (ad 5, .inl (E.2.1 0, 12, .inl ((fun _ => 0)))) :: (ad 4, .inr (5, [.ref (ad 5), .int 0])) :: (ad 3, .inl (E.2.1 0, 12, .inl ((fun _ => 0)))) :: (ad 2, .inr (5, [.ref (ad 3), .int 0])) :: (ad 1, .inl (E.2.1 0, 15, .inl (upd (upd (upd (upd (upd (upd (upd ((fun _ => 0)) (0 : Int32).toNatClampNeg 10) (1 : Int32).toNatClampNeg 10) (2 : Int32).toNatClampNeg 10) (3 : Int32).toNatClampNeg 10) (4 : Int32).toNatClampNeg 10) (5 : Int32).toNatClampNeg 10) (7 : Int32).toNatClampNeg 20))) :: (ad 0, .inr (1, [.ref (ad 1)])) :: (h0, .inr (3, [.ref (ad 0), .ref (ad 2), .ref (ad 4), .ref (ad 6), .int 0, .int ((-1))])) :: wx) := by
  refine mc_of hup (by decide +kernel) rfl (Nat.le_of_ble_eq_true rfl) ?_
  intro p e s m args below meth c C X
  replace C : CX p s m args meth c cX3_init 1 RX3 none E := C
  refine vw_sub (lv' := [(0, .ref h0)]) [0] rfl ?_
  refine w_aload_n C 0 (dk dcX3_init_0 0 rfl) rfl rfl ?_
  refine w_objInit C wd_204 (dk dcX3_init_0 1 rfl) (Nat.le_of_ble_eq_true rfl) (Nat.le_of_ble_eq_true rfl) ?_
  refine w_aload_n C 0 (dk dcX3_init_0 2 rfl) rfl rfl ?_
  refine w_new C X inX1 tyX1 tyX1_ok wd_205 wn_instX1 wn_initX1 (ci := 1) rfl (fs := [.null]) (by decide +kernel) (Nat.le_of_ble_eq_true rfl) (Nat.le_of_ble_eq_true rfl) (dk dcX3_init_0 3 rfl) (fun n0 => ?_)
  refine w_dup C rfl (dk dcX3_init_0 4 rfl) ?_
  refine w_callI C X.2.2 (mcX1_init hup) wmX1_init rfl wd_207 ⟨Nat.le_of_ble_eq_true rfl, Nat.le_of_ble_eq_true rfl⟩ ⟨Nat.le_of_ble_eq_true rfl, Nat.le_of_ble_eq_true rfl⟩ rfl rfl (Nat.le_of_ble_eq_true rfl) (dk dcX3_init_0 5 rfl) (fun d1 => ?_)
  refine vw_ws (ws' := (d1 0, .inl (E.2.1 0, 15, .inl (upd (upd (upd (upd (upd (upd (upd ((fun _ => 0)) (0 : Int32).toNatClampNeg 10) (1 : Int32).toNatClampNeg 10) (2 : Int32).toNatClampNeg 10) (3 : Int32).toNatClampNeg 10) (4 : Int32).toNatClampNeg 10) (5 : Int32).toNatClampNeg 10) (7 : Int32).toNatClampNeg 20))) :: (n0, .inr (1, [.ref (d1 0)])) :: (h0, .inr (3, [.null, .null, .null, .null, .int 0, .int 0])) :: wx) rfl ?_
  refine w_putF C X inX3 tyX3 tyX3_ok nmX3 2 rfl rfl 0 (by decide) wd_225 rfl rfl rfl (ty := .object "DonkeyBridge$Donkey") rfl rfl rfl (by show 0 < 6; decide) (dk dcX3_init_0 6 rfl) (ws' := (d1 0, .inl (E.2.1 0, 15, .inl (upd (upd (upd (upd (upd (upd (upd ((fun _ => 0)) (0 : Int32).toNatClampNeg 10) (1 : Int32).toNatClampNeg 10) (2 : Int32).toNatClampNeg 10) (3 : Int32).toNatClampNeg 10) (4 : Int32).toNatClampNeg 10) (5 : Int32).toNatClampNeg 10) (7 : Int32).toNatClampNeg 20))) :: (n0, .inr (1, [.ref (d1 0)])) :: (h0, .inr (3, [.ref n0, .null, .null, .null, .int 0, .int 0])) :: wx) rfl ?_
  refine w_aload_n C 0 (dk dcX3_init_0 7 rfl) rfl rfl ?_
  refine w_new C X inX5 tyX5 tyX5_ok wd_223 wn_instX5 wn_initX5 (ci := 5) rfl (fs := [.null, .int 0]) (by decide +kernel) (Nat.le_of_ble_eq_true rfl) (Nat.le_of_ble_eq_true rfl) (dk dcX3_init_0 8 rfl) (fun n2 => ?_)
  refine w_dup C rfl (dk dcX3_init_0 9 rfl) ?_
  refine w_bipush C 12 (dk dcX3_init_0 10 rfl) kb_12 ?_
  refine w_callI C X.2.2 (mcX5_init_12 hup) wmX5_init rfl wd_224 ⟨Nat.le_of_ble_eq_true rfl, Nat.le_of_ble_eq_true rfl⟩ ⟨Nat.le_of_ble_eq_true rfl, Nat.le_of_ble_eq_true rfl⟩ rfl rfl (Nat.le_of_ble_eq_true rfl) (dk dcX3_init_0 11 rfl) (fun d3 => ?_)
  refine vw_ws (ws' := (d3 0, .inl (E.2.1 0, 12, .inl ((fun _ => 0)))) :: (n2, .inr (5, [.ref (d3 0), .int 0])) :: (d1 0, .inl (E.2.1 0, 15, .inl (upd (upd (upd (upd (upd (upd (upd ((fun _ => 0)) (0 : Int32).toNatClampNeg 10) (1 : Int32).toNatClampNeg 10) (2 : Int32).toNatClampNeg 10) (3 : Int32).toNatClampNeg 10) (4 : Int32).toNatClampNeg 10) (5 : Int32).toNatClampNeg 10) (7 : Int32).toNatClampNeg 20))) :: (n0, .inr (1, [.ref (d1 0)])) :: (h0, .inr (3, [.ref n0, .null, .null, .null, .int 0, .int 0])) :: wx) rfl ?_
  refine w_putF C X inX3 tyX3 tyX3_ok nmX3 4 rfl rfl 1 (by decide) wd_228 rfl rfl rfl (ty := .object "DonkeyBridge$Strip") rfl rfl rfl (by show 1 < 6; decide) (dk dcX3_init_0 12 rfl) (ws' := (d3 0, .inl (E.2.1 0, 12, .inl ((fun _ => 0)))) :: (n2, .inr (5, [.ref (d3 0), .int 0])) :: (d1 0, .inl (E.2.1 0, 15, .inl (upd (upd (upd (upd (upd (upd (upd ((fun _ => 0)) (0 : Int32).toNatClampNeg 10) (1 : Int32).toNatClampNeg 10) (2 : Int32).toNatClampNeg 10) (3 : Int32).toNatClampNeg 10) (4 : Int32).toNatClampNeg 10) (5 : Int32).toNatClampNeg 10) (7 : Int32).toNatClampNeg 20))) :: (n0, .inr (1, [.ref (d1 0)])) :: (h0, .inr (3, [.ref n0, .ref n2, .null, .null, .int 0, .int 0])) :: wx) rfl ?_
  refine w_aload_n C 0 (dk dcX3_init_0 13 rfl) rfl rfl ?_
  refine w_new C X inX5 tyX5 tyX5_ok wd_223 wn_instX5 wn_initX5 (ci := 5) rfl (fs := [.null, .int 0]) (by decide +kernel) (Nat.le_of_ble_eq_true rfl) (Nat.le_of_ble_eq_true rfl) (dk dcX3_init_0 14 rfl) (fun n4 => ?_)
  refine w_dup C rfl (dk dcX3_init_0 15 rfl) ?_
  refine w_bipush C 12 (dk dcX3_init_0 16 rfl) kb_12 ?_
  refine w_callI C X.2.2 (mcX5_init_12 hup) wmX5_init rfl wd_224 ⟨Nat.le_of_ble_eq_true rfl, Nat.le_of_ble_eq_true rfl⟩ ⟨Nat.le_of_ble_eq_true rfl, Nat.le_of_ble_eq_true rfl⟩ rfl rfl (Nat.le_of_ble_eq_true rfl) (dk dcX3_init_0 17 rfl) (fun d5 => ?_)
  refine vw_ws (ws' := (d5 0, .inl (E.2.1 0, 12, .inl ((fun _ => 0)))) :: (n4, .inr (5, [.ref (d5 0), .int 0])) :: (d3 0, .inl (E.2.1 0, 12, .inl ((fun _ => 0)))) :: (n2, .inr (5, [.ref (d3 0), .int 0])) :: (d1 0, .inl (E.2.1 0, 15, .inl (upd (upd (upd (upd (upd (upd (upd ((fun _ => 0)) (0 : Int32).toNatClampNeg 10) (1 : Int32).toNatClampNeg 10) (2 : Int32).toNatClampNeg 10) (3 : Int32).toNatClampNeg 10) (4 : Int32).toNatClampNeg 10) (5 : Int32).toNatClampNeg 10) (7 : Int32).toNatClampNeg 20))) :: (n0, .inr (1, [.ref (d1 0)])) :: (h0, .inr (3, [.ref n0, .ref n2, .null, .null, .int 0, .int 0])) :: wx) rfl ?_
  refine w_putF C X inX3 tyX3 tyX3_ok nmX3 6 rfl rfl 2 (by decide) wd_231 rfl rfl rfl (ty := .object "DonkeyBridge$Strip") rfl rfl rfl (by show 2 < 6; decide) (dk dcX3_init_0 18 rfl) (ws' := (d5 0, .inl (E.2.1 0, 12, .inl ((fun _ => 0)))) :: (n4, .inr (5, [.ref (d5 0), .int 0])) :: (d3 0, .inl (E.2.1 0, 12, .inl ((fun _ => 0)))) :: (n2, .inr (5, [.ref (d3 0), .int 0])) :: (d1 0, .inl (E.2.1 0, 15, .inl (upd (upd (upd (upd (upd (upd (upd ((fun _ => 0)) (0 : Int32).toNatClampNeg 10) (1 : Int32).toNatClampNeg 10) (2 : Int32).toNatClampNeg 10) (3 : Int32).toNatClampNeg 10) (4 : Int32).toNatClampNeg 10) (5 : Int32).toNatClampNeg 10) (7 : Int32).toNatClampNeg 20))) :: (n0, .inr (1, [.ref (d1 0)])) :: (h0, .inr (3, [.ref n0, .ref n2, .ref n4, .null, .int 0, .int 0])) :: wx) rfl ?_
  refine w_aload_n C 0 (dk dcX3_init_0 19 rfl) rfl rfl ?_
  refine w_new C X inX5 tyX5 tyX5_ok wd_223 wn_instX5 wn_initX5 (ci := 5) rfl (fs := [.null, .int 0]) (by decide +kernel) (Nat.le_of_ble_eq_true rfl) (Nat.le_of_ble_eq_true rfl) (dk dcX3_init_0 20 rfl) (fun n6 => ?_)
  refine w_dup C rfl (dk dcX3_init_0 21 rfl) ?_
  refine w_iconst C 4 (dk dcX3_init_0 22 rfl) ki_4 ?_
  refine w_callI C X.2.2 (mcX5_init_4 hup) wmX5_init rfl wd_224 ⟨Nat.le_of_ble_eq_true rfl, Nat.le_of_ble_eq_true rfl⟩ ⟨Nat.le_of_ble_eq_true rfl, Nat.le_of_ble_eq_true rfl⟩ rfl rfl (Nat.le_of_ble_eq_true rfl) (dk dcX3_init_0 23 rfl) (fun d7 => ?_)
  refine vw_ws (ws' := (d7 0, .inl (E.2.1 0, 4, .inl ((fun _ => 0)))) :: (n6, .inr (5, [.ref (d7 0), .int 0])) :: (d5 0, .inl (E.2.1 0, 12, .inl ((fun _ => 0)))) :: (n4, .inr (5, [.ref (d5 0), .int 0])) :: (d3 0, .inl (E.2.1 0, 12, .inl ((fun _ => 0)))) :: (n2, .inr (5, [.ref (d3 0), .int 0])) :: (d1 0, .inl (E.2.1 0, 15, .inl (upd (upd (upd (upd (upd (upd (upd ((fun _ => 0)) (0 : Int32).toNatClampNeg 10) (1 : Int32).toNatClampNeg 10) (2 : Int32).toNatClampNeg 10) (3 : Int32).toNatClampNeg 10) (4 : Int32).toNatClampNeg 10) (5 : Int32).toNatClampNeg 10) (7 : Int32).toNatClampNeg 20))) :: (n0, .inr (1, [.ref (d1 0)])) :: (h0, .inr (3, [.ref n0, .ref n2, .ref n4, .null, .int 0, .int 0])) :: wx) rfl ?_
  refine w_putF C X inX3 tyX3 tyX3_ok nmX3 8 rfl rfl 3 (by decide) wd_234 rfl rfl rfl (ty := .object "DonkeyBridge$Strip") rfl rfl rfl (by show 3 < 6; decide) (dk dcX3_init_0 24 rfl) (ws' := (d7 0, .inl (E.2.1 0, 4, .inl ((fun _ => 0)))) :: (n6, .inr (5, [.ref (d7 0), .int 0])) :: (d5 0, .inl (E.2.1 0, 12, .inl ((fun _ => 0)))) :: (n4, .inr (5, [.ref (d5 0), .int 0])) :: (d3 0, .inl (E.2.1 0, 12, .inl ((fun _ => 0)))) :: (n2, .inr (5, [.ref (d3 0), .int 0])) :: (d1 0, .inl (E.2.1 0, 15, .inl (upd (upd (upd (upd (upd (upd (upd ((fun _ => 0)) (0 : Int32).toNatClampNeg 10) (1 : Int32).toNatClampNeg 10) (2 : Int32).toNatClampNeg 10) (3 : Int32).toNatClampNeg 10) (4 : Int32).toNatClampNeg 10) (5 : Int32).toNatClampNeg 10) (7 : Int32).toNatClampNeg 20))) :: (n0, .inr (1, [.ref (d1 0)])) :: (h0, .inr (3, [.ref n0, .ref n2, .ref n4, .ref n6, .int 0, .int 0])) :: wx) rfl ?_
  refine w_aload_n C 0 (dk dcX3_init_0 25 rfl) rfl rfl ?_
  refine w_iconst C 0 (dk dcX3_init_0 26 rfl) ki_0 ?_
  refine w_put C inX3 tyX3 tyX3_ok nmX3 8 rfl rfl 4 (by decide) wd_236 rfl rfl (ty := .int) rfl rfl rfl (by show 4 < 6; decide) (dk dcX3_init_0 27 rfl) (ws' := (d7 0, .inl (E.2.1 0, 4, .inl ((fun _ => 0)))) :: (n6, .inr (5, [.ref (d7 0), .int 0])) :: (d5 0, .inl (E.2.1 0, 12, .inl ((fun _ => 0)))) :: (n4, .inr (5, [.ref (d5 0), .int 0])) :: (d3 0, .inl (E.2.1 0, 12, .inl ((fun _ => 0)))) :: (n2, .inr (5, [.ref (d3 0), .int 0])) :: (d1 0, .inl (E.2.1 0, 15, .inl (upd (upd (upd (upd (upd (upd (upd ((fun _ => 0)) (0 : Int32).toNatClampNeg 10) (1 : Int32).toNatClampNeg 10) (2 : Int32).toNatClampNeg 10) (3 : Int32).toNatClampNeg 10) (4 : Int32).toNatClampNeg 10) (5 : Int32).toNatClampNeg 10) (7 : Int32).toNatClampNeg 20))) :: (n0, .inr (1, [.ref (d1 0)])) :: (h0, .inr (3, [.ref n0, .ref n2, .ref n4, .ref n6, .int 0, .int 0])) :: wx) rfl ?_
  refine w_aload_n C 0 (dk dcX3_init_0 28 rfl) rfl rfl ?_
  refine w_iconst C ((-1)) (dk dcX3_init_0 29 rfl) ki_m1 ?_
  refine w_put C inX3 tyX3 tyX3_ok nmX3 8 rfl rfl 5 (by decide) wd_239 rfl rfl (ty := .int) rfl rfl rfl (by show 5 < 6; decide) (dk dcX3_init_0 30 rfl) (ws' := (d7 0, .inl (E.2.1 0, 4, .inl ((fun _ => 0)))) :: (n6, .inr (5, [.ref (d7 0), .int 0])) :: (d5 0, .inl (E.2.1 0, 12, .inl ((fun _ => 0)))) :: (n4, .inr (5, [.ref (d5 0), .int 0])) :: (d3 0, .inl (E.2.1 0, 12, .inl ((fun _ => 0)))) :: (n2, .inr (5, [.ref (d3 0), .int 0])) :: (d1 0, .inl (E.2.1 0, 15, .inl (upd (upd (upd (upd (upd (upd (upd ((fun _ => 0)) (0 : Int32).toNatClampNeg 10) (1 : Int32).toNatClampNeg 10) (2 : Int32).toNatClampNeg 10) (3 : Int32).toNatClampNeg 10) (4 : Int32).toNatClampNeg 10) (5 : Int32).toNatClampNeg 10) (7 : Int32).toNatClampNeg 20))) :: (n0, .inr (1, [.ref (d1 0)])) :: (h0, .inr (3, [.ref n0, .ref n2, .ref n4, .ref n6, .int 0, .int ((-1))])) :: wx) rfl ?_
  exact w_vretC C (fun k => ([n0, d1 0, n2, d3 0, n4, d5 0, n6, d7 0] : List Nat).getD k 0) rfl rfl (dk dcX3_init_0 31 rfl)
set_option maxRecDepth 20000 in
set_option maxHeartbeats 8000000 in
theorem mcX0_init {l : Launch} {E : WEt} {wx : va_W} (hup : ∀ a b, E.2.2.2.1 a → a ≤ b → E.2.2.2.1 b) {h0 : Nat} {r1 : Nat} : MC l E yX0_init cX0_init 2 5 2 22 [.ref h0, .ref r1] ((h0, .inr (0, [.null, .null, .int 0, .int 0, .int 0, .int 0])) :: wx) (fun ad => (ad 1, .inl (E.2.1 0, 20, .inl ((fun _ => 0)))) :: (ad 0, .inr (5, [.ref (ad 1), .int 0])) :: (h0, .inr (0, [.ref r1, .ref (ad 0), .int 0, .int 0, .int 0, .int 0])) :: wx) := by
  refine mc_of hup (by decide +kernel) rfl (Nat.le_of_ble_eq_true rfl) ?_
  intro p e s m args below meth c C X
  replace C : CX p s m args meth c cX0_init 2 RX0 none E := C
  refine vw_sub (lv' := [(0, .ref h0), (1, .ref r1)]) [0, 1] rfl ?_
  refine w_aload_n C 0 (dk dcX0_init_0 0 rfl) rfl rfl ?_
  refine w_objInit C wd_296 (dk dcX0_init_0 1 rfl) (Nat.le_of_ble_eq_true rfl) (Nat.le_of_ble_eq_true rfl) ?_
  refine w_aload_n C 0 (dk dcX0_init_0 2 rfl) rfl rfl ?_
  refine w_new C X inX5 tyX5 tyX5_ok wd_297 wn_instX5 wn_initX5 (ci := 5) rfl (fs := [.null, .int 0]) (by decide +kernel) (Nat.le_of_ble_eq_true rfl) (Nat.le_of_ble_eq_true rfl) (dk dcX0_init_0 3 rfl) (fun n0 => ?_)
  refine w_dup C rfl (dk dcX0_init_0 4 rfl) ?_
  refine w_bipush C 20 (dk dcX0_init_0 5 rfl) kb_20 ?_
  refine w_callI C X.2.2 (mcX5_init_20 hup) wmX5_init rfl wd_298 ⟨Nat.le_of_ble_eq_true rfl, Nat.le_of_ble_eq_true rfl⟩ ⟨Nat.le_of_ble_eq_true rfl, Nat.le_of_ble_eq_true rfl⟩ rfl rfl (Nat.le_of_ble_eq_true rfl) (dk dcX0_init_0 6 rfl) (fun d1 => ?_)
  refine vw_ws (ws' := (d1 0, .inl (E.2.1 0, 20, .inl ((fun _ => 0)))) :: (n0, .inr (5, [.ref (d1 0), .int 0])) :: (h0, .inr (0, [.null, .null, .int 0, .int 0, .int 0, .int 0])) :: wx) rfl ?_
  refine w_putF C X inX0 tyX0 tyX0_ok nmX0 2 rfl rfl 1 (by decide) wd_300 rfl rfl rfl (ty := .object "DonkeyBridge$Strip") rfl rfl rfl (by show 1 < 6; decide) (dk dcX0_init_0 7 rfl) (ws' := (d1 0, .inl (E.2.1 0, 20, .inl ((fun _ => 0)))) :: (n0, .inr (5, [.ref (d1 0), .int 0])) :: (h0, .inr (0, [.null, .ref n0, .int 0, .int 0, .int 0, .int 0])) :: wx) rfl ?_
  refine w_aload_n C 0 (dk dcX0_init_0 8 rfl) rfl rfl ?_
  refine w_aload_n C 1 (dk dcX0_init_0 9 rfl) rfl rfl ?_
  refine w_putF C X inX0 tyX0 tyX0_ok nmX0 2 rfl rfl 0 (by decide) wd_299 rfl rfl rfl (ty := .object "DonkeyBridge$Road") rfl rfl rfl (by show 0 < 6; decide) (dk dcX0_init_0 10 rfl) (ws' := (d1 0, .inl (E.2.1 0, 20, .inl ((fun _ => 0)))) :: (n0, .inr (5, [.ref (d1 0), .int 0])) :: (h0, .inr (0, [.ref r1, .ref n0, .int 0, .int 0, .int 0, .int 0])) :: wx) rfl ?_
  exact w_vretC C (fun k => ([n0, d1 0] : List Nat).getD k 0) rfl rfl (dk dcX0_init_0 11 rfl)
set_option maxRecDepth 20000 in
set_option maxHeartbeats 8000000 in
theorem mcX9_init {l : Launch} {E : WEt} {wx : va_W} (hup : ∀ a b, E.2.2.2.1 a → a ≤ b → E.2.2.2.1 b) {h0 : Nat} {r1 : Nat} {r2 : Nat} : MC l E yX9_init cX9_init 3 3 2 16 [.ref h0, .ref r1, .ref r2] ((h0, .inr (9, [.null, .null, .null, .null])) :: wx) (fun ad => (ad 1, .inl (E.2.1 0, 7, .inl ((fun _ => 0)))) :: (ad 0, .inl (E.2.1 0, 9, .inl ((fun _ => 0)))) :: (h0, .inr (9, [.ref r1, .ref r2, .ref (ad 0), .ref (ad 1)])) :: wx) := by
  refine mc_of hup (by decide +kernel) rfl (Nat.le_of_ble_eq_true rfl) ?_
  intro p e s m args below meth c C X
  replace C : CX p s m args meth c cX9_init 3 RX9 none E := C
  refine vw_sub (lv' := [(0, .ref h0), (1, .ref r1), (2, .ref r2)]) [0, 1, 2] rfl ?_
  refine w_aload_n C 0 (dk dcX9_init_0 0 rfl) rfl rfl ?_
  refine w_objInit C wd_185 (dk dcX9_init_0 1 rfl) (Nat.le_of_ble_eq_true rfl) (Nat.le_of_ble_eq_true rfl) ?_
  refine w_aload_n C 0 (dk dcX9_init_0 2 rfl) rfl rfl ?_
  refine w_bipush C 9 (dk dcX9_init_0 3 rfl) kb_9 ?_
  refine w_newa C X (a0 := (9, .inl (fun _ => 0))) (N' := 9) wn_arr0 (ty := .int) rfl (t0 := 0) rfl (fun _ _ h => ra_int h) (fun _ => rfl) (by decide) (by decide) (Nat.le_of_ble_eq_true rfl) (Nat.le_of_ble_eq_true rfl) (Nat.le_of_ble_eq_true rfl) (dk dcX9_init_0 4 rfl) (fun n0 => ?_)
  refine w_putF C X inX9 tyX9 tyX9_ok nmX9 1 rfl rfl 2 (by decide) wd_188 rfl rfl rfl (ty := .array .int) rfl rfl rfl (by show 2 < 4; decide) (dk dcX9_init_0 5 rfl) (ws' := (n0, .inl (E.2.1 0, 9, .inl ((fun _ => 0)))) :: (h0, .inr (9, [.null, .null, .ref n0, .null])) :: wx) rfl ?_
  refine w_aload_n C 0 (dk dcX9_init_0 6 rfl) rfl rfl ?_
  refine w_bipush C 7 (dk dcX9_init_0 7 rfl) kb_7 ?_
  refine w_newa C X (a0 := (7, .inl (fun _ => 0))) (N' := 7) wn_arr0 (ty := .int) rfl (t0 := 0) rfl (fun _ _ h => ra_int h) (fun _ => rfl) (by decide) (by decide) (Nat.le_of_ble_eq_true rfl) (Nat.le_of_ble_eq_true rfl) (Nat.le_of_ble_eq_true rfl) (dk dcX9_init_0 8 rfl) (fun n1 => ?_)
  refine w_putF C X inX9 tyX9 tyX9_ok nmX9 2 rfl rfl 3 (by decide) wd_189 rfl rfl rfl (ty := .array .int) rfl rfl rfl (by show 3 < 4; decide) (dk dcX9_init_0 9 rfl) (ws' := (n1, .inl (E.2.1 0, 7, .inl ((fun _ => 0)))) :: (n0, .inl (E.2.1 0, 9, .inl ((fun _ => 0)))) :: (h0, .inr (9, [.null, .null, .ref n0, .ref n1])) :: wx) rfl ?_
  refine w_aload_n C 0 (dk dcX9_init_0 10 rfl) rfl rfl ?_
  refine w_aload_n C 1 (dk dcX9_init_0 11 rfl) rfl rfl ?_
  refine w_putF C X inX9 tyX9 tyX9_ok nmX9 2 rfl rfl 0 (by decide) wd_186 rfl rfl rfl (ty := .object "DonkeyBridge$Road") rfl rfl rfl (by show 0 < 4; decide) (dk dcX9_init_0 12 rfl) (ws' := (n1, .inl (E.2.1 0, 7, .inl ((fun _ => 0)))) :: (n0, .inl (E.2.1 0, 9, .inl ((fun _ => 0)))) :: (h0, .inr (9, [.ref r1, .null, .ref n0, .ref n1])) :: wx) rfl ?_
  refine w_aload_n C 0 (dk dcX9_init_0 13 rfl) rfl rfl ?_
  refine w_aload_n C 2 (dk dcX9_init_0 14 rfl) rfl rfl ?_
  refine w_put C inX9 tyX9 tyX9_ok nmX9 2 rfl rfl 1 (by decide) wd_187 rfl rfl (ty := .object "DonkeyBridge$Law") rfl rfl rfl (by show 1 < 4; decide) (dk dcX9_init_0 15 rfl) (ws' := (n1, .inl (E.2.1 0, 7, .inl ((fun _ => 0)))) :: (n0, .inl (E.2.1 0, 9, .inl ((fun _ => 0)))) :: (h0, .inr (9, [.ref r1, .ref r2, .ref n0, .ref n1])) :: wx) rfl ?_
  exact w_vretC C (fun k => ([n0, n1] : List Nat).getD k 0) rfl rfl (dk dcX9_init_0 16 rfl)
set_option maxRecDepth 20000 in
set_option maxHeartbeats 8000000 in
theorem mcX8_init {l : Launch} {E : WEt} {wx : va_W} (hup : ∀ a b, E.2.2.2.1 a → a ≤ b → E.2.2.2.1 b) {h0 : Nat} {r1 : Nat} {r2 : Nat} : MC l E yX8_init cX8_init 4 7 19 143 [.ref h0, .ref r1, .ref r2] ((h0, .inr (8, [.null, .null, .null, .null, .null, .null, .int 0, .int 0, .int 0])) :: wx) (fun ad => (ad 18, .inl (E.2.1 0, 15, .inl (upd (upd (upd (upd (upd (upd (upd ((fun _ => 0)) (0 : Int32).toNatClampNeg 10) (1 : Int32).toNatClampNeg 10) (2 : Int32).toNatClampNeg 10) (3 : Int32).toNatClampNeg 10) (4 : Int32).toNatClampNeg 10) (5 : Int32).toNatClampNeg 10) (7 : Int32).toNatClampNeg 20))) :: (ad 17, .inr (1, [.ref (ad 18)])) :: (ad 16, .inl (E.2.1 0, 15, .inl (upd (upd (upd (upd (upd (upd (upd ((fun _ => 0)) (0 : Int32).toNatClampNeg 10) (1 : Int32).toNatClampNeg 10) (2 : Int32).toNatClampNeg 10) (3 : Int32).toNatClampNeg 10) (4 : Int32).toNatClampNeg 10) (5 : Int32).toNatClampNeg 10) (7 : Int32).toNatClampNeg 20))) :: (ad 15, .inr (1, [.ref (ad 16)])) :: (ad 14, .inl (E.2.1 0, 15, .inl (upd (upd (upd (upd (upd (upd (upd ((fun _ => 0)) (0 : Int32).toNatClampNeg 10) (1 : Int32).toNatClampNeg 10) (2 : Int32).toNatClampNeg 10) (3 : Int32).toNatClampNeg 10) (4 : Int32).toNatClampNeg 10) (5 : Int32).toNatClampNeg 10) (7 : Int32).toNatClampNeg 20))) :: (ad 13, .inr (1, [.ref (ad 14)])) :: (ad 12, .inl (E.2.1 0, 15, .inl (upd (upd (upd (upd (upd (upd (upd ((fun _ => 0)) (0 : Int32).toNatClampNeg 10) (1 : Int32).toNatClampNeg 10) (2 : Int32).toNatClampNeg 10) (3 : Int32).toNatClampNeg 10) (4 : Int32).toNatClampNeg 10) (5 : Int32).toNatClampNeg 10) (7 : Int32).toNatClampNeg 20))) :: (ad 11, .inr (1, [.ref (ad 12)])) :: (ad 10, .inl (E.2.1 0, 15, .inl (upd (upd (upd (upd (upd (upd (upd ((fun _ => 0)) (0 : Int32).toNatClampNeg 10) (1 : Int32).toNatClampNeg 10) (2 : Int32).toNatClampNeg 10) (3 : Int32).toNatClampNeg 10) (4 : Int32).toNatClampNeg 10) (5 : Int32).toNatClampNeg 10) (7 : Int32).toNatClampNeg 20))) :: (ad 9, .inr (1, [.ref (ad 10)])) :: (ad 8, .inl (E.2.1 0, 15, .inl (upd (upd (upd (upd (upd (upd (upd ((fun _ => 0)) (0 : Int32).toNatClampNeg 10) (1 : Int32).toNatClampNeg 10) (2 : Int32).toNatClampNeg 10) (3 : Int32).toNatClampNeg 10) (4 : Int32).toNatClampNeg 10) (5 : Int32).toNatClampNeg 10) (7 : Int32).toNatClampNeg 20))) :: (ad 7, .inr (1, [.ref (ad 8)])) :: (ad 6, .inl (E.2.1 0, 15, .inl (upd (upd (upd (upd (upd (upd (upd ((fun _ => 0)) (0 : Int32).toNatClampNeg 10) (1 : Int32).toNatClampNeg 10) (2 : Int32).toNatClampNeg 10) (3 : Int32).toNatClampNeg 10) (4 : Int32).toNatClampNeg 10) (5 : Int32).toNatClampNeg 10) (7 : Int32).toNatClampNeg 20))) :: (ad 5, .inr (1, [.ref (ad 6)])) :: (ad 4, .inl (E.2.1 0, 4, .inl ((fun _ => 0)))) :: (ad 3, .inl (E.2.1 0, 4, .inl ((fun _ => 0)))) :: (ad 2, .inl (E.2.1 0, 15, .inl (upd (upd (upd (upd (upd (upd (upd ((fun _ => 0)) (0 : Int32).toNatClampNeg 10) (1 : Int32).toNatClampNeg 10) (2 : Int32).toNatClampNeg 10) (3 : Int32).toNatClampNeg 10) (4 : Int32).toNatClampNeg 10) (5 : Int32).toNatClampNeg 10) (7 : Int32).toNatClampNeg 20))) :: (ad 1, .inr (1, [.ref (ad 2)])) :: (ad 0, .inl (E.2.1 6, 7, .inr (.inr (.inr (.inr (va_up (va_up (va_up (va_up (va_up (va_up (va_up ((fun _ => none)) (0 : Int32).toNatClampNeg (some (ad 5))) (1 : Int32).toNatClampNeg (some (ad 7))) (2 : Int32).toNatClampNeg (some (ad 9))) (3 : Int32).toNatClampNeg (some (ad 11))) (4 : Int32).toNatClampNeg (some (ad 13))) (5 : Int32).toNatClampNeg (some (ad 15))) (6 : Int32).toNatClampNeg (some (ad 17)))))))) :: (h0, .inr (8, [.ref r1, .ref r2, .ref (ad 0), .ref (ad 1), .ref (ad 3), .ref (ad 4), .int 0, .int 0, .int 0])) :: wx) := by
  refine mc_of hup (by decide +kernel) rfl (Nat.le_of_ble_eq_true rfl) ?_
  intro p e s m args below meth c C X
  replace C : CX p s m args meth c cX8_init 4 RX8 none E := C
  refine vw_sub (lv' := [(0, .ref h0), (1, .ref r1), (2, .ref r2)]) [0, 1, 2] rfl ?_
  refine w_aload_n C 0 (dk dcX8_init_0 0 rfl) rfl rfl ?_
  refine w_objInit C wd_259 (dk dcX8_init_0 1 rfl) (Nat.le_of_ble_eq_true rfl) (Nat.le_of_ble_eq_true rfl) ?_
  refine w_aload_n C 0 (dk dcX8_init_0 2 rfl) rfl rfl ?_
  refine w_bipush C 7 (dk dcX8_init_0 3 rfl) kb_7 ?_
  refine w_newq C X (N' := 7) wd_260 X.2.2.2.2.2 (t0 := 6) rfl (by decide) (by decide) (Nat.le_of_ble_eq_true rfl) (Nat.le_of_ble_eq_true rfl) (Nat.le_of_ble_eq_true rfl) (dk dcX8_init_0 4 rfl) (fun n0 => ?_)
  refine w_putF C X inX8 tyX8 tyX8_ok nmX8 1 rfl rfl 2 (by decide) wd_265 rfl rfl rfl (ty := .array (.object "DonkeyBridge$Donkey")) rfl rfl rfl (by show 2 < 9; decide) (dk dcX8_init_0 5 rfl) (ws' := (n0, .inl (E.2.1 6, 7, .inr (.inr (.inr (.inr ((fun _ => none))))))) :: (h0, .inr (8, [.null, .null, .ref n0, .null, .null, .null, .int 0, .int 0, .int 0])) :: wx) rfl ?_
  refine w_aload_n C 0 (dk dcX8_init_0 6 rfl) rfl rfl ?_
  refine w_new C X inX1 tyX1 tyX1_ok wd_260 wn_instX1 wn_initX1 (ci := 1) rfl (fs := [.null]) (by decide +kernel) (Nat.le_of_ble_eq_true rfl) (Nat.le_of_ble_eq_true rfl) (dk dcX8_init_0 7 rfl) (fun n1 => ?_)
  refine w_dup C rfl (dk dcX8_init_0 8 rfl) ?_
  refine w_callI C X.2.2 (mcX1_init hup) wmX1_init rfl wd_262 ⟨Nat.le_of_ble_eq_true rfl, Nat.le_of_ble_eq_true rfl⟩ ⟨Nat.le_of_ble_eq_true rfl, Nat.le_of_ble_eq_true rfl⟩ rfl rfl (Nat.le_of_ble_eq_true rfl) (dk dcX8_init_0 9 rfl) (fun d2 => ?_)
  refine vw_ws (ws' := (d2 0, .inl (E.2.1 0, 15, .inl (upd (upd (upd (upd (upd (upd (upd ((fun _ => 0)) (0 : Int32).toNatClampNeg 10) (1 : Int32).toNatClampNeg 10) (2 : Int32).toNatClampNeg 10) (3 : Int32).toNatClampNeg 10) (4 : Int32).toNatClampNeg 10) (5 : Int32).toNatClampNeg 10) (7 : Int32).toNatClampNeg 20))) :: (n1, .inr (1, [.ref (d2 0)])) :: (n0, .inl (E.2.1 6, 7, .inr (.inr (.inr (.inr ((fun _ => none))))))) :: (h0, .inr (8, [.null, .null, .ref n0, .null, .null, .null, .int 0, .int 0, .int 0])) :: wx) rfl ?_
  refine w_putF C X inX8 tyX8 tyX8_ok nmX8 3 rfl rfl 3 (by decide) wd_266 rfl rfl rfl (ty := .object "DonkeyBridge$Donkey") rfl rfl rfl (by show 3 < 9; decide) (dk dcX8_init_0 10 rfl) (ws' := (d2 0, .inl (E.2.1 0, 15, .inl (upd (upd (upd (upd (upd (upd (upd ((fun _ => 0)) (0 : Int32).toNatClampNeg 10) (1 : Int32).toNatClampNeg 10) (2 : Int32).toNatClampNeg 10) (3 : Int32).toNatClampNeg 10) (4 : Int32).toNatClampNeg 10) (5 : Int32).toNatClampNeg 10) (7 : Int32).toNatClampNeg 20))) :: (n1, .inr (1, [.ref (d2 0)])) :: (n0, .inl (E.2.1 6, 7, .inr (.inr (.inr (.inr ((fun _ => none))))))) :: (h0, .inr (8, [.null, .null, .ref n0, .ref n1, .null, .null, .int 0, .int 0, .int 0])) :: wx) rfl ?_
  refine w_aload_n C 0 (dk dcX8_init_0 11 rfl) rfl rfl ?_
  refine w_iconst C 4 (dk dcX8_init_0 12 rfl) ki_4 ?_
  refine w_newa C X (a0 := (4, .inl (fun _ => 0))) (N' := 4) wn_arr0 (ty := .int) rfl (t0 := 0) rfl (fun _ _ h => ra_int h) (fun _ => rfl) (by decide) (by decide) (Nat.le_of_ble_eq_true rfl) (Nat.le_of_ble_eq_true rfl) (Nat.le_of_ble_eq_true rfl) (dk dcX8_init_0 13 rfl) (fun n3 => ?_)
  refine w_putF C X inX8 tyX8 tyX8_ok nmX8 4 rfl rfl 4 (by decide) wd_267 rfl rfl rfl (ty := .array .int) rfl rfl rfl (by show 4 < 9; decide) (dk dcX8_init_0 14 rfl) (ws' := (n3, .inl (E.2.1 0, 4, .inl ((fun _ => 0)))) :: (d2 0, .inl (E.2.1 0, 15, .inl (upd (upd (upd (upd (upd (upd (upd ((fun _ => 0)) (0 : Int32).toNatClampNeg 10) (1 : Int32).toNatClampNeg 10) (2 : Int32).toNatClampNeg 10) (3 : Int32).toNatClampNeg 10) (4 : Int32).toNatClampNeg 10) (5 : Int32).toNatClampNeg 10) (7 : Int32).toNatClampNeg 20))) :: (n1, .inr (1, [.ref (d2 0)])) :: (n0, .inl (E.2.1 6, 7, .inr (.inr (.inr (.inr ((fun _ => none))))))) :: (h0, .inr (8, [.null, .null, .ref n0, .ref n1, .ref n3, .null, .int 0, .int 0, .int 0])) :: wx) rfl ?_
  refine w_aload_n C 0 (dk dcX8_init_0 15 rfl) rfl rfl ?_
  refine w_iconst C 4 (dk dcX8_init_0 16 rfl) ki_4 ?_
  refine w_newa C X (a0 := (4, .inl (fun _ => 0))) (N' := 4) wn_arr0 (ty := .int) rfl (t0 := 0) rfl (fun _ _ h => ra_int h) (fun _ => rfl) (by decide) (by decide) (Nat.le_of_ble_eq_true rfl) (Nat.le_of_ble_eq_true rfl) (Nat.le_of_ble_eq_true rfl) (dk dcX8_init_0 17 rfl) (fun n4 => ?_)
  refine w_putF C X inX8 tyX8 tyX8_ok nmX8 5 rfl rfl 5 (by decide) wd_268 rfl rfl rfl (ty := .array .int) rfl rfl rfl (by show 5 < 9; decide) (dk dcX8_init_0 18 rfl) (ws' := (n4, .inl (E.2.1 0, 4, .inl ((fun _ => 0)))) :: (n3, .inl (E.2.1 0, 4, .inl ((fun _ => 0)))) :: (d2 0, .inl (E.2.1 0, 15, .inl (upd (upd (upd (upd (upd (upd (upd ((fun _ => 0)) (0 : Int32).toNatClampNeg 10) (1 : Int32).toNatClampNeg 10) (2 : Int32).toNatClampNeg 10) (3 : Int32).toNatClampNeg 10) (4 : Int32).toNatClampNeg 10) (5 : Int32).toNatClampNeg 10) (7 : Int32).toNatClampNeg 20))) :: (n1, .inr (1, [.ref (d2 0)])) :: (n0, .inl (E.2.1 6, 7, .inr (.inr (.inr (.inr ((fun _ => none))))))) :: (h0, .inr (8, [.null, .null, .ref n0, .ref n1, .ref n3, .ref n4, .int 0, .int 0, .int 0])) :: wx) rfl ?_
  refine w_aload_n C 0 (dk dcX8_init_0 19 rfl) rfl rfl ?_
  refine w_aload_n C 1 (dk dcX8_init_0 20 rfl) rfl rfl ?_
  refine w_putF C X inX8 tyX8 tyX8_ok nmX8 5 rfl rfl 0 (by decide) wd_263 rfl rfl rfl (ty := .object "DonkeyBridge$Walk") rfl rfl rfl (by show 0 < 9; decide) (dk dcX8_init_0 21 rfl) (ws' := (n4, .inl (E.2.1 0, 4, .inl ((fun _ => 0)))) :: (n3, .inl (E.2.1 0, 4, .inl ((fun _ => 0)))) :: (d2 0, .inl (E.2.1 0, 15, .inl (upd (upd (upd (upd (upd (upd (upd ((fun _ => 0)) (0 : Int32).toNatClampNeg 10) (1 : Int32).toNatClampNeg 10) (2 : Int32).toNatClampNeg 10) (3 : Int32).toNatClampNeg 10) (4 : Int32).toNatClampNeg 10) (5 : Int32).toNatClampNeg 10) (7 : Int32).toNatClampNeg 20))) :: (n1, .inr (1, [.ref (d2 0)])) :: (n0, .inl (E.2.1 6, 7, .inr (.inr (.inr (.inr ((fun _ => none))))))) :: (h0, .inr (8, [.ref r1, .null, .ref n0, .ref n1, .ref n3, .ref n4, .int 0, .int 0, .int 0])) :: wx) rfl ?_
  refine w_aload_n C 0 (dk dcX8_init_0 22 rfl) rfl rfl ?_
  refine w_aload_n C 2 (dk dcX8_init_0 23 rfl) rfl rfl ?_
  refine w_putF C X inX8 tyX8 tyX8_ok nmX8 5 rfl rfl 1 (by decide) wd_264 rfl rfl rfl (ty := .object "DonkeyBridge$Moment") rfl rfl rfl (by show 1 < 9; decide) (dk dcX8_init_0 24 rfl) (ws' := (n4, .inl (E.2.1 0, 4, .inl ((fun _ => 0)))) :: (n3, .inl (E.2.1 0, 4, .inl ((fun _ => 0)))) :: (d2 0, .inl (E.2.1 0, 15, .inl (upd (upd (upd (upd (upd (upd (upd ((fun _ => 0)) (0 : Int32).toNatClampNeg 10) (1 : Int32).toNatClampNeg 10) (2 : Int32).toNatClampNeg 10) (3 : Int32).toNatClampNeg 10) (4 : Int32).toNatClampNeg 10) (5 : Int32).toNatClampNeg 10) (7 : Int32).toNatClampNeg 20))) :: (n1, .inr (1, [.ref (d2 0)])) :: (n0, .inl (E.2.1 6, 7, .inr (.inr (.inr (.inr ((fun _ => none))))))) :: (h0, .inr (8, [.ref r1, .ref r2, .ref n0, .ref n1, .ref n3, .ref n4, .int 0, .int 0, .int 0])) :: wx) rfl ?_
  refine w_iconst C 0 (dk dcX8_init_0 25 rfl) ki_0 ?_
  refine w_istore_n C (lv' := [(3, .int 0), (0, .ref h0), (1, .ref r1), (2, .ref r2)]) (dk dcX8_init_0 26 rfl) rfl (by decide) rfl ?_
  refine w_iload_n C 0 (dk dcX8_init_0 27 rfl) rfl rfl ?_
  refine w_aload_n C 1 (dk dcX8_init_0 28 rfl) rfl rfl ?_
  refine w_get C inX8 5 rfl rfl 2 (by decide) wd_265 rfl rfl (dk dcX8_init_0 29 rfl) ?_
  refine w_alen C (t0 := 6) rfl 4 rfl (v := 7) rfl (dk dcX8_init_0 30 rfl) ?_
  refine w_icmp_ge C 78 (dk dcX8_init_0 31 rfl) (by decide) (fun h => absurd h (by decide)) (fun _ => ?_)
  refine w_aload_n C 1 (dk dcX8_init_0 32 rfl) rfl rfl ?_
  refine w_get C inX8 5 rfl rfl 2 (by decide) wd_265 rfl rfl (dk dcX8_init_0 33 rfl) ?_
  refine w_iload_n C 0 (dk dcX8_init_0 34 rfl) rfl rfl ?_
  refine w_new C X inX1 tyX1 tyX1_ok wd_260 wn_instX1 wn_initX1 (ci := 1) rfl (fs := [.null]) (by decide +kernel) (Nat.le_of_ble_eq_true rfl) (Nat.le_of_ble_eq_true rfl) (dk dcX8_init_0 35 rfl) (fun n5 => ?_)
  refine w_dup C rfl (dk dcX8_init_0 36 rfl) ?_
  refine w_callI C X.2.2 (mcX1_init hup) wmX1_init rfl wd_262 ⟨Nat.le_of_ble_eq_true rfl, Nat.le_of_ble_eq_true rfl⟩ ⟨Nat.le_of_ble_eq_true rfl, Nat.le_of_ble_eq_true rfl⟩ rfl rfl (Nat.le_of_ble_eq_true rfl) (dk dcX8_init_0 37 rfl) (fun d6 => ?_)
  refine vw_ws (ws' := (d6 0, .inl (E.2.1 0, 15, .inl (upd (upd (upd (upd (upd (upd (upd ((fun _ => 0)) (0 : Int32).toNatClampNeg 10) (1 : Int32).toNatClampNeg 10) (2 : Int32).toNatClampNeg 10) (3 : Int32).toNatClampNeg 10) (4 : Int32).toNatClampNeg 10) (5 : Int32).toNatClampNeg 10) (7 : Int32).toNatClampNeg 20))) :: (n5, .inr (1, [.ref (d6 0)])) :: (n4, .inl (E.2.1 0, 4, .inl ((fun _ => 0)))) :: (n3, .inl (E.2.1 0, 4, .inl ((fun _ => 0)))) :: (d2 0, .inl (E.2.1 0, 15, .inl (upd (upd (upd (upd (upd (upd (upd ((fun _ => 0)) (0 : Int32).toNatClampNeg 10) (1 : Int32).toNatClampNeg 10) (2 : Int32).toNatClampNeg 10) (3 : Int32).toNatClampNeg 10) (4 : Int32).toNatClampNeg 10) (5 : Int32).toNatClampNeg 10) (7 : Int32).toNatClampNeg 20))) :: (n1, .inr (1, [.ref (d2 0)])) :: (n0, .inl (E.2.1 6, 7, .inr (.inr (.inr (.inr ((fun _ => none))))))) :: (h0, .inr (8, [.ref r1, .ref r2, .ref n0, .ref n1, .ref n3, .ref n4, .int 0, .int 0, .int 0])) :: wx) rfl ?_
  refine w_astq C (t0 := 6) (r := (RX1, TX1, 1)) (qk := 1) rfl 6 rfl rfl rfl (inB_in (by decide)) (dk dcX8_init_0 38 rfl) (ws' := (d6 0, .inl (E.2.1 0, 15, .inl (upd (upd (upd (upd (upd (upd (upd ((fun _ => 0)) (0 : Int32).toNatClampNeg 10) (1 : Int32).toNatClampNeg 10) (2 : Int32).toNatClampNeg 10) (3 : Int32).toNatClampNeg 10) (4 : Int32).toNatClampNeg 10) (5 : Int32).toNatClampNeg 10) (7 : Int32).toNatClampNeg 20))) :: (n5, .inr (1, [.ref (d6 0)])) :: (n4, .inl (E.2.1 0, 4, .inl ((fun _ => 0)))) :: (n3, .inl (E.2.1 0, 4, .inl ((fun _ => 0)))) :: (d2 0, .inl (E.2.1 0, 15, .inl (upd (upd (upd (upd (upd (upd (upd ((fun _ => 0)) (0 : Int32).toNatClampNeg 10) (1 : Int32).toNatClampNeg 10) (2 : Int32).toNatClampNeg 10) (3 : Int32).toNatClampNeg 10) (4 : Int32).toNatClampNeg 10) (5 : Int32).toNatClampNeg 10) (7 : Int32).toNatClampNeg 20))) :: (n1, .inr (1, [.ref (d2 0)])) :: (n0, .inl (E.2.1 6, 7, .inr (.inr (.inr (.inr (va_up ((fun _ => none)) (0 : Int32).toNatClampNeg (some (n5)))))))) :: (h0, .inr (8, [.ref r1, .ref r2, .ref n0, .ref n1, .ref n3, .ref n4, .int 0, .int 0, .int 0])) :: wx) rfl ?_
  refine w_iinc C (lv' := [(3, .int 1), (0, .ref h0), (1, .ref r1), (2, .ref r2)]) 1 0 (dk dcX8_init_0 39 rfl) rfl (by decide) (by decide) rfl ?_
  refine w_goto C 50 (dk dcX8_init_0 40 rfl) (by decide) ?_
  refine w_iload_n C 0 (dk dcX8_init_0 27 rfl) rfl rfl ?_
  refine w_aload_n C 1 (dk dcX8_init_0 28 rfl) rfl rfl ?_
  refine w_get C inX8 7 rfl rfl 2 (by decide) wd_265 rfl rfl (dk dcX8_init_0 29 rfl) ?_
  refine w_alen C (t0 := 6) rfl 6 rfl (v := 7) rfl (dk dcX8_init_0 30 rfl) ?_
  refine w_icmp_ge C 78 (dk dcX8_init_0 31 rfl) (by decide) (fun h => absurd h (by decide)) (fun _ => ?_)
  refine w_aload_n C 1 (dk dcX8_init_0 32 rfl) rfl rfl ?_
  refine w_get C inX8 7 rfl rfl 2 (by decide) wd_265 rfl rfl (dk dcX8_init_0 33 rfl) ?_
  refine w_iload_n C 0 (dk dcX8_init_0 34 rfl) rfl rfl ?_
  refine w_new C X inX1 tyX1 tyX1_ok wd_260 wn_instX1 wn_initX1 (ci := 1) rfl (fs := [.null]) (by decide +kernel) (Nat.le_of_ble_eq_true rfl) (Nat.le_of_ble_eq_true rfl) (dk dcX8_init_0 35 rfl) (fun n7 => ?_)
  refine w_dup C rfl (dk dcX8_init_0 36 rfl) ?_
  refine w_callI C X.2.2 (mcX1_init hup) wmX1_init rfl wd_262 ⟨Nat.le_of_ble_eq_true rfl, Nat.le_of_ble_eq_true rfl⟩ ⟨Nat.le_of_ble_eq_true rfl, Nat.le_of_ble_eq_true rfl⟩ rfl rfl (Nat.le_of_ble_eq_true rfl) (dk dcX8_init_0 37 rfl) (fun d8 => ?_)
  refine vw_ws (ws' := (d8 0, .inl (E.2.1 0, 15, .inl (upd (upd (upd (upd (upd (upd (upd ((fun _ => 0)) (0 : Int32).toNatClampNeg 10) (1 : Int32).toNatClampNeg 10) (2 : Int32).toNatClampNeg 10) (3 : Int32).toNatClampNeg 10) (4 : Int32).toNatClampNeg 10) (5 : Int32).toNatClampNeg 10) (7 : Int32).toNatClampNeg 20))) :: (n7, .inr (1, [.ref (d8 0)])) :: (d6 0, .inl (E.2.1 0, 15, .inl (upd (upd (upd (upd (upd (upd (upd ((fun _ => 0)) (0 : Int32).toNatClampNeg 10) (1 : Int32).toNatClampNeg 10) (2 : Int32).toNatClampNeg 10) (3 : Int32).toNatClampNeg 10) (4 : Int32).toNatClampNeg 10) (5 : Int32).toNatClampNeg 10) (7 : Int32).toNatClampNeg 20))) :: (n5, .inr (1, [.ref (d6 0)])) :: (n4, .inl (E.2.1 0, 4, .inl ((fun _ => 0)))) :: (n3, .inl (E.2.1 0, 4, .inl ((fun _ => 0)))) :: (d2 0, .inl (E.2.1 0, 15, .inl (upd (upd (upd (upd (upd (upd (upd ((fun _ => 0)) (0 : Int32).toNatClampNeg 10) (1 : Int32).toNatClampNeg 10) (2 : Int32).toNatClampNeg 10) (3 : Int32).toNatClampNeg 10) (4 : Int32).toNatClampNeg 10) (5 : Int32).toNatClampNeg 10) (7 : Int32).toNatClampNeg 20))) :: (n1, .inr (1, [.ref (d2 0)])) :: (n0, .inl (E.2.1 6, 7, .inr (.inr (.inr (.inr (va_up ((fun _ => none)) (0 : Int32).toNatClampNeg (some (n5)))))))) :: (h0, .inr (8, [.ref r1, .ref r2, .ref n0, .ref n1, .ref n3, .ref n4, .int 0, .int 0, .int 0])) :: wx) rfl ?_
  refine w_astq C (t0 := 6) (r := (RX1, TX1, 1)) (qk := 1) rfl 8 rfl rfl rfl (inB_in (by decide)) (dk dcX8_init_0 38 rfl) (ws' := (d8 0, .inl (E.2.1 0, 15, .inl (upd (upd (upd (upd (upd (upd (upd ((fun _ => 0)) (0 : Int32).toNatClampNeg 10) (1 : Int32).toNatClampNeg 10) (2 : Int32).toNatClampNeg 10) (3 : Int32).toNatClampNeg 10) (4 : Int32).toNatClampNeg 10) (5 : Int32).toNatClampNeg 10) (7 : Int32).toNatClampNeg 20))) :: (n7, .inr (1, [.ref (d8 0)])) :: (d6 0, .inl (E.2.1 0, 15, .inl (upd (upd (upd (upd (upd (upd (upd ((fun _ => 0)) (0 : Int32).toNatClampNeg 10) (1 : Int32).toNatClampNeg 10) (2 : Int32).toNatClampNeg 10) (3 : Int32).toNatClampNeg 10) (4 : Int32).toNatClampNeg 10) (5 : Int32).toNatClampNeg 10) (7 : Int32).toNatClampNeg 20))) :: (n5, .inr (1, [.ref (d6 0)])) :: (n4, .inl (E.2.1 0, 4, .inl ((fun _ => 0)))) :: (n3, .inl (E.2.1 0, 4, .inl ((fun _ => 0)))) :: (d2 0, .inl (E.2.1 0, 15, .inl (upd (upd (upd (upd (upd (upd (upd ((fun _ => 0)) (0 : Int32).toNatClampNeg 10) (1 : Int32).toNatClampNeg 10) (2 : Int32).toNatClampNeg 10) (3 : Int32).toNatClampNeg 10) (4 : Int32).toNatClampNeg 10) (5 : Int32).toNatClampNeg 10) (7 : Int32).toNatClampNeg 20))) :: (n1, .inr (1, [.ref (d2 0)])) :: (n0, .inl (E.2.1 6, 7, .inr (.inr (.inr (.inr (va_up (va_up ((fun _ => none)) (0 : Int32).toNatClampNeg (some (n5))) (1 : Int32).toNatClampNeg (some (n7)))))))) :: (h0, .inr (8, [.ref r1, .ref r2, .ref n0, .ref n1, .ref n3, .ref n4, .int 0, .int 0, .int 0])) :: wx) rfl ?_
  refine w_iinc C (lv' := [(3, .int 2), (0, .ref h0), (1, .ref r1), (2, .ref r2)]) 2 0 (dk dcX8_init_0 39 rfl) rfl (by decide) (by decide) rfl ?_
  refine w_goto C 50 (dk dcX8_init_0 40 rfl) (by decide) ?_
  refine w_iload_n C 0 (dk dcX8_init_0 27 rfl) rfl rfl ?_
  refine w_aload_n C 1 (dk dcX8_init_0 28 rfl) rfl rfl ?_
  refine w_get C inX8 9 rfl rfl 2 (by decide) wd_265 rfl rfl (dk dcX8_init_0 29 rfl) ?_
  refine w_alen C (t0 := 6) rfl 8 rfl (v := 7) rfl (dk dcX8_init_0 30 rfl) ?_
  refine w_icmp_ge C 78 (dk dcX8_init_0 31 rfl) (by decide) (fun h => absurd h (by decide)) (fun _ => ?_)
  refine w_aload_n C 1 (dk dcX8_init_0 32 rfl) rfl rfl ?_
  refine w_get C inX8 9 rfl rfl 2 (by decide) wd_265 rfl rfl (dk dcX8_init_0 33 rfl) ?_
  refine w_iload_n C 0 (dk dcX8_init_0 34 rfl) rfl rfl ?_
  refine w_new C X inX1 tyX1 tyX1_ok wd_260 wn_instX1 wn_initX1 (ci := 1) rfl (fs := [.null]) (by decide +kernel) (Nat.le_of_ble_eq_true rfl) (Nat.le_of_ble_eq_true rfl) (dk dcX8_init_0 35 rfl) (fun n9 => ?_)
  refine w_dup C rfl (dk dcX8_init_0 36 rfl) ?_
  refine w_callI C X.2.2 (mcX1_init hup) wmX1_init rfl wd_262 ⟨Nat.le_of_ble_eq_true rfl, Nat.le_of_ble_eq_true rfl⟩ ⟨Nat.le_of_ble_eq_true rfl, Nat.le_of_ble_eq_true rfl⟩ rfl rfl (Nat.le_of_ble_eq_true rfl) (dk dcX8_init_0 37 rfl) (fun d10 => ?_)
  refine vw_ws (ws' := (d10 0, .inl (E.2.1 0, 15, .inl (upd (upd (upd (upd (upd (upd (upd ((fun _ => 0)) (0 : Int32).toNatClampNeg 10) (1 : Int32).toNatClampNeg 10) (2 : Int32).toNatClampNeg 10) (3 : Int32).toNatClampNeg 10) (4 : Int32).toNatClampNeg 10) (5 : Int32).toNatClampNeg 10) (7 : Int32).toNatClampNeg 20))) :: (n9, .inr (1, [.ref (d10 0)])) :: (d8 0, .inl (E.2.1 0, 15, .inl (upd (upd (upd (upd (upd (upd (upd ((fun _ => 0)) (0 : Int32).toNatClampNeg 10) (1 : Int32).toNatClampNeg 10) (2 : Int32).toNatClampNeg 10) (3 : Int32).toNatClampNeg 10) (4 : Int32).toNatClampNeg 10) (5 : Int32).toNatClampNeg 10) (7 : Int32).toNatClampNeg 20))) :: (n7, .inr (1, [.ref (d8 0)])) :: (d6 0, .inl (E.2.1 0, 15, .inl (upd (upd (upd (upd (upd (upd (upd ((fun _ => 0)) (0 : Int32).toNatClampNeg 10) (1 : Int32).toNatClampNeg 10) (2 : Int32).toNatClampNeg 10) (3 : Int32).toNatClampNeg 10) (4 : Int32).toNatClampNeg 10) (5 : Int32).toNatClampNeg 10) (7 : Int32).toNatClampNeg 20))) :: (n5, .inr (1, [.ref (d6 0)])) :: (n4, .inl (E.2.1 0, 4, .inl ((fun _ => 0)))) :: (n3, .inl (E.2.1 0, 4, .inl ((fun _ => 0)))) :: (d2 0, .inl (E.2.1 0, 15, .inl (upd (upd (upd (upd (upd (upd (upd ((fun _ => 0)) (0 : Int32).toNatClampNeg 10) (1 : Int32).toNatClampNeg 10) (2 : Int32).toNatClampNeg 10) (3 : Int32).toNatClampNeg 10) (4 : Int32).toNatClampNeg 10) (5 : Int32).toNatClampNeg 10) (7 : Int32).toNatClampNeg 20))) :: (n1, .inr (1, [.ref (d2 0)])) :: (n0, .inl (E.2.1 6, 7, .inr (.inr (.inr (.inr (va_up (va_up ((fun _ => none)) (0 : Int32).toNatClampNeg (some (n5))) (1 : Int32).toNatClampNeg (some (n7)))))))) :: (h0, .inr (8, [.ref r1, .ref r2, .ref n0, .ref n1, .ref n3, .ref n4, .int 0, .int 0, .int 0])) :: wx) rfl ?_
  refine w_astq C (t0 := 6) (r := (RX1, TX1, 1)) (qk := 1) rfl 10 rfl rfl rfl (inB_in (by decide)) (dk dcX8_init_0 38 rfl) (ws' := (d10 0, .inl (E.2.1 0, 15, .inl (upd (upd (upd (upd (upd (upd (upd ((fun _ => 0)) (0 : Int32).toNatClampNeg 10) (1 : Int32).toNatClampNeg 10) (2 : Int32).toNatClampNeg 10) (3 : Int32).toNatClampNeg 10) (4 : Int32).toNatClampNeg 10) (5 : Int32).toNatClampNeg 10) (7 : Int32).toNatClampNeg 20))) :: (n9, .inr (1, [.ref (d10 0)])) :: (d8 0, .inl (E.2.1 0, 15, .inl (upd (upd (upd (upd (upd (upd (upd ((fun _ => 0)) (0 : Int32).toNatClampNeg 10) (1 : Int32).toNatClampNeg 10) (2 : Int32).toNatClampNeg 10) (3 : Int32).toNatClampNeg 10) (4 : Int32).toNatClampNeg 10) (5 : Int32).toNatClampNeg 10) (7 : Int32).toNatClampNeg 20))) :: (n7, .inr (1, [.ref (d8 0)])) :: (d6 0, .inl (E.2.1 0, 15, .inl (upd (upd (upd (upd (upd (upd (upd ((fun _ => 0)) (0 : Int32).toNatClampNeg 10) (1 : Int32).toNatClampNeg 10) (2 : Int32).toNatClampNeg 10) (3 : Int32).toNatClampNeg 10) (4 : Int32).toNatClampNeg 10) (5 : Int32).toNatClampNeg 10) (7 : Int32).toNatClampNeg 20))) :: (n5, .inr (1, [.ref (d6 0)])) :: (n4, .inl (E.2.1 0, 4, .inl ((fun _ => 0)))) :: (n3, .inl (E.2.1 0, 4, .inl ((fun _ => 0)))) :: (d2 0, .inl (E.2.1 0, 15, .inl (upd (upd (upd (upd (upd (upd (upd ((fun _ => 0)) (0 : Int32).toNatClampNeg 10) (1 : Int32).toNatClampNeg 10) (2 : Int32).toNatClampNeg 10) (3 : Int32).toNatClampNeg 10) (4 : Int32).toNatClampNeg 10) (5 : Int32).toNatClampNeg 10) (7 : Int32).toNatClampNeg 20))) :: (n1, .inr (1, [.ref (d2 0)])) :: (n0, .inl (E.2.1 6, 7, .inr (.inr (.inr (.inr (va_up (va_up (va_up ((fun _ => none)) (0 : Int32).toNatClampNeg (some (n5))) (1 : Int32).toNatClampNeg (some (n7))) (2 : Int32).toNatClampNeg (some (n9)))))))) :: (h0, .inr (8, [.ref r1, .ref r2, .ref n0, .ref n1, .ref n3, .ref n4, .int 0, .int 0, .int 0])) :: wx) rfl ?_
  refine w_iinc C (lv' := [(3, .int 3), (0, .ref h0), (1, .ref r1), (2, .ref r2)]) 3 0 (dk dcX8_init_0 39 rfl) rfl (by decide) (by decide) rfl ?_
  refine w_goto C 50 (dk dcX8_init_0 40 rfl) (by decide) ?_
  refine w_iload_n C 0 (dk dcX8_init_0 27 rfl) rfl rfl ?_
  refine w_aload_n C 1 (dk dcX8_init_0 28 rfl) rfl rfl ?_
  refine w_get C inX8 11 rfl rfl 2 (by decide) wd_265 rfl rfl (dk dcX8_init_0 29 rfl) ?_
  refine w_alen C (t0 := 6) rfl 10 rfl (v := 7) rfl (dk dcX8_init_0 30 rfl) ?_
  refine w_icmp_ge C 78 (dk dcX8_init_0 31 rfl) (by decide) (fun h => absurd h (by decide)) (fun _ => ?_)
  refine w_aload_n C 1 (dk dcX8_init_0 32 rfl) rfl rfl ?_
  refine w_get C inX8 11 rfl rfl 2 (by decide) wd_265 rfl rfl (dk dcX8_init_0 33 rfl) ?_
  refine w_iload_n C 0 (dk dcX8_init_0 34 rfl) rfl rfl ?_
  refine w_new C X inX1 tyX1 tyX1_ok wd_260 wn_instX1 wn_initX1 (ci := 1) rfl (fs := [.null]) (by decide +kernel) (Nat.le_of_ble_eq_true rfl) (Nat.le_of_ble_eq_true rfl) (dk dcX8_init_0 35 rfl) (fun n11 => ?_)
  refine w_dup C rfl (dk dcX8_init_0 36 rfl) ?_
  refine w_callI C X.2.2 (mcX1_init hup) wmX1_init rfl wd_262 ⟨Nat.le_of_ble_eq_true rfl, Nat.le_of_ble_eq_true rfl⟩ ⟨Nat.le_of_ble_eq_true rfl, Nat.le_of_ble_eq_true rfl⟩ rfl rfl (Nat.le_of_ble_eq_true rfl) (dk dcX8_init_0 37 rfl) (fun d12 => ?_)
  refine vw_ws (ws' := (d12 0, .inl (E.2.1 0, 15, .inl (upd (upd (upd (upd (upd (upd (upd ((fun _ => 0)) (0 : Int32).toNatClampNeg 10) (1 : Int32).toNatClampNeg 10) (2 : Int32).toNatClampNeg 10) (3 : Int32).toNatClampNeg 10) (4 : Int32).toNatClampNeg 10) (5 : Int32).toNatClampNeg 10) (7 : Int32).toNatClampNeg 20))) :: (n11, .inr (1, [.ref (d12 0)])) :: (d10 0, .inl (E.2.1 0, 15, .inl (upd (upd (upd (upd (upd (upd (upd ((fun _ => 0)) (0 : Int32).toNatClampNeg 10) (1 : Int32).toNatClampNeg 10) (2 : Int32).toNatClampNeg 10) (3 : Int32).toNatClampNeg 10) (4 : Int32).toNatClampNeg 10) (5 : Int32).toNatClampNeg 10) (7 : Int32).toNatClampNeg 20))) :: (n9, .inr (1, [.ref (d10 0)])) :: (d8 0, .inl (E.2.1 0, 15, .inl (upd (upd (upd (upd (upd (upd (upd ((fun _ => 0)) (0 : Int32).toNatClampNeg 10) (1 : Int32).toNatClampNeg 10) (2 : Int32).toNatClampNeg 10) (3 : Int32).toNatClampNeg 10) (4 : Int32).toNatClampNeg 10) (5 : Int32).toNatClampNeg 10) (7 : Int32).toNatClampNeg 20))) :: (n7, .inr (1, [.ref (d8 0)])) :: (d6 0, .inl (E.2.1 0, 15, .inl (upd (upd (upd (upd (upd (upd (upd ((fun _ => 0)) (0 : Int32).toNatClampNeg 10) (1 : Int32).toNatClampNeg 10) (2 : Int32).toNatClampNeg 10) (3 : Int32).toNatClampNeg 10) (4 : Int32).toNatClampNeg 10) (5 : Int32).toNatClampNeg 10) (7 : Int32).toNatClampNeg 20))) :: (n5, .inr (1, [.ref (d6 0)])) :: (n4, .inl (E.2.1 0, 4, .inl ((fun _ => 0)))) :: (n3, .inl (E.2.1 0, 4, .inl ((fun _ => 0)))) :: (d2 0, .inl (E.2.1 0, 15, .inl (upd (upd (upd (upd (upd (upd (upd ((fun _ => 0)) (0 : Int32).toNatClampNeg 10) (1 : Int32).toNatClampNeg 10) (2 : Int32).toNatClampNeg 10) (3 : Int32).toNatClampNeg 10) (4 : Int32).toNatClampNeg 10) (5 : Int32).toNatClampNeg 10) (7 : Int32).toNatClampNeg 20))) :: (n1, .inr (1, [.ref (d2 0)])) :: (n0, .inl (E.2.1 6, 7, .inr (.inr (.inr (.inr (va_up (va_up (va_up ((fun _ => none)) (0 : Int32).toNatClampNeg (some (n5))) (1 : Int32).toNatClampNeg (some (n7))) (2 : Int32).toNatClampNeg (some (n9)))))))) :: (h0, .inr (8, [.ref r1, .ref r2, .ref n0, .ref n1, .ref n3, .ref n4, .int 0, .int 0, .int 0])) :: wx) rfl ?_
  refine w_astq C (t0 := 6) (r := (RX1, TX1, 1)) (qk := 1) rfl 12 rfl rfl rfl (inB_in (by decide)) (dk dcX8_init_0 38 rfl) (ws' := (d12 0, .inl (E.2.1 0, 15, .inl (upd (upd (upd (upd (upd (upd (upd ((fun _ => 0)) (0 : Int32).toNatClampNeg 10) (1 : Int32).toNatClampNeg 10) (2 : Int32).toNatClampNeg 10) (3 : Int32).toNatClampNeg 10) (4 : Int32).toNatClampNeg 10) (5 : Int32).toNatClampNeg 10) (7 : Int32).toNatClampNeg 20))) :: (n11, .inr (1, [.ref (d12 0)])) :: (d10 0, .inl (E.2.1 0, 15, .inl (upd (upd (upd (upd (upd (upd (upd ((fun _ => 0)) (0 : Int32).toNatClampNeg 10) (1 : Int32).toNatClampNeg 10) (2 : Int32).toNatClampNeg 10) (3 : Int32).toNatClampNeg 10) (4 : Int32).toNatClampNeg 10) (5 : Int32).toNatClampNeg 10) (7 : Int32).toNatClampNeg 20))) :: (n9, .inr (1, [.ref (d10 0)])) :: (d8 0, .inl (E.2.1 0, 15, .inl (upd (upd (upd (upd (upd (upd (upd ((fun _ => 0)) (0 : Int32).toNatClampNeg 10) (1 : Int32).toNatClampNeg 10) (2 : Int32).toNatClampNeg 10) (3 : Int32).toNatClampNeg 10) (4 : Int32).toNatClampNeg 10) (5 : Int32).toNatClampNeg 10) (7 : Int32).toNatClampNeg 20))) :: (n7, .inr (1, [.ref (d8 0)])) :: (d6 0, .inl (E.2.1 0, 15, .inl (upd (upd (upd (upd (upd (upd (upd ((fun _ => 0)) (0 : Int32).toNatClampNeg 10) (1 : Int32).toNatClampNeg 10) (2 : Int32).toNatClampNeg 10) (3 : Int32).toNatClampNeg 10) (4 : Int32).toNatClampNeg 10) (5 : Int32).toNatClampNeg 10) (7 : Int32).toNatClampNeg 20))) :: (n5, .inr (1, [.ref (d6 0)])) :: (n4, .inl (E.2.1 0, 4, .inl ((fun _ => 0)))) :: (n3, .inl (E.2.1 0, 4, .inl ((fun _ => 0)))) :: (d2 0, .inl (E.2.1 0, 15, .inl (upd (upd (upd (upd (upd (upd (upd ((fun _ => 0)) (0 : Int32).toNatClampNeg 10) (1 : Int32).toNatClampNeg 10) (2 : Int32).toNatClampNeg 10) (3 : Int32).toNatClampNeg 10) (4 : Int32).toNatClampNeg 10) (5 : Int32).toNatClampNeg 10) (7 : Int32).toNatClampNeg 20))) :: (n1, .inr (1, [.ref (d2 0)])) :: (n0, .inl (E.2.1 6, 7, .inr (.inr (.inr (.inr (va_up (va_up (va_up (va_up ((fun _ => none)) (0 : Int32).toNatClampNeg (some (n5))) (1 : Int32).toNatClampNeg (some (n7))) (2 : Int32).toNatClampNeg (some (n9))) (3 : Int32).toNatClampNeg (some (n11)))))))) :: (h0, .inr (8, [.ref r1, .ref r2, .ref n0, .ref n1, .ref n3, .ref n4, .int 0, .int 0, .int 0])) :: wx) rfl ?_
  refine w_iinc C (lv' := [(3, .int 4), (0, .ref h0), (1, .ref r1), (2, .ref r2)]) 4 0 (dk dcX8_init_0 39 rfl) rfl (by decide) (by decide) rfl ?_
  refine w_goto C 50 (dk dcX8_init_0 40 rfl) (by decide) ?_
  refine w_iload_n C 0 (dk dcX8_init_0 27 rfl) rfl rfl ?_
  refine w_aload_n C 1 (dk dcX8_init_0 28 rfl) rfl rfl ?_
  refine w_get C inX8 13 rfl rfl 2 (by decide) wd_265 rfl rfl (dk dcX8_init_0 29 rfl) ?_
  refine w_alen C (t0 := 6) rfl 12 rfl (v := 7) rfl (dk dcX8_init_0 30 rfl) ?_
  refine w_icmp_ge C 78 (dk dcX8_init_0 31 rfl) (by decide) (fun h => absurd h (by decide)) (fun _ => ?_)
  refine w_aload_n C 1 (dk dcX8_init_0 32 rfl) rfl rfl ?_
  refine w_get C inX8 13 rfl rfl 2 (by decide) wd_265 rfl rfl (dk dcX8_init_0 33 rfl) ?_
  refine w_iload_n C 0 (dk dcX8_init_0 34 rfl) rfl rfl ?_
  refine w_new C X inX1 tyX1 tyX1_ok wd_260 wn_instX1 wn_initX1 (ci := 1) rfl (fs := [.null]) (by decide +kernel) (Nat.le_of_ble_eq_true rfl) (Nat.le_of_ble_eq_true rfl) (dk dcX8_init_0 35 rfl) (fun n13 => ?_)
  refine w_dup C rfl (dk dcX8_init_0 36 rfl) ?_
  refine w_callI C X.2.2 (mcX1_init hup) wmX1_init rfl wd_262 ⟨Nat.le_of_ble_eq_true rfl, Nat.le_of_ble_eq_true rfl⟩ ⟨Nat.le_of_ble_eq_true rfl, Nat.le_of_ble_eq_true rfl⟩ rfl rfl (Nat.le_of_ble_eq_true rfl) (dk dcX8_init_0 37 rfl) (fun d14 => ?_)
  refine vw_ws (ws' := (d14 0, .inl (E.2.1 0, 15, .inl (upd (upd (upd (upd (upd (upd (upd ((fun _ => 0)) (0 : Int32).toNatClampNeg 10) (1 : Int32).toNatClampNeg 10) (2 : Int32).toNatClampNeg 10) (3 : Int32).toNatClampNeg 10) (4 : Int32).toNatClampNeg 10) (5 : Int32).toNatClampNeg 10) (7 : Int32).toNatClampNeg 20))) :: (n13, .inr (1, [.ref (d14 0)])) :: (d12 0, .inl (E.2.1 0, 15, .inl (upd (upd (upd (upd (upd (upd (upd ((fun _ => 0)) (0 : Int32).toNatClampNeg 10) (1 : Int32).toNatClampNeg 10) (2 : Int32).toNatClampNeg 10) (3 : Int32).toNatClampNeg 10) (4 : Int32).toNatClampNeg 10) (5 : Int32).toNatClampNeg 10) (7 : Int32).toNatClampNeg 20))) :: (n11, .inr (1, [.ref (d12 0)])) :: (d10 0, .inl (E.2.1 0, 15, .inl (upd (upd (upd (upd (upd (upd (upd ((fun _ => 0)) (0 : Int32).toNatClampNeg 10) (1 : Int32).toNatClampNeg 10) (2 : Int32).toNatClampNeg 10) (3 : Int32).toNatClampNeg 10) (4 : Int32).toNatClampNeg 10) (5 : Int32).toNatClampNeg 10) (7 : Int32).toNatClampNeg 20))) :: (n9, .inr (1, [.ref (d10 0)])) :: (d8 0, .inl (E.2.1 0, 15, .inl (upd (upd (upd (upd (upd (upd (upd ((fun _ => 0)) (0 : Int32).toNatClampNeg 10) (1 : Int32).toNatClampNeg 10) (2 : Int32).toNatClampNeg 10) (3 : Int32).toNatClampNeg 10) (4 : Int32).toNatClampNeg 10) (5 : Int32).toNatClampNeg 10) (7 : Int32).toNatClampNeg 20))) :: (n7, .inr (1, [.ref (d8 0)])) :: (d6 0, .inl (E.2.1 0, 15, .inl (upd (upd (upd (upd (upd (upd (upd ((fun _ => 0)) (0 : Int32).toNatClampNeg 10) (1 : Int32).toNatClampNeg 10) (2 : Int32).toNatClampNeg 10) (3 : Int32).toNatClampNeg 10) (4 : Int32).toNatClampNeg 10) (5 : Int32).toNatClampNeg 10) (7 : Int32).toNatClampNeg 20))) :: (n5, .inr (1, [.ref (d6 0)])) :: (n4, .inl (E.2.1 0, 4, .inl ((fun _ => 0)))) :: (n3, .inl (E.2.1 0, 4, .inl ((fun _ => 0)))) :: (d2 0, .inl (E.2.1 0, 15, .inl (upd (upd (upd (upd (upd (upd (upd ((fun _ => 0)) (0 : Int32).toNatClampNeg 10) (1 : Int32).toNatClampNeg 10) (2 : Int32).toNatClampNeg 10) (3 : Int32).toNatClampNeg 10) (4 : Int32).toNatClampNeg 10) (5 : Int32).toNatClampNeg 10) (7 : Int32).toNatClampNeg 20))) :: (n1, .inr (1, [.ref (d2 0)])) :: (n0, .inl (E.2.1 6, 7, .inr (.inr (.inr (.inr (va_up (va_up (va_up (va_up ((fun _ => none)) (0 : Int32).toNatClampNeg (some (n5))) (1 : Int32).toNatClampNeg (some (n7))) (2 : Int32).toNatClampNeg (some (n9))) (3 : Int32).toNatClampNeg (some (n11)))))))) :: (h0, .inr (8, [.ref r1, .ref r2, .ref n0, .ref n1, .ref n3, .ref n4, .int 0, .int 0, .int 0])) :: wx) rfl ?_
  refine w_astq C (t0 := 6) (r := (RX1, TX1, 1)) (qk := 1) rfl 14 rfl rfl rfl (inB_in (by decide)) (dk dcX8_init_0 38 rfl) (ws' := (d14 0, .inl (E.2.1 0, 15, .inl (upd (upd (upd (upd (upd (upd (upd ((fun _ => 0)) (0 : Int32).toNatClampNeg 10) (1 : Int32).toNatClampNeg 10) (2 : Int32).toNatClampNeg 10) (3 : Int32).toNatClampNeg 10) (4 : Int32).toNatClampNeg 10) (5 : Int32).toNatClampNeg 10) (7 : Int32).toNatClampNeg 20))) :: (n13, .inr (1, [.ref (d14 0)])) :: (d12 0, .inl (E.2.1 0, 15, .inl (upd (upd (upd (upd (upd (upd (upd ((fun _ => 0)) (0 : Int32).toNatClampNeg 10) (1 : Int32).toNatClampNeg 10) (2 : Int32).toNatClampNeg 10) (3 : Int32).toNatClampNeg 10) (4 : Int32).toNatClampNeg 10) (5 : Int32).toNatClampNeg 10) (7 : Int32).toNatClampNeg 20))) :: (n11, .inr (1, [.ref (d12 0)])) :: (d10 0, .inl (E.2.1 0, 15, .inl (upd (upd (upd (upd (upd (upd (upd ((fun _ => 0)) (0 : Int32).toNatClampNeg 10) (1 : Int32).toNatClampNeg 10) (2 : Int32).toNatClampNeg 10) (3 : Int32).toNatClampNeg 10) (4 : Int32).toNatClampNeg 10) (5 : Int32).toNatClampNeg 10) (7 : Int32).toNatClampNeg 20))) :: (n9, .inr (1, [.ref (d10 0)])) :: (d8 0, .inl (E.2.1 0, 15, .inl (upd (upd (upd (upd (upd (upd (upd ((fun _ => 0)) (0 : Int32).toNatClampNeg 10) (1 : Int32).toNatClampNeg 10) (2 : Int32).toNatClampNeg 10) (3 : Int32).toNatClampNeg 10) (4 : Int32).toNatClampNeg 10) (5 : Int32).toNatClampNeg 10) (7 : Int32).toNatClampNeg 20))) :: (n7, .inr (1, [.ref (d8 0)])) :: (d6 0, .inl (E.2.1 0, 15, .inl (upd (upd (upd (upd (upd (upd (upd ((fun _ => 0)) (0 : Int32).toNatClampNeg 10) (1 : Int32).toNatClampNeg 10) (2 : Int32).toNatClampNeg 10) (3 : Int32).toNatClampNeg 10) (4 : Int32).toNatClampNeg 10) (5 : Int32).toNatClampNeg 10) (7 : Int32).toNatClampNeg 20))) :: (n5, .inr (1, [.ref (d6 0)])) :: (n4, .inl (E.2.1 0, 4, .inl ((fun _ => 0)))) :: (n3, .inl (E.2.1 0, 4, .inl ((fun _ => 0)))) :: (d2 0, .inl (E.2.1 0, 15, .inl (upd (upd (upd (upd (upd (upd (upd ((fun _ => 0)) (0 : Int32).toNatClampNeg 10) (1 : Int32).toNatClampNeg 10) (2 : Int32).toNatClampNeg 10) (3 : Int32).toNatClampNeg 10) (4 : Int32).toNatClampNeg 10) (5 : Int32).toNatClampNeg 10) (7 : Int32).toNatClampNeg 20))) :: (n1, .inr (1, [.ref (d2 0)])) :: (n0, .inl (E.2.1 6, 7, .inr (.inr (.inr (.inr (va_up (va_up (va_up (va_up (va_up ((fun _ => none)) (0 : Int32).toNatClampNeg (some (n5))) (1 : Int32).toNatClampNeg (some (n7))) (2 : Int32).toNatClampNeg (some (n9))) (3 : Int32).toNatClampNeg (some (n11))) (4 : Int32).toNatClampNeg (some (n13)))))))) :: (h0, .inr (8, [.ref r1, .ref r2, .ref n0, .ref n1, .ref n3, .ref n4, .int 0, .int 0, .int 0])) :: wx) rfl ?_
  refine w_iinc C (lv' := [(3, .int 5), (0, .ref h0), (1, .ref r1), (2, .ref r2)]) 5 0 (dk dcX8_init_0 39 rfl) rfl (by decide) (by decide) rfl ?_
  refine w_goto C 50 (dk dcX8_init_0 40 rfl) (by decide) ?_
  refine w_iload_n C 0 (dk dcX8_init_0 27 rfl) rfl rfl ?_
  refine w_aload_n C 1 (dk dcX8_init_0 28 rfl) rfl rfl ?_
  refine w_get C inX8 15 rfl rfl 2 (by decide) wd_265 rfl rfl (dk dcX8_init_0 29 rfl) ?_
  refine w_alen C (t0 := 6) rfl 14 rfl (v := 7) rfl (dk dcX8_init_0 30 rfl) ?_
  refine w_icmp_ge C 78 (dk dcX8_init_0 31 rfl) (by decide) (fun h => absurd h (by decide)) (fun _ => ?_)
  refine w_aload_n C 1 (dk dcX8_init_0 32 rfl) rfl rfl ?_
  refine w_get C inX8 15 rfl rfl 2 (by decide) wd_265 rfl rfl (dk dcX8_init_0 33 rfl) ?_
  refine w_iload_n C 0 (dk dcX8_init_0 34 rfl) rfl rfl ?_
  refine w_new C X inX1 tyX1 tyX1_ok wd_260 wn_instX1 wn_initX1 (ci := 1) rfl (fs := [.null]) (by decide +kernel) (Nat.le_of_ble_eq_true rfl) (Nat.le_of_ble_eq_true rfl) (dk dcX8_init_0 35 rfl) (fun n15 => ?_)
  refine w_dup C rfl (dk dcX8_init_0 36 rfl) ?_
  refine w_callI C X.2.2 (mcX1_init hup) wmX1_init rfl wd_262 ⟨Nat.le_of_ble_eq_true rfl, Nat.le_of_ble_eq_true rfl⟩ ⟨Nat.le_of_ble_eq_true rfl, Nat.le_of_ble_eq_true rfl⟩ rfl rfl (Nat.le_of_ble_eq_true rfl) (dk dcX8_init_0 37 rfl) (fun d16 => ?_)
  refine vw_ws (ws' := (d16 0, .inl (E.2.1 0, 15, .inl (upd (upd (upd (upd (upd (upd (upd ((fun _ => 0)) (0 : Int32).toNatClampNeg 10) (1 : Int32).toNatClampNeg 10) (2 : Int32).toNatClampNeg 10) (3 : Int32).toNatClampNeg 10) (4 : Int32).toNatClampNeg 10) (5 : Int32).toNatClampNeg 10) (7 : Int32).toNatClampNeg 20))) :: (n15, .inr (1, [.ref (d16 0)])) :: (d14 0, .inl (E.2.1 0, 15, .inl (upd (upd (upd (upd (upd (upd (upd ((fun _ => 0)) (0 : Int32).toNatClampNeg 10) (1 : Int32).toNatClampNeg 10) (2 : Int32).toNatClampNeg 10) (3 : Int32).toNatClampNeg 10) (4 : Int32).toNatClampNeg 10) (5 : Int32).toNatClampNeg 10) (7 : Int32).toNatClampNeg 20))) :: (n13, .inr (1, [.ref (d14 0)])) :: (d12 0, .inl (E.2.1 0, 15, .inl (upd (upd (upd (upd (upd (upd (upd ((fun _ => 0)) (0 : Int32).toNatClampNeg 10) (1 : Int32).toNatClampNeg 10) (2 : Int32).toNatClampNeg 10) (3 : Int32).toNatClampNeg 10) (4 : Int32).toNatClampNeg 10) (5 : Int32).toNatClampNeg 10) (7 : Int32).toNatClampNeg 20))) :: (n11, .inr (1, [.ref (d12 0)])) :: (d10 0, .inl (E.2.1 0, 15, .inl (upd (upd (upd (upd (upd (upd (upd ((fun _ => 0)) (0 : Int32).toNatClampNeg 10) (1 : Int32).toNatClampNeg 10) (2 : Int32).toNatClampNeg 10) (3 : Int32).toNatClampNeg 10) (4 : Int32).toNatClampNeg 10) (5 : Int32).toNatClampNeg 10) (7 : Int32).toNatClampNeg 20))) :: (n9, .inr (1, [.ref (d10 0)])) :: (d8 0, .inl (E.2.1 0, 15, .inl (upd (upd (upd (upd (upd (upd (upd ((fun _ => 0)) (0 : Int32).toNatClampNeg 10) (1 : Int32).toNatClampNeg 10) (2 : Int32).toNatClampNeg 10) (3 : Int32).toNatClampNeg 10) (4 : Int32).toNatClampNeg 10) (5 : Int32).toNatClampNeg 10) (7 : Int32).toNatClampNeg 20))) :: (n7, .inr (1, [.ref (d8 0)])) :: (d6 0, .inl (E.2.1 0, 15, .inl (upd (upd (upd (upd (upd (upd (upd ((fun _ => 0)) (0 : Int32).toNatClampNeg 10) (1 : Int32).toNatClampNeg 10) (2 : Int32).toNatClampNeg 10) (3 : Int32).toNatClampNeg 10) (4 : Int32).toNatClampNeg 10) (5 : Int32).toNatClampNeg 10) (7 : Int32).toNatClampNeg 20))) :: (n5, .inr (1, [.ref (d6 0)])) :: (n4, .inl (E.2.1 0, 4, .inl ((fun _ => 0)))) :: (n3, .inl (E.2.1 0, 4, .inl ((fun _ => 0)))) :: (d2 0, .inl (E.2.1 0, 15, .inl (upd (upd (upd (upd (upd (upd (upd ((fun _ => 0)) (0 : Int32).toNatClampNeg 10) (1 : Int32).toNatClampNeg 10) (2 : Int32).toNatClampNeg 10) (3 : Int32).toNatClampNeg 10) (4 : Int32).toNatClampNeg 10) (5 : Int32).toNatClampNeg 10) (7 : Int32).toNatClampNeg 20))) :: (n1, .inr (1, [.ref (d2 0)])) :: (n0, .inl (E.2.1 6, 7, .inr (.inr (.inr (.inr (va_up (va_up (va_up (va_up (va_up ((fun _ => none)) (0 : Int32).toNatClampNeg (some (n5))) (1 : Int32).toNatClampNeg (some (n7))) (2 : Int32).toNatClampNeg (some (n9))) (3 : Int32).toNatClampNeg (some (n11))) (4 : Int32).toNatClampNeg (some (n13)))))))) :: (h0, .inr (8, [.ref r1, .ref r2, .ref n0, .ref n1, .ref n3, .ref n4, .int 0, .int 0, .int 0])) :: wx) rfl ?_
  refine w_astq C (t0 := 6) (r := (RX1, TX1, 1)) (qk := 1) rfl 16 rfl rfl rfl (inB_in (by decide)) (dk dcX8_init_0 38 rfl) (ws' := (d16 0, .inl (E.2.1 0, 15, .inl (upd (upd (upd (upd (upd (upd (upd ((fun _ => 0)) (0 : Int32).toNatClampNeg 10) (1 : Int32).toNatClampNeg 10) (2 : Int32).toNatClampNeg 10) (3 : Int32).toNatClampNeg 10) (4 : Int32).toNatClampNeg 10) (5 : Int32).toNatClampNeg 10) (7 : Int32).toNatClampNeg 20))) :: (n15, .inr (1, [.ref (d16 0)])) :: (d14 0, .inl (E.2.1 0, 15, .inl (upd (upd (upd (upd (upd (upd (upd ((fun _ => 0)) (0 : Int32).toNatClampNeg 10) (1 : Int32).toNatClampNeg 10) (2 : Int32).toNatClampNeg 10) (3 : Int32).toNatClampNeg 10) (4 : Int32).toNatClampNeg 10) (5 : Int32).toNatClampNeg 10) (7 : Int32).toNatClampNeg 20))) :: (n13, .inr (1, [.ref (d14 0)])) :: (d12 0, .inl (E.2.1 0, 15, .inl (upd (upd (upd (upd (upd (upd (upd ((fun _ => 0)) (0 : Int32).toNatClampNeg 10) (1 : Int32).toNatClampNeg 10) (2 : Int32).toNatClampNeg 10) (3 : Int32).toNatClampNeg 10) (4 : Int32).toNatClampNeg 10) (5 : Int32).toNatClampNeg 10) (7 : Int32).toNatClampNeg 20))) :: (n11, .inr (1, [.ref (d12 0)])) :: (d10 0, .inl (E.2.1 0, 15, .inl (upd (upd (upd (upd (upd (upd (upd ((fun _ => 0)) (0 : Int32).toNatClampNeg 10) (1 : Int32).toNatClampNeg 10) (2 : Int32).toNatClampNeg 10) (3 : Int32).toNatClampNeg 10) (4 : Int32).toNatClampNeg 10) (5 : Int32).toNatClampNeg 10) (7 : Int32).toNatClampNeg 20))) :: (n9, .inr (1, [.ref (d10 0)])) :: (d8 0, .inl (E.2.1 0, 15, .inl (upd (upd (upd (upd (upd (upd (upd ((fun _ => 0)) (0 : Int32).toNatClampNeg 10) (1 : Int32).toNatClampNeg 10) (2 : Int32).toNatClampNeg 10) (3 : Int32).toNatClampNeg 10) (4 : Int32).toNatClampNeg 10) (5 : Int32).toNatClampNeg 10) (7 : Int32).toNatClampNeg 20))) :: (n7, .inr (1, [.ref (d8 0)])) :: (d6 0, .inl (E.2.1 0, 15, .inl (upd (upd (upd (upd (upd (upd (upd ((fun _ => 0)) (0 : Int32).toNatClampNeg 10) (1 : Int32).toNatClampNeg 10) (2 : Int32).toNatClampNeg 10) (3 : Int32).toNatClampNeg 10) (4 : Int32).toNatClampNeg 10) (5 : Int32).toNatClampNeg 10) (7 : Int32).toNatClampNeg 20))) :: (n5, .inr (1, [.ref (d6 0)])) :: (n4, .inl (E.2.1 0, 4, .inl ((fun _ => 0)))) :: (n3, .inl (E.2.1 0, 4, .inl ((fun _ => 0)))) :: (d2 0, .inl (E.2.1 0, 15, .inl (upd (upd (upd (upd (upd (upd (upd ((fun _ => 0)) (0 : Int32).toNatClampNeg 10) (1 : Int32).toNatClampNeg 10) (2 : Int32).toNatClampNeg 10) (3 : Int32).toNatClampNeg 10) (4 : Int32).toNatClampNeg 10) (5 : Int32).toNatClampNeg 10) (7 : Int32).toNatClampNeg 20))) :: (n1, .inr (1, [.ref (d2 0)])) :: (n0, .inl (E.2.1 6, 7, .inr (.inr (.inr (.inr (va_up (va_up (va_up (va_up (va_up (va_up ((fun _ => none)) (0 : Int32).toNatClampNeg (some (n5))) (1 : Int32).toNatClampNeg (some (n7))) (2 : Int32).toNatClampNeg (some (n9))) (3 : Int32).toNatClampNeg (some (n11))) (4 : Int32).toNatClampNeg (some (n13))) (5 : Int32).toNatClampNeg (some (n15)))))))) :: (h0, .inr (8, [.ref r1, .ref r2, .ref n0, .ref n1, .ref n3, .ref n4, .int 0, .int 0, .int 0])) :: wx) rfl ?_
  refine w_iinc C (lv' := [(3, .int 6), (0, .ref h0), (1, .ref r1), (2, .ref r2)]) 6 0 (dk dcX8_init_0 39 rfl) rfl (by decide) (by decide) rfl ?_
  refine w_goto C 50 (dk dcX8_init_0 40 rfl) (by decide) ?_
  refine w_iload_n C 0 (dk dcX8_init_0 27 rfl) rfl rfl ?_
  refine w_aload_n C 1 (dk dcX8_init_0 28 rfl) rfl rfl ?_
  refine w_get C inX8 17 rfl rfl 2 (by decide) wd_265 rfl rfl (dk dcX8_init_0 29 rfl) ?_
  refine w_alen C (t0 := 6) rfl 16 rfl (v := 7) rfl (dk dcX8_init_0 30 rfl) ?_
  refine w_icmp_ge C 78 (dk dcX8_init_0 31 rfl) (by decide) (fun h => absurd h (by decide)) (fun _ => ?_)
  refine w_aload_n C 1 (dk dcX8_init_0 32 rfl) rfl rfl ?_
  refine w_get C inX8 17 rfl rfl 2 (by decide) wd_265 rfl rfl (dk dcX8_init_0 33 rfl) ?_
  refine w_iload_n C 0 (dk dcX8_init_0 34 rfl) rfl rfl ?_
  refine w_new C X inX1 tyX1 tyX1_ok wd_260 wn_instX1 wn_initX1 (ci := 1) rfl (fs := [.null]) (by decide +kernel) (Nat.le_of_ble_eq_true rfl) (Nat.le_of_ble_eq_true rfl) (dk dcX8_init_0 35 rfl) (fun n17 => ?_)
  refine w_dup C rfl (dk dcX8_init_0 36 rfl) ?_
  refine w_callI C X.2.2 (mcX1_init hup) wmX1_init rfl wd_262 ⟨Nat.le_of_ble_eq_true rfl, Nat.le_of_ble_eq_true rfl⟩ ⟨Nat.le_of_ble_eq_true rfl, Nat.le_of_ble_eq_true rfl⟩ rfl rfl (Nat.le_of_ble_eq_true rfl) (dk dcX8_init_0 37 rfl) (fun d18 => ?_)
  refine vw_ws (ws' := (d18 0, .inl (E.2.1 0, 15, .inl (upd (upd (upd (upd (upd (upd (upd ((fun _ => 0)) (0 : Int32).toNatClampNeg 10) (1 : Int32).toNatClampNeg 10) (2 : Int32).toNatClampNeg 10) (3 : Int32).toNatClampNeg 10) (4 : Int32).toNatClampNeg 10) (5 : Int32).toNatClampNeg 10) (7 : Int32).toNatClampNeg 20))) :: (n17, .inr (1, [.ref (d18 0)])) :: (d16 0, .inl (E.2.1 0, 15, .inl (upd (upd (upd (upd (upd (upd (upd ((fun _ => 0)) (0 : Int32).toNatClampNeg 10) (1 : Int32).toNatClampNeg 10) (2 : Int32).toNatClampNeg 10) (3 : Int32).toNatClampNeg 10) (4 : Int32).toNatClampNeg 10) (5 : Int32).toNatClampNeg 10) (7 : Int32).toNatClampNeg 20))) :: (n15, .inr (1, [.ref (d16 0)])) :: (d14 0, .inl (E.2.1 0, 15, .inl (upd (upd (upd (upd (upd (upd (upd ((fun _ => 0)) (0 : Int32).toNatClampNeg 10) (1 : Int32).toNatClampNeg 10) (2 : Int32).toNatClampNeg 10) (3 : Int32).toNatClampNeg 10) (4 : Int32).toNatClampNeg 10) (5 : Int32).toNatClampNeg 10) (7 : Int32).toNatClampNeg 20))) :: (n13, .inr (1, [.ref (d14 0)])) :: (d12 0, .inl (E.2.1 0, 15, .inl (upd (upd (upd (upd (upd (upd (upd ((fun _ => 0)) (0 : Int32).toNatClampNeg 10) (1 : Int32).toNatClampNeg 10) (2 : Int32).toNatClampNeg 10) (3 : Int32).toNatClampNeg 10) (4 : Int32).toNatClampNeg 10) (5 : Int32).toNatClampNeg 10) (7 : Int32).toNatClampNeg 20))) :: (n11, .inr (1, [.ref (d12 0)])) :: (d10 0, .inl (E.2.1 0, 15, .inl (upd (upd (upd (upd (upd (upd (upd ((fun _ => 0)) (0 : Int32).toNatClampNeg 10) (1 : Int32).toNatClampNeg 10) (2 : Int32).toNatClampNeg 10) (3 : Int32).toNatClampNeg 10) (4 : Int32).toNatClampNeg 10) (5 : Int32).toNatClampNeg 10) (7 : Int32).toNatClampNeg 20))) :: (n9, .inr (1, [.ref (d10 0)])) :: (d8 0, .inl (E.2.1 0, 15, .inl (upd (upd (upd (upd (upd (upd (upd ((fun _ => 0)) (0 : Int32).toNatClampNeg 10) (1 : Int32).toNatClampNeg 10) (2 : Int32).toNatClampNeg 10) (3 : Int32).toNatClampNeg 10) (4 : Int32).toNatClampNeg 10) (5 : Int32).toNatClampNeg 10) (7 : Int32).toNatClampNeg 20))) :: (n7, .inr (1, [.ref (d8 0)])) :: (d6 0, .inl (E.2.1 0, 15, .inl (upd (upd (upd (upd (upd (upd (upd ((fun _ => 0)) (0 : Int32).toNatClampNeg 10) (1 : Int32).toNatClampNeg 10) (2 : Int32).toNatClampNeg 10) (3 : Int32).toNatClampNeg 10) (4 : Int32).toNatClampNeg 10) (5 : Int32).toNatClampNeg 10) (7 : Int32).toNatClampNeg 20))) :: (n5, .inr (1, [.ref (d6 0)])) :: (n4, .inl (E.2.1 0, 4, .inl ((fun _ => 0)))) :: (n3, .inl (E.2.1 0, 4, .inl ((fun _ => 0)))) :: (d2 0, .inl (E.2.1 0, 15, .inl (upd (upd (upd (upd (upd (upd (upd ((fun _ => 0)) (0 : Int32).toNatClampNeg 10) (1 : Int32).toNatClampNeg 10) (2 : Int32).toNatClampNeg 10) (3 : Int32).toNatClampNeg 10) (4 : Int32).toNatClampNeg 10) (5 : Int32).toNatClampNeg 10) (7 : Int32).toNatClampNeg 20))) :: (n1, .inr (1, [.ref (d2 0)])) :: (n0, .inl (E.2.1 6, 7, .inr (.inr (.inr (.inr (va_up (va_up (va_up (va_up (va_up (va_up ((fun _ => none)) (0 : Int32).toNatClampNeg (some (n5))) (1 : Int32).toNatClampNeg (some (n7))) (2 : Int32).toNatClampNeg (some (n9))) (3 : Int32).toNatClampNeg (some (n11))) (4 : Int32).toNatClampNeg (some (n13))) (5 : Int32).toNatClampNeg (some (n15)))))))) :: (h0, .inr (8, [.ref r1, .ref r2, .ref n0, .ref n1, .ref n3, .ref n4, .int 0, .int 0, .int 0])) :: wx) rfl ?_
  refine w_astq C (t0 := 6) (r := (RX1, TX1, 1)) (qk := 1) rfl 18 rfl rfl rfl (inB_in (by decide)) (dk dcX8_init_0 38 rfl) (ws' := (d18 0, .inl (E.2.1 0, 15, .inl (upd (upd (upd (upd (upd (upd (upd ((fun _ => 0)) (0 : Int32).toNatClampNeg 10) (1 : Int32).toNatClampNeg 10) (2 : Int32).toNatClampNeg 10) (3 : Int32).toNatClampNeg 10) (4 : Int32).toNatClampNeg 10) (5 : Int32).toNatClampNeg 10) (7 : Int32).toNatClampNeg 20))) :: (n17, .inr (1, [.ref (d18 0)])) :: (d16 0, .inl (E.2.1 0, 15, .inl (upd (upd (upd (upd (upd (upd (upd ((fun _ => 0)) (0 : Int32).toNatClampNeg 10) (1 : Int32).toNatClampNeg 10) (2 : Int32).toNatClampNeg 10) (3 : Int32).toNatClampNeg 10) (4 : Int32).toNatClampNeg 10) (5 : Int32).toNatClampNeg 10) (7 : Int32).toNatClampNeg 20))) :: (n15, .inr (1, [.ref (d16 0)])) :: (d14 0, .inl (E.2.1 0, 15, .inl (upd (upd (upd (upd (upd (upd (upd ((fun _ => 0)) (0 : Int32).toNatClampNeg 10) (1 : Int32).toNatClampNeg 10) (2 : Int32).toNatClampNeg 10) (3 : Int32).toNatClampNeg 10) (4 : Int32).toNatClampNeg 10) (5 : Int32).toNatClampNeg 10) (7 : Int32).toNatClampNeg 20))) :: (n13, .inr (1, [.ref (d14 0)])) :: (d12 0, .inl (E.2.1 0, 15, .inl (upd (upd (upd (upd (upd (upd (upd ((fun _ => 0)) (0 : Int32).toNatClampNeg 10) (1 : Int32).toNatClampNeg 10) (2 : Int32).toNatClampNeg 10) (3 : Int32).toNatClampNeg 10) (4 : Int32).toNatClampNeg 10) (5 : Int32).toNatClampNeg 10) (7 : Int32).toNatClampNeg 20))) :: (n11, .inr (1, [.ref (d12 0)])) :: (d10 0, .inl (E.2.1 0, 15, .inl (upd (upd (upd (upd (upd (upd (upd ((fun _ => 0)) (0 : Int32).toNatClampNeg 10) (1 : Int32).toNatClampNeg 10) (2 : Int32).toNatClampNeg 10) (3 : Int32).toNatClampNeg 10) (4 : Int32).toNatClampNeg 10) (5 : Int32).toNatClampNeg 10) (7 : Int32).toNatClampNeg 20))) :: (n9, .inr (1, [.ref (d10 0)])) :: (d8 0, .inl (E.2.1 0, 15, .inl (upd (upd (upd (upd (upd (upd (upd ((fun _ => 0)) (0 : Int32).toNatClampNeg 10) (1 : Int32).toNatClampNeg 10) (2 : Int32).toNatClampNeg 10) (3 : Int32).toNatClampNeg 10) (4 : Int32).toNatClampNeg 10) (5 : Int32).toNatClampNeg 10) (7 : Int32).toNatClampNeg 20))) :: (n7, .inr (1, [.ref (d8 0)])) :: (d6 0, .inl (E.2.1 0, 15, .inl (upd (upd (upd (upd (upd (upd (upd ((fun _ => 0)) (0 : Int32).toNatClampNeg 10) (1 : Int32).toNatClampNeg 10) (2 : Int32).toNatClampNeg 10) (3 : Int32).toNatClampNeg 10) (4 : Int32).toNatClampNeg 10) (5 : Int32).toNatClampNeg 10) (7 : Int32).toNatClampNeg 20))) :: (n5, .inr (1, [.ref (d6 0)])) :: (n4, .inl (E.2.1 0, 4, .inl ((fun _ => 0)))) :: (n3, .inl (E.2.1 0, 4, .inl ((fun _ => 0)))) :: (d2 0, .inl (E.2.1 0, 15, .inl (upd (upd (upd (upd (upd (upd (upd ((fun _ => 0)) (0 : Int32).toNatClampNeg 10) (1 : Int32).toNatClampNeg 10) (2 : Int32).toNatClampNeg 10) (3 : Int32).toNatClampNeg 10) (4 : Int32).toNatClampNeg 10) (5 : Int32).toNatClampNeg 10) (7 : Int32).toNatClampNeg 20))) :: (n1, .inr (1, [.ref (d2 0)])) :: (n0, .inl (E.2.1 6, 7, .inr (.inr (.inr (.inr (va_up (va_up (va_up (va_up (va_up (va_up (va_up ((fun _ => none)) (0 : Int32).toNatClampNeg (some (n5))) (1 : Int32).toNatClampNeg (some (n7))) (2 : Int32).toNatClampNeg (some (n9))) (3 : Int32).toNatClampNeg (some (n11))) (4 : Int32).toNatClampNeg (some (n13))) (5 : Int32).toNatClampNeg (some (n15))) (6 : Int32).toNatClampNeg (some (n17)))))))) :: (h0, .inr (8, [.ref r1, .ref r2, .ref n0, .ref n1, .ref n3, .ref n4, .int 0, .int 0, .int 0])) :: wx) rfl ?_
  refine w_iinc C (lv' := [(3, .int 7), (0, .ref h0), (1, .ref r1), (2, .ref r2)]) 7 0 (dk dcX8_init_0 39 rfl) rfl (by decide) (by decide) rfl ?_
  refine w_goto C 50 (dk dcX8_init_0 40 rfl) (by decide) ?_
  refine w_iload_n C 0 (dk dcX8_init_0 27 rfl) rfl rfl ?_
  refine w_aload_n C 1 (dk dcX8_init_0 28 rfl) rfl rfl ?_
  refine w_get C inX8 19 rfl rfl 2 (by decide) wd_265 rfl rfl (dk dcX8_init_0 29 rfl) ?_
  refine w_alen C (t0 := 6) rfl 18 rfl (v := 7) rfl (dk dcX8_init_0 30 rfl) ?_
  refine w_icmp_ge C 78 (dk dcX8_init_0 31 rfl) (by decide) (fun _ => ?_) (fun h => absurd (by decide) h)
  exact w_vretC C (fun k => ([n0, n1, d2 0, n3, n4, n5, d6 0, n7, d8 0, n9, d10 0, n11, d12 0, n13, d14 0, n15, d16 0, n17, d18 0] : List Nat).getD k 0) rfl rfl (dk dcX8_init_0 41 rfl)
