theorem kb_63 : (Int8.ofInt (63)).toInt32 = 63 := by decide
theorem ki_6 : Int32.ofInt (6) = 6 := by decide
theorem s_in {k L : Nat} (hk : k + 6 ≤ L) (hL : L ≤ 3072) (j : Nat) (hj : j < 6) : vp_in (nI k + nI j) L := by
  rw [nI_add]
  exact vp_in_nI (by omega) (by omega)
theorem s_in0 {k L : Nat} (hk : k + 6 ≤ L) (hL : L ≤ 3072) : vp_in (nI k) L := vp_in_nI (by omega) (by omega)
def Step0 (Rl : STt → STt → Prop) : Prop := ∀ (g m : STt), Rl g m → ∀ (x1 : Int32) (x2 : Int32) (x3 : Int32), ∃ (g' : STt) (m' : STt) (r : Int32), fX10_place g x1 x2 x3 = some (g', r) ∧ fX11_place m x1 x2 x3 = some (m', r) ∧ Rl g' m'
set_option maxRecDepth 20000 in
set_option maxHeartbeats 4000000 in
theorem lawc_0 {Rl : STt → STt → Prop} (H : Step0 Rl) {p : Program} {l : Launch} {e : Env} {s : State} {m0 : MethodId} {args : Array Value} {below : List Frame} {meth : Method} {c : Code} {Q : State → Prop} {ce sl : Nat} {E : WEt} (C : CX p s m0 args meth c cL_law 4 RL ret E) {b L : Nat} {xs : Nat → Int32} (hX : va_X b L xs s s.heap) (hbl : b < s.heap.size) (hbA : ¬ E.2.2.2.1 b) (hcs : ce ≤ 600000 ∧ sl ≤ 7302250) {g m : STt} (hr : Rl g m) {x3 : Int32} {k : Nat} (ex : x3 = nI k) (hk : k + 6 ≤ L) (hL : L ≤ 3072) (kk : ∀ g m, Rl g m → VW p l e room_1 s m0 args below meth c Q ce sl E 4 (cellsC E g ++ cellsM E m) [(0, .ref b), (1, .ref (aE E 0 0)), (2, .ref (aE E 28 0)), (3, .int x3)] [] 1192) : VW p l e room_1 s m0 args below meth c Q ce sl E 4 (cellsC E g ++ cellsM E m) [(0, .ref b), (1, .ref (aE E 0 0)), (2, .ref (aE E 28 0)), (3, .int x3)] [] 192 := by
  refine w_aload_n C 1 (dk dcL_law_0 22 rfl) rfl rfl ?_
  refine w_aload_n C 0 (dk dcL_law_0 23 rfl) rfl rfl ?_
  refine w_iload_n C 3 (dk dcL_law_0 24 rfl) rfl rfl ?_
  refine w_iconst C 1 (dk dcL_law_0 25 rfl) ki_1 ?_
  refine w_iadd C (dk dcL_law_0 26 rfl) ?_
  refine w_sld C hX hbl hbA (by rw [ex]; exact s_in hk hL 1 (by decide)) (dk dcL_law_0 27 rfl) ?_
  refine w_aload_n C 0 (dk dcL_law_0 28 rfl) rfl rfl ?_
  refine w_iload_n C 3 (dk dcL_law_0 29 rfl) rfl rfl ?_
  refine w_iconst C 2 (dk dcL_law_0 30 rfl) ki_2 ?_
  refine w_iadd C (dk dcL_law_0 31 rfl) ?_
  refine w_sld C hX hbl hbA (by rw [ex]; exact s_in hk hL 2 (by decide)) (dk dcL_law_0 32 rfl) ?_
  refine w_aload_n C 0 (dk dcL_law_0 33 rfl) rfl rfl ?_
  refine w_iload_n C 3 (dk dcL_law_0 34 rfl) rfl rfl ?_
  refine w_iconst C 3 (dk dcL_law_0 35 rfl) ki_3 ?_
  refine w_iadd C (dk dcL_law_0 36 rfl) ?_
  refine w_sld C hX hbl hbA (by rw [ex]; exact s_in hk hL 3 (by decide)) (dk dcL_law_0 37 rfl) ?_
  obtain ⟨g', m', r, e1, e2, hr'⟩ := H _ _ hr (xs (x3 + 1).toNatClampNeg) (xs (x3 + 2).toNatClampNeg) (xs (x3 + 3).toNatClampNeg)
  refine w_callV1 C (mtX10_place 400 (Nat.le_of_ble_eq_true rfl) e1) wmX10_place wd_373 ⟨Nat.le_of_ble_eq_true rfl, Nat.le_of_ble_eq_true rfl⟩ hcs rfl _ (ce_DB) rfl rfl (Nat.le_of_ble_eq_true rfl) (dk dcL_law_0 38 rfl) ?_
  refine vw_swap ?_
  refine w_aload_n C 2 (dk dcL_law_0 39 rfl) rfl rfl ?_
  refine w_aload_n C 0 (dk dcL_law_0 40 rfl) rfl rfl ?_
  refine w_iload_n C 3 (dk dcL_law_0 41 rfl) rfl rfl ?_
  refine w_iconst C 1 (dk dcL_law_0 42 rfl) ki_1 ?_
  refine w_iadd C (dk dcL_law_0 43 rfl) ?_
  refine w_sld C hX hbl hbA (by rw [ex]; exact s_in hk hL 1 (by decide)) (dk dcL_law_0 44 rfl) ?_
  refine w_aload_n C 0 (dk dcL_law_0 45 rfl) rfl rfl ?_
  refine w_iload_n C 3 (dk dcL_law_0 46 rfl) rfl rfl ?_
  refine w_iconst C 2 (dk dcL_law_0 47 rfl) ki_2 ?_
  refine w_iadd C (dk dcL_law_1 0 rfl) ?_
  refine w_sld C hX hbl hbA (by rw [ex]; exact s_in hk hL 2 (by decide)) (dk dcL_law_1 1 rfl) ?_
  refine w_aload_n C 0 (dk dcL_law_1 2 rfl) rfl rfl ?_
  refine w_iload_n C 3 (dk dcL_law_1 3 rfl) rfl rfl ?_
  refine w_iconst C 3 (dk dcL_law_1 4 rfl) ki_3 ?_
  refine w_iadd C (dk dcL_law_1 5 rfl) ?_
  refine w_sld C hX hbl hbA (by rw [ex]; exact s_in hk hL 3 (by decide)) (dk dcL_law_1 6 rfl) ?_
  refine w_callV1 C (mtX11_place 400 (Nat.le_of_ble_eq_true rfl) e2) wmX11_place wd_1262 ⟨Nat.le_of_ble_eq_true rfl, Nat.le_of_ble_eq_true rfl⟩ hcs rfl _ (ce_Mo) rfl rfl (Nat.le_of_ble_eq_true rfl) (dk dcL_law_1 7 rfl) ?_
  refine vw_swap ?_
  refine w_icmp_eq C 1192 (dk dcL_law_1 8 rfl) (by decide) (fun _ => ?_) (fun h => absurd rfl h)
  exact kk _ _ hr'
def Step1 (Rl : STt → STt → Prop) : Prop := ∀ (g m : STt), Rl g m → ∀ (x1 : Int32) (x2 : Int32), ∃ (r : Int32), fX10_of g x1 x2 = some r ∧ fX11_of m x1 x2 = some r ∧ Rl g m
set_option maxRecDepth 20000 in
set_option maxHeartbeats 4000000 in
theorem lawc_1 {Rl : STt → STt → Prop} (H : Step1 Rl) {p : Program} {l : Launch} {e : Env} {s : State} {m0 : MethodId} {args : Array Value} {below : List Frame} {meth : Method} {c : Code} {Q : State → Prop} {ce sl : Nat} {E : WEt} (C : CX p s m0 args meth c cL_law 4 RL ret E) {b L : Nat} {xs : Nat → Int32} (hX : va_X b L xs s s.heap) (hbl : b < s.heap.size) (hbA : ¬ E.2.2.2.1 b) (hcs : ce ≤ 600000 ∧ sl ≤ 7302250) {g m : STt} (hr : Rl g m) {x3 : Int32} {k : Nat} (ex : x3 = nI k) (hk : k + 6 ≤ L) (hL : L ≤ 3072) (kk : ∀ g m, Rl g m → VW p l e room_1 s m0 args below meth c Q ce sl E 4 (cellsC E g ++ cellsM E m) [(0, .ref b), (1, .ref (aE E 0 0)), (2, .ref (aE E 28 0)), (3, .int x3)] [] 1192) : VW p l e room_1 s m0 args below meth c Q ce sl E 4 (cellsC E g ++ cellsM E m) [(0, .ref b), (1, .ref (aE E 0 0)), (2, .ref (aE E 28 0)), (3, .int x3)] [] 235 := by
  refine w_aload_n C 1 (dk dcL_law_1 11 rfl) rfl rfl ?_
  refine w_aload_n C 0 (dk dcL_law_1 12 rfl) rfl rfl ?_
  refine w_iload_n C 3 (dk dcL_law_1 13 rfl) rfl rfl ?_
  refine w_iconst C 1 (dk dcL_law_1 14 rfl) ki_1 ?_
  refine w_iadd C (dk dcL_law_1 15 rfl) ?_
  refine w_sld C hX hbl hbA (by rw [ex]; exact s_in hk hL 1 (by decide)) (dk dcL_law_1 16 rfl) ?_
  refine w_aload_n C 0 (dk dcL_law_1 17 rfl) rfl rfl ?_
  refine w_iload_n C 3 (dk dcL_law_1 18 rfl) rfl rfl ?_
  refine w_iconst C 2 (dk dcL_law_1 19 rfl) ki_2 ?_
  refine w_iadd C (dk dcL_law_1 20 rfl) ?_
  refine w_sld C hX hbl hbA (by rw [ex]; exact s_in hk hL 2 (by decide)) (dk dcL_law_1 21 rfl) ?_
  obtain ⟨r, e1, e2, hr'⟩ := H _ _ hr (xs (x3 + 1).toNatClampNeg) (xs (x3 + 2).toNatClampNeg)
  refine w_callV1 C (mtX10_of 400 (Nat.le_of_ble_eq_true rfl) e1) wmX10_of wd_385 ⟨Nat.le_of_ble_eq_true rfl, Nat.le_of_ble_eq_true rfl⟩ hcs rfl _ (ce_DB) rfl rfl (Nat.le_of_ble_eq_true rfl) (dk dcL_law_1 22 rfl) ?_
  refine vw_swap ?_
  refine w_aload_n C 2 (dk dcL_law_1 23 rfl) rfl rfl ?_
  refine w_aload_n C 0 (dk dcL_law_1 24 rfl) rfl rfl ?_
  refine w_iload_n C 3 (dk dcL_law_1 25 rfl) rfl rfl ?_
  refine w_iconst C 1 (dk dcL_law_1 26 rfl) ki_1 ?_
  refine w_iadd C (dk dcL_law_1 27 rfl) ?_
  refine w_sld C hX hbl hbA (by rw [ex]; exact s_in hk hL 1 (by decide)) (dk dcL_law_1 28 rfl) ?_
  refine w_aload_n C 0 (dk dcL_law_1 29 rfl) rfl rfl ?_
  refine w_iload_n C 3 (dk dcL_law_1 30 rfl) rfl rfl ?_
  refine w_iconst C 2 (dk dcL_law_1 31 rfl) ki_2 ?_
  refine w_iadd C (dk dcL_law_1 32 rfl) ?_
  refine w_sld C hX hbl hbA (by rw [ex]; exact s_in hk hL 2 (by decide)) (dk dcL_law_1 33 rfl) ?_
  refine w_callV1 C (mtX11_of 400 (Nat.le_of_ble_eq_true rfl) e2) wmX11_of wd_1269 ⟨Nat.le_of_ble_eq_true rfl, Nat.le_of_ble_eq_true rfl⟩ hcs rfl _ (ce_Mo) rfl rfl (Nat.le_of_ble_eq_true rfl) (dk dcL_law_1 34 rfl) ?_
  refine vw_swap ?_
  refine w_icmp_eq C 1192 (dk dcL_law_1 35 rfl) (by decide) (fun _ => ?_) (fun h => absurd rfl h)
  exact kk _ _ hr'
def Step2 (Rl : STt → STt → Prop) : Prop := ∀ (g m : STt), Rl g m → ∀ (x1 : Int32) (x2 : Int32), ∃ (g' : STt) (m' : STt) (r : Int32), fX10_set g x1 x2 = some (g', r) ∧ fX11_set m x1 x2 = some (m', r) ∧ Rl g' m'
set_option maxRecDepth 20000 in
set_option maxHeartbeats 4000000 in
theorem lawc_2 {Rl : STt → STt → Prop} (H : Step2 Rl) {p : Program} {l : Launch} {e : Env} {s : State} {m0 : MethodId} {args : Array Value} {below : List Frame} {meth : Method} {c : Code} {Q : State → Prop} {ce sl : Nat} {E : WEt} (C : CX p s m0 args meth c cL_law 4 RL ret E) {b L : Nat} {xs : Nat → Int32} (hX : va_X b L xs s s.heap) (hbl : b < s.heap.size) (hbA : ¬ E.2.2.2.1 b) (hcs : ce ≤ 600000 ∧ sl ≤ 7302250) {g m : STt} (hr : Rl g m) {x3 : Int32} {k : Nat} (ex : x3 = nI k) (hk : k + 6 ≤ L) (hL : L ≤ 3072) (kk : ∀ g m, Rl g m → VW p l e room_1 s m0 args below meth c Q ce sl E 4 (cellsC E g ++ cellsM E m) [(0, .ref b), (1, .ref (aE E 0 0)), (2, .ref (aE E 28 0)), (3, .int x3)] [] 1192) : VW p l e room_1 s m0 args below meth c Q ce sl E 4 (cellsC E g ++ cellsM E m) [(0, .ref b), (1, .ref (aE E 0 0)), (2, .ref (aE E 28 0)), (3, .int x3)] [] 268 := by
  refine w_aload_n C 1 (dk dcL_law_1 38 rfl) rfl rfl ?_
  refine w_aload_n C 0 (dk dcL_law_1 39 rfl) rfl rfl ?_
  refine w_iload_n C 3 (dk dcL_law_1 40 rfl) rfl rfl ?_
  refine w_iconst C 1 (dk dcL_law_1 41 rfl) ki_1 ?_
  refine w_iadd C (dk dcL_law_1 42 rfl) ?_
  refine w_sld C hX hbl hbA (by rw [ex]; exact s_in hk hL 1 (by decide)) (dk dcL_law_1 43 rfl) ?_
  refine w_aload_n C 0 (dk dcL_law_1 44 rfl) rfl rfl ?_
  refine w_iload_n C 3 (dk dcL_law_1 45 rfl) rfl rfl ?_
  refine w_iconst C 2 (dk dcL_law_1 46 rfl) ki_2 ?_
  refine w_iadd C (dk dcL_law_1 47 rfl) ?_
  refine w_sld C hX hbl hbA (by rw [ex]; exact s_in hk hL 2 (by decide)) (dk dcL_law_2 0 rfl) ?_
  obtain ⟨g', m', r, e1, e2, hr'⟩ := H _ _ hr (xs (x3 + 1).toNatClampNeg) (xs (x3 + 2).toNatClampNeg)
  refine w_callV1 C (mtX10_set 400 (Nat.le_of_ble_eq_true rfl) e1) wmX10_set wd_405 ⟨Nat.le_of_ble_eq_true rfl, Nat.le_of_ble_eq_true rfl⟩ hcs rfl _ (ce_DB) rfl rfl (Nat.le_of_ble_eq_true rfl) (dk dcL_law_2 1 rfl) ?_
  refine vw_swap ?_
  refine w_aload_n C 2 (dk dcL_law_2 2 rfl) rfl rfl ?_
  refine w_aload_n C 0 (dk dcL_law_2 3 rfl) rfl rfl ?_
  refine w_iload_n C 3 (dk dcL_law_2 4 rfl) rfl rfl ?_
  refine w_iconst C 1 (dk dcL_law_2 5 rfl) ki_1 ?_
  refine w_iadd C (dk dcL_law_2 6 rfl) ?_
  refine w_sld C hX hbl hbA (by rw [ex]; exact s_in hk hL 1 (by decide)) (dk dcL_law_2 7 rfl) ?_
  refine w_aload_n C 0 (dk dcL_law_2 8 rfl) rfl rfl ?_
  refine w_iload_n C 3 (dk dcL_law_2 9 rfl) rfl rfl ?_
  refine w_iconst C 2 (dk dcL_law_2 10 rfl) ki_2 ?_
  refine w_iadd C (dk dcL_law_2 11 rfl) ?_
  refine w_sld C hX hbl hbA (by rw [ex]; exact s_in hk hL 2 (by decide)) (dk dcL_law_2 12 rfl) ?_
  refine w_callV1 C (mtX11_set 400 (Nat.le_of_ble_eq_true rfl) e2) wmX11_set wd_1277 ⟨Nat.le_of_ble_eq_true rfl, Nat.le_of_ble_eq_true rfl⟩ hcs rfl _ (ce_Mo) rfl rfl (Nat.le_of_ble_eq_true rfl) (dk dcL_law_2 13 rfl) ?_
  refine vw_swap ?_
  refine w_icmp_eq C 1192 (dk dcL_law_2 14 rfl) (by decide) (fun _ => ?_) (fun h => absurd rfl h)
  exact kk _ _ hr'
def Step3 (Rl : STt → STt → Prop) : Prop := ∀ (g m : STt), Rl g m → ∀ (x1 : Int32), ∃ (r : Int32), fX10_now g x1 = some r ∧ fX11_now m x1 = some r ∧ Rl g m
set_option maxRecDepth 20000 in
set_option maxHeartbeats 4000000 in
theorem lawc_3 {Rl : STt → STt → Prop} (H : Step3 Rl) {p : Program} {l : Launch} {e : Env} {s : State} {m0 : MethodId} {args : Array Value} {below : List Frame} {meth : Method} {c : Code} {Q : State → Prop} {ce sl : Nat} {E : WEt} (C : CX p s m0 args meth c cL_law 4 RL ret E) {b L : Nat} {xs : Nat → Int32} (hX : va_X b L xs s s.heap) (hbl : b < s.heap.size) (hbA : ¬ E.2.2.2.1 b) (hcs : ce ≤ 600000 ∧ sl ≤ 7302250) {g m : STt} (hr : Rl g m) {x3 : Int32} {k : Nat} (ex : x3 = nI k) (hk : k + 6 ≤ L) (hL : L ≤ 3072) (kk : ∀ g m, Rl g m → VW p l e room_1 s m0 args below meth c Q ce sl E 4 (cellsC E g ++ cellsM E m) [(0, .ref b), (1, .ref (aE E 0 0)), (2, .ref (aE E 28 0)), (3, .int x3)] [] 1192) : VW p l e room_1 s m0 args below meth c Q ce sl E 4 (cellsC E g ++ cellsM E m) [(0, .ref b), (1, .ref (aE E 0 0)), (2, .ref (aE E 28 0)), (3, .int x3)] [] 301 := by
  refine w_aload_n C 1 (dk dcL_law_2 17 rfl) rfl rfl ?_
  refine w_aload_n C 0 (dk dcL_law_2 18 rfl) rfl rfl ?_
  refine w_iload_n C 3 (dk dcL_law_2 19 rfl) rfl rfl ?_
  refine w_iconst C 1 (dk dcL_law_2 20 rfl) ki_1 ?_
  refine w_iadd C (dk dcL_law_2 21 rfl) ?_
  refine w_sld C hX hbl hbA (by rw [ex]; exact s_in hk hL 1 (by decide)) (dk dcL_law_2 22 rfl) ?_
  obtain ⟨r, e1, e2, hr'⟩ := H _ _ hr (xs (x3 + 1).toNatClampNeg)
  refine w_callV1 C (mtX10_now 400 (Nat.le_of_ble_eq_true rfl) e1) wmX10_now wd_420 ⟨Nat.le_of_ble_eq_true rfl, Nat.le_of_ble_eq_true rfl⟩ hcs rfl _ (ce_DB) rfl rfl (Nat.le_of_ble_eq_true rfl) (dk dcL_law_2 23 rfl) ?_
  refine vw_swap ?_
  refine w_aload_n C 2 (dk dcL_law_2 24 rfl) rfl rfl ?_
  refine w_aload_n C 0 (dk dcL_law_2 25 rfl) rfl rfl ?_
  refine w_iload_n C 3 (dk dcL_law_2 26 rfl) rfl rfl ?_
  refine w_iconst C 1 (dk dcL_law_2 27 rfl) ki_1 ?_
  refine w_iadd C (dk dcL_law_2 28 rfl) ?_
  refine w_sld C hX hbl hbA (by rw [ex]; exact s_in hk hL 1 (by decide)) (dk dcL_law_2 29 rfl) ?_
  refine w_callV1 C (mtX11_now 400 (Nat.le_of_ble_eq_true rfl) e2) wmX11_now wd_1285 ⟨Nat.le_of_ble_eq_true rfl, Nat.le_of_ble_eq_true rfl⟩ hcs rfl _ (ce_Mo) rfl rfl (Nat.le_of_ble_eq_true rfl) (dk dcL_law_2 30 rfl) ?_
  refine vw_swap ?_
  refine w_icmp_eq C 1192 (dk dcL_law_2 31 rfl) (by decide) (fun _ => ?_) (fun h => absurd rfl h)
  exact kk _ _ hr'
def Step4 (Rl : STt → STt → Prop) : Prop := ∀ (g m : STt), Rl g m → ∀ (x1 : Int32), ∃ (g' : STt) (m' : STt) (r : Int32), fX10_feed g x1 = some (g', r) ∧ fX11_feed m x1 = some (m', r) ∧ Rl g' m'
set_option maxRecDepth 20000 in
set_option maxHeartbeats 4000000 in
theorem lawc_4 {Rl : STt → STt → Prop} (H : Step4 Rl) {p : Program} {l : Launch} {e : Env} {s : State} {m0 : MethodId} {args : Array Value} {below : List Frame} {meth : Method} {c : Code} {Q : State → Prop} {ce sl : Nat} {E : WEt} (C : CX p s m0 args meth c cL_law 4 RL ret E) {b L : Nat} {xs : Nat → Int32} (hX : va_X b L xs s s.heap) (hbl : b < s.heap.size) (hbA : ¬ E.2.2.2.1 b) (hcs : ce ≤ 600000 ∧ sl ≤ 7302250) {g m : STt} (hr : Rl g m) {x3 : Int32} {k : Nat} (ex : x3 = nI k) (hk : k + 6 ≤ L) (hL : L ≤ 3072) (kk : ∀ g m, Rl g m → VW p l e room_1 s m0 args below meth c Q ce sl E 4 (cellsC E g ++ cellsM E m) [(0, .ref b), (1, .ref (aE E 0 0)), (2, .ref (aE E 28 0)), (3, .int x3)] [] 1192) : VW p l e room_1 s m0 args below meth c Q ce sl E 4 (cellsC E g ++ cellsM E m) [(0, .ref b), (1, .ref (aE E 0 0)), (2, .ref (aE E 28 0)), (3, .int x3)] [] 324 := by
  refine w_aload_n C 1 (dk dcL_law_2 34 rfl) rfl rfl ?_
  refine w_aload_n C 0 (dk dcL_law_2 35 rfl) rfl rfl ?_
  refine w_iload_n C 3 (dk dcL_law_2 36 rfl) rfl rfl ?_
  refine w_iconst C 1 (dk dcL_law_2 37 rfl) ki_1 ?_
  refine w_iadd C (dk dcL_law_2 38 rfl) ?_
  refine w_sld C hX hbl hbA (by rw [ex]; exact s_in hk hL 1 (by decide)) (dk dcL_law_2 39 rfl) ?_
  obtain ⟨g', m', r, e1, e2, hr'⟩ := H _ _ hr (xs (x3 + 1).toNatClampNeg)
  refine w_callV1 C (mtX10_feed 400 (Nat.le_of_ble_eq_true rfl) e1) wmX10_feed wd_433 ⟨Nat.le_of_ble_eq_true rfl, Nat.le_of_ble_eq_true rfl⟩ hcs rfl _ (ce_DB) rfl rfl (Nat.le_of_ble_eq_true rfl) (dk dcL_law_2 40 rfl) ?_
  refine vw_swap ?_
  refine w_aload_n C 2 (dk dcL_law_2 41 rfl) rfl rfl ?_
  refine w_aload_n C 0 (dk dcL_law_2 42 rfl) rfl rfl ?_
  refine w_iload_n C 3 (dk dcL_law_2 43 rfl) rfl rfl ?_
  refine w_iconst C 1 (dk dcL_law_2 44 rfl) ki_1 ?_
  refine w_iadd C (dk dcL_law_2 45 rfl) ?_
  refine w_sld C hX hbl hbA (by rw [ex]; exact s_in hk hL 1 (by decide)) (dk dcL_law_2 46 rfl) ?_
  refine w_callV1 C (mtX11_feed 400 (Nat.le_of_ble_eq_true rfl) e2) wmX11_feed wd_1297 ⟨Nat.le_of_ble_eq_true rfl, Nat.le_of_ble_eq_true rfl⟩ hcs rfl _ (ce_Mo) rfl rfl (Nat.le_of_ble_eq_true rfl) (dk dcL_law_2 47 rfl) ?_
  refine vw_swap ?_
  refine w_icmp_eq C 1192 (dk dcL_law_3 0 rfl) (by decide) (fun _ => ?_) (fun h => absurd rfl h)
  exact kk _ _ hr'
def Step5 (Rl : STt → STt → Prop) : Prop := ∀ (g m : STt), Rl g m → ∃ (g' : STt) (m' : STt) (r : Int32), fX10_law g = some (g', r) ∧ fX11_law m = some (m', r) ∧ Rl g' m'
set_option maxRecDepth 20000 in
set_option maxHeartbeats 4000000 in
theorem lawc_5 {Rl : STt → STt → Prop} (H : Step5 Rl) {p : Program} {l : Launch} {e : Env} {s : State} {m0 : MethodId} {args : Array Value} {below : List Frame} {meth : Method} {c : Code} {Q : State → Prop} {ce sl : Nat} {E : WEt} (C : CX p s m0 args meth c cL_law 4 RL ret E) {b L : Nat} {xs : Nat → Int32} (hX : va_X b L xs s s.heap) (hbl : b < s.heap.size) (hbA : ¬ E.2.2.2.1 b) (hcs : ce ≤ 600000 ∧ sl ≤ 7302250) {g m : STt} (hr : Rl g m) {x3 : Int32} {k : Nat} (ex : x3 = nI k) (hk : k + 6 ≤ L) (hL : L ≤ 3072) (kk : ∀ g m, Rl g m → VW p l e room_1 s m0 args below meth c Q ce sl E 4 (cellsC E g ++ cellsM E m) [(0, .ref b), (1, .ref (aE E 0 0)), (2, .ref (aE E 28 0)), (3, .int x3)] [] 1192) : VW p l e room_1 s m0 args below meth c Q ce sl E 4 (cellsC E g ++ cellsM E m) [(0, .ref b), (1, .ref (aE E 0 0)), (2, .ref (aE E 28 0)), (3, .int x3)] [] 347 := by
  refine w_aload_n C 1 (dk dcL_law_3 3 rfl) rfl rfl ?_
  obtain ⟨g', m', r, e1, e2, hr'⟩ := H _ _ hr
  refine w_callV1 C (mtX10_law 400 (Nat.le_of_ble_eq_true rfl) e1) wmX10_law wd_453 ⟨Nat.le_of_ble_eq_true rfl, Nat.le_of_ble_eq_true rfl⟩ hcs rfl _ (ce_DB) rfl rfl (Nat.le_of_ble_eq_true rfl) (dk dcL_law_3 4 rfl) ?_
  refine vw_swap ?_
  refine w_aload_n C 2 (dk dcL_law_3 5 rfl) rfl rfl ?_
  refine w_callV1 C (mtX11_law 400 (Nat.le_of_ble_eq_true rfl) e2) wmX11_law wd_1301 ⟨Nat.le_of_ble_eq_true rfl, Nat.le_of_ble_eq_true rfl⟩ hcs rfl _ (ce_Mo) rfl rfl (Nat.le_of_ble_eq_true rfl) (dk dcL_law_3 6 rfl) ?_
  refine vw_swap ?_
  refine w_icmp_eq C 1192 (dk dcL_law_3 7 rfl) (by decide) (fun _ => ?_) (fun h => absurd rfl h)
  exact kk _ _ hr'
def Step6 (Rl : STt → STt → Prop) : Prop := ∀ (g m : STt), Rl g m → ∀ (x1 : Int32), ∃ (g' : STt) (m' : STt) (r : Int32), fX10_told g x1 = some (g', r) ∧ fX11_told m x1 = some (m', r) ∧ Rl g' m'
set_option maxRecDepth 20000 in
set_option maxHeartbeats 4000000 in
theorem lawc_6 {Rl : STt → STt → Prop} (H : Step6 Rl) {p : Program} {l : Launch} {e : Env} {s : State} {m0 : MethodId} {args : Array Value} {below : List Frame} {meth : Method} {c : Code} {Q : State → Prop} {ce sl : Nat} {E : WEt} (C : CX p s m0 args meth c cL_law 4 RL ret E) {b L : Nat} {xs : Nat → Int32} (hX : va_X b L xs s s.heap) (hbl : b < s.heap.size) (hbA : ¬ E.2.2.2.1 b) (hcs : ce ≤ 600000 ∧ sl ≤ 7302250) {g m : STt} (hr : Rl g m) {x3 : Int32} {k : Nat} (ex : x3 = nI k) (hk : k + 6 ≤ L) (hL : L ≤ 3072) (kk : ∀ g m, Rl g m → VW p l e room_1 s m0 args below meth c Q ce sl E 4 (cellsC E g ++ cellsM E m) [(0, .ref b), (1, .ref (aE E 0 0)), (2, .ref (aE E 28 0)), (3, .int x3)] [] 1192) : VW p l e room_1 s m0 args below meth c Q ce sl E 4 (cellsC E g ++ cellsM E m) [(0, .ref b), (1, .ref (aE E 0 0)), (2, .ref (aE E 28 0)), (3, .int x3)] [] 360 := by
  refine w_aload_n C 1 (dk dcL_law_3 10 rfl) rfl rfl ?_
  refine w_aload_n C 0 (dk dcL_law_3 11 rfl) rfl rfl ?_
  refine w_iload_n C 3 (dk dcL_law_3 12 rfl) rfl rfl ?_
  refine w_iconst C 1 (dk dcL_law_3 13 rfl) ki_1 ?_
  refine w_iadd C (dk dcL_law_3 14 rfl) ?_
  refine w_sld C hX hbl hbA (by rw [ex]; exact s_in hk hL 1 (by decide)) (dk dcL_law_3 15 rfl) ?_
  obtain ⟨g', m', r, e1, e2, hr'⟩ := H _ _ hr (xs (x3 + 1).toNatClampNeg)
  refine w_callV1 C (mtX10_told 400 (Nat.le_of_ble_eq_true rfl) e1) wmX10_told wd_647 ⟨Nat.le_of_ble_eq_true rfl, Nat.le_of_ble_eq_true rfl⟩ hcs rfl _ (ce_DB) rfl rfl (Nat.le_of_ble_eq_true rfl) (dk dcL_law_3 16 rfl) ?_
  refine vw_swap ?_
  refine w_aload_n C 2 (dk dcL_law_3 17 rfl) rfl rfl ?_
  refine w_aload_n C 0 (dk dcL_law_3 18 rfl) rfl rfl ?_
  refine w_iload_n C 3 (dk dcL_law_3 19 rfl) rfl rfl ?_
  refine w_iconst C 1 (dk dcL_law_3 20 rfl) ki_1 ?_
  refine w_iadd C (dk dcL_law_3 21 rfl) ?_
  refine w_sld C hX hbl hbA (by rw [ex]; exact s_in hk hL 1 (by decide)) (dk dcL_law_3 22 rfl) ?_
  refine w_callV1 C (mtX11_told 400 (Nat.le_of_ble_eq_true rfl) e2) wmX11_told wd_1353 ⟨Nat.le_of_ble_eq_true rfl, Nat.le_of_ble_eq_true rfl⟩ hcs rfl _ (ce_Mo) rfl rfl (Nat.le_of_ble_eq_true rfl) (dk dcL_law_3 23 rfl) ?_
  refine vw_swap ?_
  refine w_icmp_eq C 1192 (dk dcL_law_3 24 rfl) (by decide) (fun _ => ?_) (fun h => absurd rfl h)
  exact kk _ _ hr'
def Step7 (Rl : STt → STt → Prop) : Prop := ∀ (g m : STt), Rl g m → ∀ (x1 : Int32), ∃ (g' : STt) (m' : STt) (r : Int32), fX10_drive g x1 = some (g', r) ∧ fX11_drive m x1 = some (m', r) ∧ Rl g' m'
set_option maxRecDepth 20000 in
set_option maxHeartbeats 4000000 in
theorem lawc_7 {Rl : STt → STt → Prop} (H : Step7 Rl) {p : Program} {l : Launch} {e : Env} {s : State} {m0 : MethodId} {args : Array Value} {below : List Frame} {meth : Method} {c : Code} {Q : State → Prop} {ce sl : Nat} {E : WEt} (C : CX p s m0 args meth c cL_law 4 RL ret E) {b L : Nat} {xs : Nat → Int32} (hX : va_X b L xs s s.heap) (hbl : b < s.heap.size) (hbA : ¬ E.2.2.2.1 b) (hcs : ce ≤ 600000 ∧ sl ≤ 7302250) {g m : STt} (hr : Rl g m) {x3 : Int32} {k : Nat} (ex : x3 = nI k) (hk : k + 6 ≤ L) (hL : L ≤ 3072) (kk : ∀ g m, Rl g m → VW p l e room_1 s m0 args below meth c Q ce sl E 4 (cellsC E g ++ cellsM E m) [(0, .ref b), (1, .ref (aE E 0 0)), (2, .ref (aE E 28 0)), (3, .int x3)] [] 1192) : VW p l e room_1 s m0 args below meth c Q ce sl E 4 (cellsC E g ++ cellsM E m) [(0, .ref b), (1, .ref (aE E 0 0)), (2, .ref (aE E 28 0)), (3, .int x3)] [] 383 := by
  refine w_aload_n C 1 (dk dcL_law_3 27 rfl) rfl rfl ?_
  refine w_aload_n C 0 (dk dcL_law_3 28 rfl) rfl rfl ?_
  refine w_iload_n C 3 (dk dcL_law_3 29 rfl) rfl rfl ?_
  refine w_iconst C 1 (dk dcL_law_3 30 rfl) ki_1 ?_
  refine w_iadd C (dk dcL_law_3 31 rfl) ?_
  refine w_sld C hX hbl hbA (by rw [ex]; exact s_in hk hL 1 (by decide)) (dk dcL_law_3 32 rfl) ?_
  obtain ⟨g', m', r, e1, e2, hr'⟩ := H _ _ hr (xs (x3 + 1).toNatClampNeg)
  refine w_callV1 C (mtX10_drive 400 (Nat.le_of_ble_eq_true rfl) e1) wmX10_drive wd_691 ⟨Nat.le_of_ble_eq_true rfl, Nat.le_of_ble_eq_true rfl⟩ hcs rfl _ (ce_DB) rfl rfl (Nat.le_of_ble_eq_true rfl) (dk dcL_law_3 33 rfl) ?_
  refine vw_swap ?_
  refine w_aload_n C 2 (dk dcL_law_3 34 rfl) rfl rfl ?_
  refine w_aload_n C 0 (dk dcL_law_3 35 rfl) rfl rfl ?_
  refine w_iload_n C 3 (dk dcL_law_3 36 rfl) rfl rfl ?_
  refine w_iconst C 1 (dk dcL_law_3 37 rfl) ki_1 ?_
  refine w_iadd C (dk dcL_law_3 38 rfl) ?_
  refine w_sld C hX hbl hbA (by rw [ex]; exact s_in hk hL 1 (by decide)) (dk dcL_law_3 39 rfl) ?_
  refine w_callV1 C (mtX11_drive 400 (Nat.le_of_ble_eq_true rfl) e2) wmX11_drive wd_1386 ⟨Nat.le_of_ble_eq_true rfl, Nat.le_of_ble_eq_true rfl⟩ hcs rfl _ (ce_Mo) rfl rfl (Nat.le_of_ble_eq_true rfl) (dk dcL_law_3 40 rfl) ?_
  refine vw_swap ?_
  refine w_icmp_eq C 1192 (dk dcL_law_3 41 rfl) (by decide) (fun _ => ?_) (fun h => absurd rfl h)
  exact kk _ _ hr'
def Step8 (Rl : STt → STt → Prop) : Prop := ∀ (g m : STt), Rl g m → ∀ (x1 : Int32), ∃ (g' : STt) (m' : STt) (r : Int32), fX10_would g x1 = some (g', r) ∧ fX11_would m x1 = some (m', r) ∧ Rl g' m'
set_option maxRecDepth 20000 in
set_option maxHeartbeats 4000000 in
theorem lawc_8 {Rl : STt → STt → Prop} (H : Step8 Rl) {p : Program} {l : Launch} {e : Env} {s : State} {m0 : MethodId} {args : Array Value} {below : List Frame} {meth : Method} {c : Code} {Q : State → Prop} {ce sl : Nat} {E : WEt} (C : CX p s m0 args meth c cL_law 4 RL ret E) {b L : Nat} {xs : Nat → Int32} (hX : va_X b L xs s s.heap) (hbl : b < s.heap.size) (hbA : ¬ E.2.2.2.1 b) (hcs : ce ≤ 600000 ∧ sl ≤ 7302250) {g m : STt} (hr : Rl g m) {x3 : Int32} {k : Nat} (ex : x3 = nI k) (hk : k + 6 ≤ L) (hL : L ≤ 3072) (kk : ∀ g m, Rl g m → VW p l e room_1 s m0 args below meth c Q ce sl E 4 (cellsC E g ++ cellsM E m) [(0, .ref b), (1, .ref (aE E 0 0)), (2, .ref (aE E 28 0)), (3, .int x3)] [] 1192) : VW p l e room_1 s m0 args below meth c Q ce sl E 4 (cellsC E g ++ cellsM E m) [(0, .ref b), (1, .ref (aE E 0 0)), (2, .ref (aE E 28 0)), (3, .int x3)] [] 406 := by
  refine w_aload_n C 1 (dk dcL_law_3 44 rfl) rfl rfl ?_
  refine w_aload_n C 0 (dk dcL_law_3 45 rfl) rfl rfl ?_
  refine w_iload_n C 3 (dk dcL_law_3 46 rfl) rfl rfl ?_
  refine w_iconst C 1 (dk dcL_law_3 47 rfl) ki_1 ?_
  refine w_iadd C (dk dcL_law_4 0 rfl) ?_
  refine w_sld C hX hbl hbA (by rw [ex]; exact s_in hk hL 1 (by decide)) (dk dcL_law_4 1 rfl) ?_
  obtain ⟨g', m', r, e1, e2, hr'⟩ := H _ _ hr (xs (x3 + 1).toNatClampNeg)
  refine w_callV1 C (mtX10_would 400 (Nat.le_of_ble_eq_true rfl) e1) wmX10_would wd_718 ⟨Nat.le_of_ble_eq_true rfl, Nat.le_of_ble_eq_true rfl⟩ hcs rfl _ (ce_DB) rfl rfl (Nat.le_of_ble_eq_true rfl) (dk dcL_law_4 2 rfl) ?_
  refine vw_swap ?_
  refine w_aload_n C 2 (dk dcL_law_4 3 rfl) rfl rfl ?_
  refine w_aload_n C 0 (dk dcL_law_4 4 rfl) rfl rfl ?_
  refine w_iload_n C 3 (dk dcL_law_4 5 rfl) rfl rfl ?_
  refine w_iconst C 1 (dk dcL_law_4 6 rfl) ki_1 ?_
  refine w_iadd C (dk dcL_law_4 7 rfl) ?_
  refine w_sld C hX hbl hbA (by rw [ex]; exact s_in hk hL 1 (by decide)) (dk dcL_law_4 8 rfl) ?_
  refine w_callV1 C (mtX11_would 400 (Nat.le_of_ble_eq_true rfl) e2) wmX11_would wd_1407 ⟨Nat.le_of_ble_eq_true rfl, Nat.le_of_ble_eq_true rfl⟩ hcs rfl _ (ce_Mo) rfl rfl (Nat.le_of_ble_eq_true rfl) (dk dcL_law_4 9 rfl) ?_
  refine vw_swap ?_
  refine w_icmp_eq C 1192 (dk dcL_law_4 10 rfl) (by decide) (fun _ => ?_) (fun h => absurd rfl h)
  exact kk _ _ hr'
def Step9 (Rl : STt → STt → Prop) : Prop := ∀ (g m : STt), Rl g m → ∀ (x1 : Int32), ∃ (g' : STt) (m' : STt) (r : Int32), fX10_go g x1 = some (g', r) ∧ fX11_go m x1 = some (m', r) ∧ Rl g' m'
set_option maxRecDepth 20000 in
set_option maxHeartbeats 4000000 in
theorem lawc_9 {Rl : STt → STt → Prop} (H : Step9 Rl) {p : Program} {l : Launch} {e : Env} {s : State} {m0 : MethodId} {args : Array Value} {below : List Frame} {meth : Method} {c : Code} {Q : State → Prop} {ce sl : Nat} {E : WEt} (C : CX p s m0 args meth c cL_law 4 RL ret E) {b L : Nat} {xs : Nat → Int32} (hX : va_X b L xs s s.heap) (hbl : b < s.heap.size) (hbA : ¬ E.2.2.2.1 b) (hcs : ce ≤ 600000 ∧ sl ≤ 7302250) {g m : STt} (hr : Rl g m) {x3 : Int32} {k : Nat} (ex : x3 = nI k) (hk : k + 6 ≤ L) (hL : L ≤ 3072) (kk : ∀ g m, Rl g m → VW p l e room_1 s m0 args below meth c Q ce sl E 4 (cellsC E g ++ cellsM E m) [(0, .ref b), (1, .ref (aE E 0 0)), (2, .ref (aE E 28 0)), (3, .int x3)] [] 1192) : VW p l e room_1 s m0 args below meth c Q ce sl E 4 (cellsC E g ++ cellsM E m) [(0, .ref b), (1, .ref (aE E 0 0)), (2, .ref (aE E 28 0)), (3, .int x3)] [] 429 := by
  refine w_aload_n C 1 (dk dcL_law_4 13 rfl) rfl rfl ?_
  refine w_aload_n C 0 (dk dcL_law_4 14 rfl) rfl rfl ?_
  refine w_iload_n C 3 (dk dcL_law_4 15 rfl) rfl rfl ?_
  refine w_iconst C 1 (dk dcL_law_4 16 rfl) ki_1 ?_
  refine w_iadd C (dk dcL_law_4 17 rfl) ?_
  refine w_sld C hX hbl hbA (by rw [ex]; exact s_in hk hL 1 (by decide)) (dk dcL_law_4 18 rfl) ?_
  obtain ⟨g', m', r, e1, e2, hr'⟩ := H _ _ hr (xs (x3 + 1).toNatClampNeg)
  refine w_callV1 C (mtX10_go 400 (Nat.le_of_ble_eq_true rfl) e1) wmX10_go wd_731 ⟨Nat.le_of_ble_eq_true rfl, Nat.le_of_ble_eq_true rfl⟩ hcs rfl _ (ce_DB) rfl rfl (Nat.le_of_ble_eq_true rfl) (dk dcL_law_4 19 rfl) ?_
  refine vw_swap ?_
  refine w_aload_n C 2 (dk dcL_law_4 20 rfl) rfl rfl ?_
  refine w_aload_n C 0 (dk dcL_law_4 21 rfl) rfl rfl ?_
  refine w_iload_n C 3 (dk dcL_law_4 22 rfl) rfl rfl ?_
  refine w_iconst C 1 (dk dcL_law_4 23 rfl) ki_1 ?_
  refine w_iadd C (dk dcL_law_4 24 rfl) ?_
  refine w_sld C hX hbl hbA (by rw [ex]; exact s_in hk hL 1 (by decide)) (dk dcL_law_4 25 rfl) ?_
  refine w_callV1 C (mtX11_go 400 (Nat.le_of_ble_eq_true rfl) e2) wmX11_go wd_1415 ⟨Nat.le_of_ble_eq_true rfl, Nat.le_of_ble_eq_true rfl⟩ hcs rfl _ (ce_Mo) rfl rfl (Nat.le_of_ble_eq_true rfl) (dk dcL_law_4 26 rfl) ?_
  refine vw_swap ?_
  refine w_icmp_eq C 1192 (dk dcL_law_4 27 rfl) (by decide) (fun _ => ?_) (fun h => absurd rfl h)
  exact kk _ _ hr'
def Step10 (Rl : STt → STt → Prop) : Prop := ∀ (g m : STt), Rl g m → ∀ (x1 : Int32), ∃ (g' : STt) (m' : STt) (r : Int32), fX10_row g x1 = some (g', r) ∧ fX11_row m x1 = some (m', r) ∧ Rl g' m'
set_option maxRecDepth 20000 in
set_option maxHeartbeats 4000000 in
theorem lawc_10 {Rl : STt → STt → Prop} (H : Step10 Rl) {p : Program} {l : Launch} {e : Env} {s : State} {m0 : MethodId} {args : Array Value} {below : List Frame} {meth : Method} {c : Code} {Q : State → Prop} {ce sl : Nat} {E : WEt} (C : CX p s m0 args meth c cL_law 4 RL ret E) {b L : Nat} {xs : Nat → Int32} (hX : va_X b L xs s s.heap) (hbl : b < s.heap.size) (hbA : ¬ E.2.2.2.1 b) (hcs : ce ≤ 600000 ∧ sl ≤ 7302250) {g m : STt} (hr : Rl g m) {x3 : Int32} {k : Nat} (ex : x3 = nI k) (hk : k + 6 ≤ L) (hL : L ≤ 3072) (kk : ∀ g m, Rl g m → VW p l e room_1 s m0 args below meth c Q ce sl E 4 (cellsC E g ++ cellsM E m) [(0, .ref b), (1, .ref (aE E 0 0)), (2, .ref (aE E 28 0)), (3, .int x3)] [] 1192) : VW p l e room_1 s m0 args below meth c Q ce sl E 4 (cellsC E g ++ cellsM E m) [(0, .ref b), (1, .ref (aE E 0 0)), (2, .ref (aE E 28 0)), (3, .int x3)] [] 452 := by
  refine w_aload_n C 1 (dk dcL_law_4 30 rfl) rfl rfl ?_
  refine w_aload_n C 0 (dk dcL_law_4 31 rfl) rfl rfl ?_
  refine w_iload_n C 3 (dk dcL_law_4 32 rfl) rfl rfl ?_
  refine w_iconst C 1 (dk dcL_law_4 33 rfl) ki_1 ?_
  refine w_iadd C (dk dcL_law_4 34 rfl) ?_
  refine w_sld C hX hbl hbA (by rw [ex]; exact s_in hk hL 1 (by decide)) (dk dcL_law_4 35 rfl) ?_
  obtain ⟨g', m', r, e1, e2, hr'⟩ := H _ _ hr (xs (x3 + 1).toNatClampNeg)
  refine w_callV1 C (mtX10_row 400 (Nat.le_of_ble_eq_true rfl) e1) wmX10_row wd_759 ⟨Nat.le_of_ble_eq_true rfl, Nat.le_of_ble_eq_true rfl⟩ hcs rfl _ (ce_DB) rfl rfl (Nat.le_of_ble_eq_true rfl) (dk dcL_law_4 36 rfl) ?_
  refine vw_swap ?_
  refine w_aload_n C 2 (dk dcL_law_4 37 rfl) rfl rfl ?_
  refine w_aload_n C 0 (dk dcL_law_4 38 rfl) rfl rfl ?_
  refine w_iload_n C 3 (dk dcL_law_4 39 rfl) rfl rfl ?_
  refine w_iconst C 1 (dk dcL_law_4 40 rfl) ki_1 ?_
  refine w_iadd C (dk dcL_law_4 41 rfl) ?_
  refine w_sld C hX hbl hbA (by rw [ex]; exact s_in hk hL 1 (by decide)) (dk dcL_law_4 42 rfl) ?_
  refine w_callV1 C (mtX11_row 400 (Nat.le_of_ble_eq_true rfl) e2) wmX11_row wd_1435 ⟨Nat.le_of_ble_eq_true rfl, Nat.le_of_ble_eq_true rfl⟩ hcs rfl _ (ce_Mo) rfl rfl (Nat.le_of_ble_eq_true rfl) (dk dcL_law_4 43 rfl) ?_
  refine vw_swap ?_
  refine w_icmp_eq C 1192 (dk dcL_law_4 44 rfl) (by decide) (fun _ => ?_) (fun h => absurd rfl h)
  exact kk _ _ hr'
def Step11 (Rl : STt → STt → Prop) : Prop := ∀ (g m : STt), Rl g m → ∀ (x1 : Int32) (x2 : Int32), ∃ (g' : STt) (m' : STt) (r : Int32), fX10_hand g x1 x2 = some (g', r) ∧ fX11_hand m x1 x2 = some (m', r) ∧ Rl g' m'
set_option maxRecDepth 20000 in
set_option maxHeartbeats 4000000 in
theorem lawc_11 {Rl : STt → STt → Prop} (H : Step11 Rl) {p : Program} {l : Launch} {e : Env} {s : State} {m0 : MethodId} {args : Array Value} {below : List Frame} {meth : Method} {c : Code} {Q : State → Prop} {ce sl : Nat} {E : WEt} (C : CX p s m0 args meth c cL_law 4 RL ret E) {b L : Nat} {xs : Nat → Int32} (hX : va_X b L xs s s.heap) (hbl : b < s.heap.size) (hbA : ¬ E.2.2.2.1 b) (hcs : ce ≤ 600000 ∧ sl ≤ 7302250) {g m : STt} (hr : Rl g m) {x3 : Int32} {k : Nat} (ex : x3 = nI k) (hk : k + 6 ≤ L) (hL : L ≤ 3072) (kk : ∀ g m, Rl g m → VW p l e room_1 s m0 args below meth c Q ce sl E 4 (cellsC E g ++ cellsM E m) [(0, .ref b), (1, .ref (aE E 0 0)), (2, .ref (aE E 28 0)), (3, .int x3)] [] 1192) : VW p l e room_1 s m0 args below meth c Q ce sl E 4 (cellsC E g ++ cellsM E m) [(0, .ref b), (1, .ref (aE E 0 0)), (2, .ref (aE E 28 0)), (3, .int x3)] [] 475 := by
  refine w_aload_n C 1 (dk dcL_law_4 47 rfl) rfl rfl ?_
  refine w_aload_n C 0 (dk dcL_law_5 0 rfl) rfl rfl ?_
  refine w_iload_n C 3 (dk dcL_law_5 1 rfl) rfl rfl ?_
  refine w_iconst C 1 (dk dcL_law_5 2 rfl) ki_1 ?_
  refine w_iadd C (dk dcL_law_5 3 rfl) ?_
  refine w_sld C hX hbl hbA (by rw [ex]; exact s_in hk hL 1 (by decide)) (dk dcL_law_5 4 rfl) ?_
  refine w_aload_n C 0 (dk dcL_law_5 5 rfl) rfl rfl ?_
  refine w_iload_n C 3 (dk dcL_law_5 6 rfl) rfl rfl ?_
  refine w_iconst C 2 (dk dcL_law_5 7 rfl) ki_2 ?_
  refine w_iadd C (dk dcL_law_5 8 rfl) ?_
  refine w_sld C hX hbl hbA (by rw [ex]; exact s_in hk hL 2 (by decide)) (dk dcL_law_5 9 rfl) ?_
  obtain ⟨g', m', r, e1, e2, hr'⟩ := H _ _ hr (xs (x3 + 1).toNatClampNeg) (xs (x3 + 2).toNatClampNeg)
  refine w_callV1 C (mtX10_hand 400 (Nat.le_of_ble_eq_true rfl) e1) wmX10_hand wd_769 ⟨Nat.le_of_ble_eq_true rfl, Nat.le_of_ble_eq_true rfl⟩ hcs rfl _ (ce_DB) rfl rfl (Nat.le_of_ble_eq_true rfl) (dk dcL_law_5 10 rfl) ?_
  refine vw_swap ?_
  refine w_aload_n C 2 (dk dcL_law_5 11 rfl) rfl rfl ?_
  refine w_aload_n C 0 (dk dcL_law_5 12 rfl) rfl rfl ?_
  refine w_iload_n C 3 (dk dcL_law_5 13 rfl) rfl rfl ?_
  refine w_iconst C 1 (dk dcL_law_5 14 rfl) ki_1 ?_
  refine w_iadd C (dk dcL_law_5 15 rfl) ?_
  refine w_sld C hX hbl hbA (by rw [ex]; exact s_in hk hL 1 (by decide)) (dk dcL_law_5 16 rfl) ?_
  refine w_aload_n C 0 (dk dcL_law_5 17 rfl) rfl rfl ?_
  refine w_iload_n C 3 (dk dcL_law_5 18 rfl) rfl rfl ?_
  refine w_iconst C 2 (dk dcL_law_5 19 rfl) ki_2 ?_
  refine w_iadd C (dk dcL_law_5 20 rfl) ?_
  refine w_sld C hX hbl hbA (by rw [ex]; exact s_in hk hL 2 (by decide)) (dk dcL_law_5 21 rfl) ?_
  refine w_callV1 C (mtX11_hand 400 (Nat.le_of_ble_eq_true rfl) e2) wmX11_hand wd_1439 ⟨Nat.le_of_ble_eq_true rfl, Nat.le_of_ble_eq_true rfl⟩ hcs rfl _ (ce_Mo) rfl rfl (Nat.le_of_ble_eq_true rfl) (dk dcL_law_5 22 rfl) ?_
  refine vw_swap ?_
  refine w_icmp_eq C 1192 (dk dcL_law_5 23 rfl) (by decide) (fun _ => ?_) (fun h => absurd rfl h)
  exact kk _ _ hr'
def Step12 (Rl : STt → STt → Prop) : Prop := ∀ (g m : STt), Rl g m → ∀ (x1 : Int32) (x2 : Int32), ∃ (g' : STt) (m' : STt) (r : Int32), fX10_soonest g x1 x2 = some (g', r) ∧ fX11_soonest m x1 x2 = some (m', r) ∧ Rl g' m'
set_option maxRecDepth 20000 in
set_option maxHeartbeats 4000000 in
theorem lawc_12 {Rl : STt → STt → Prop} (H : Step12 Rl) {p : Program} {l : Launch} {e : Env} {s : State} {m0 : MethodId} {args : Array Value} {below : List Frame} {meth : Method} {c : Code} {Q : State → Prop} {ce sl : Nat} {E : WEt} (C : CX p s m0 args meth c cL_law 4 RL ret E) {b L : Nat} {xs : Nat → Int32} (hX : va_X b L xs s s.heap) (hbl : b < s.heap.size) (hbA : ¬ E.2.2.2.1 b) (hcs : ce ≤ 600000 ∧ sl ≤ 7302250) {g m : STt} (hr : Rl g m) {x3 : Int32} {k : Nat} (ex : x3 = nI k) (hk : k + 6 ≤ L) (hL : L ≤ 3072) (kk : ∀ g m, Rl g m → VW p l e room_1 s m0 args below meth c Q ce sl E 4 (cellsC E g ++ cellsM E m) [(0, .ref b), (1, .ref (aE E 0 0)), (2, .ref (aE E 28 0)), (3, .int x3)] [] 1192) : VW p l e room_1 s m0 args below meth c Q ce sl E 4 (cellsC E g ++ cellsM E m) [(0, .ref b), (1, .ref (aE E 0 0)), (2, .ref (aE E 28 0)), (3, .int x3)] [] 508 := by
  refine w_aload_n C 1 (dk dcL_law_5 26 rfl) rfl rfl ?_
  refine w_aload_n C 0 (dk dcL_law_5 27 rfl) rfl rfl ?_
  refine w_iload_n C 3 (dk dcL_law_5 28 rfl) rfl rfl ?_
  refine w_iconst C 1 (dk dcL_law_5 29 rfl) ki_1 ?_
  refine w_iadd C (dk dcL_law_5 30 rfl) ?_
  refine w_sld C hX hbl hbA (by rw [ex]; exact s_in hk hL 1 (by decide)) (dk dcL_law_5 31 rfl) ?_
  refine w_aload_n C 0 (dk dcL_law_5 32 rfl) rfl rfl ?_
  refine w_iload_n C 3 (dk dcL_law_5 33 rfl) rfl rfl ?_
  refine w_iconst C 2 (dk dcL_law_5 34 rfl) ki_2 ?_
  refine w_iadd C (dk dcL_law_5 35 rfl) ?_
  refine w_sld C hX hbl hbA (by rw [ex]; exact s_in hk hL 2 (by decide)) (dk dcL_law_5 36 rfl) ?_
  obtain ⟨g', m', r, e1, e2, hr'⟩ := H _ _ hr (xs (x3 + 1).toNatClampNeg) (xs (x3 + 2).toNatClampNeg)
  refine w_callV1 C (mtX10_soonest 400 (Nat.le_of_ble_eq_true rfl) e1) wmX10_soonest wd_800 ⟨Nat.le_of_ble_eq_true rfl, Nat.le_of_ble_eq_true rfl⟩ hcs rfl _ (ce_DB) rfl rfl (Nat.le_of_ble_eq_true rfl) (dk dcL_law_5 37 rfl) ?_
  refine vw_swap ?_
  refine w_aload_n C 2 (dk dcL_law_5 38 rfl) rfl rfl ?_
  refine w_aload_n C 0 (dk dcL_law_5 39 rfl) rfl rfl ?_
  refine w_iload_n C 3 (dk dcL_law_5 40 rfl) rfl rfl ?_
  refine w_iconst C 1 (dk dcL_law_5 41 rfl) ki_1 ?_
  refine w_iadd C (dk dcL_law_5 42 rfl) ?_
  refine w_sld C hX hbl hbA (by rw [ex]; exact s_in hk hL 1 (by decide)) (dk dcL_law_5 43 rfl) ?_
  refine w_aload_n C 0 (dk dcL_law_5 44 rfl) rfl rfl ?_
  refine w_iload_n C 3 (dk dcL_law_5 45 rfl) rfl rfl ?_
  refine w_iconst C 2 (dk dcL_law_5 46 rfl) ki_2 ?_
  refine w_iadd C (dk dcL_law_5 47 rfl) ?_
  refine w_sld C hX hbl hbA (by rw [ex]; exact s_in hk hL 2 (by decide)) (dk dcL_law_6 0 rfl) ?_
  refine w_callV1 C (mtX11_soonest 400 (Nat.le_of_ble_eq_true rfl) e2) wmX11_soonest wd_1451 ⟨Nat.le_of_ble_eq_true rfl, Nat.le_of_ble_eq_true rfl⟩ hcs rfl _ (ce_Mo) rfl rfl (Nat.le_of_ble_eq_true rfl) (dk dcL_law_6 1 rfl) ?_
  refine vw_swap ?_
  refine w_icmp_eq C 1192 (dk dcL_law_6 2 rfl) (by decide) (fun _ => ?_) (fun h => absurd rfl h)
  exact kk _ _ hr'
def Step13 (Rl : STt → STt → Prop) : Prop := ∀ (g m : STt), Rl g m → ∀ (x1 : Int32) (x2 : Int32), ∃ (g' : STt) (m' : STt) (r : Int32), fX10_gentlest g x1 x2 = some (g', r) ∧ fX11_gentlest m x1 x2 = some (m', r) ∧ Rl g' m'
set_option maxRecDepth 20000 in
set_option maxHeartbeats 4000000 in
theorem lawc_13 {Rl : STt → STt → Prop} (H : Step13 Rl) {p : Program} {l : Launch} {e : Env} {s : State} {m0 : MethodId} {args : Array Value} {below : List Frame} {meth : Method} {c : Code} {Q : State → Prop} {ce sl : Nat} {E : WEt} (C : CX p s m0 args meth c cL_law 4 RL ret E) {b L : Nat} {xs : Nat → Int32} (hX : va_X b L xs s s.heap) (hbl : b < s.heap.size) (hbA : ¬ E.2.2.2.1 b) (hcs : ce ≤ 600000 ∧ sl ≤ 7302250) {g m : STt} (hr : Rl g m) {x3 : Int32} {k : Nat} (ex : x3 = nI k) (hk : k + 6 ≤ L) (hL : L ≤ 3072) (kk : ∀ g m, Rl g m → VW p l e room_1 s m0 args below meth c Q ce sl E 4 (cellsC E g ++ cellsM E m) [(0, .ref b), (1, .ref (aE E 0 0)), (2, .ref (aE E 28 0)), (3, .int x3)] [] 1192) : VW p l e room_1 s m0 args below meth c Q ce sl E 4 (cellsC E g ++ cellsM E m) [(0, .ref b), (1, .ref (aE E 0 0)), (2, .ref (aE E 28 0)), (3, .int x3)] [] 541 := by
  refine w_aload_n C 1 (dk dcL_law_6 5 rfl) rfl rfl ?_
  refine w_aload_n C 0 (dk dcL_law_6 6 rfl) rfl rfl ?_
  refine w_iload_n C 3 (dk dcL_law_6 7 rfl) rfl rfl ?_
  refine w_iconst C 1 (dk dcL_law_6 8 rfl) ki_1 ?_
  refine w_iadd C (dk dcL_law_6 9 rfl) ?_
  refine w_sld C hX hbl hbA (by rw [ex]; exact s_in hk hL 1 (by decide)) (dk dcL_law_6 10 rfl) ?_
  refine w_aload_n C 0 (dk dcL_law_6 11 rfl) rfl rfl ?_
  refine w_iload_n C 3 (dk dcL_law_6 12 rfl) rfl rfl ?_
  refine w_iconst C 2 (dk dcL_law_6 13 rfl) ki_2 ?_
  refine w_iadd C (dk dcL_law_6 14 rfl) ?_
  refine w_sld C hX hbl hbA (by rw [ex]; exact s_in hk hL 2 (by decide)) (dk dcL_law_6 15 rfl) ?_
  obtain ⟨g', m', r, e1, e2, hr'⟩ := H _ _ hr (xs (x3 + 1).toNatClampNeg) (xs (x3 + 2).toNatClampNeg)
  refine w_callV1 C (mtX10_gentlest 400 (Nat.le_of_ble_eq_true rfl) e1) wmX10_gentlest wd_829 ⟨Nat.le_of_ble_eq_true rfl, Nat.le_of_ble_eq_true rfl⟩ hcs rfl _ (ce_DB) rfl rfl (Nat.le_of_ble_eq_true rfl) (dk dcL_law_6 16 rfl) ?_
  refine vw_swap ?_
  refine w_aload_n C 2 (dk dcL_law_6 17 rfl) rfl rfl ?_
  refine w_aload_n C 0 (dk dcL_law_6 18 rfl) rfl rfl ?_
  refine w_iload_n C 3 (dk dcL_law_6 19 rfl) rfl rfl ?_
  refine w_iconst C 1 (dk dcL_law_6 20 rfl) ki_1 ?_
  refine w_iadd C (dk dcL_law_6 21 rfl) ?_
  refine w_sld C hX hbl hbA (by rw [ex]; exact s_in hk hL 1 (by decide)) (dk dcL_law_6 22 rfl) ?_
  refine w_aload_n C 0 (dk dcL_law_6 23 rfl) rfl rfl ?_
  refine w_iload_n C 3 (dk dcL_law_6 24 rfl) rfl rfl ?_
  refine w_iconst C 2 (dk dcL_law_6 25 rfl) ki_2 ?_
  refine w_iadd C (dk dcL_law_6 26 rfl) ?_
  refine w_sld C hX hbl hbA (by rw [ex]; exact s_in hk hL 2 (by decide)) (dk dcL_law_6 27 rfl) ?_
  refine w_callV1 C (mtX11_gentlest 400 (Nat.le_of_ble_eq_true rfl) e2) wmX11_gentlest wd_1465 ⟨Nat.le_of_ble_eq_true rfl, Nat.le_of_ble_eq_true rfl⟩ hcs rfl _ (ce_Mo) rfl rfl (Nat.le_of_ble_eq_true rfl) (dk dcL_law_6 28 rfl) ?_
  refine vw_swap ?_
  refine w_icmp_eq C 1192 (dk dcL_law_6 29 rfl) (by decide) (fun _ => ?_) (fun h => absurd rfl h)
  exact kk _ _ hr'
def Step14 (Rl : STt → STt → Prop) : Prop := ∀ (g m : STt), Rl g m → ∃ (g' : STt) (m' : STt) (r : Int32), fX10_why g = some (g', r) ∧ fX11_why m = some (m', r) ∧ Rl g' m'
set_option maxRecDepth 20000 in
set_option maxHeartbeats 4000000 in
theorem lawc_14 {Rl : STt → STt → Prop} (H : Step14 Rl) {p : Program} {l : Launch} {e : Env} {s : State} {m0 : MethodId} {args : Array Value} {below : List Frame} {meth : Method} {c : Code} {Q : State → Prop} {ce sl : Nat} {E : WEt} (C : CX p s m0 args meth c cL_law 4 RL ret E) {b L : Nat} {xs : Nat → Int32} (hX : va_X b L xs s s.heap) (hbl : b < s.heap.size) (hbA : ¬ E.2.2.2.1 b) (hcs : ce ≤ 600000 ∧ sl ≤ 7302250) {g m : STt} (hr : Rl g m) {x3 : Int32} {k : Nat} (ex : x3 = nI k) (hk : k + 6 ≤ L) (hL : L ≤ 3072) (kk : ∀ g m, Rl g m → VW p l e room_1 s m0 args below meth c Q ce sl E 4 (cellsC E g ++ cellsM E m) [(0, .ref b), (1, .ref (aE E 0 0)), (2, .ref (aE E 28 0)), (3, .int x3)] [] 1192) : VW p l e room_1 s m0 args below meth c Q ce sl E 4 (cellsC E g ++ cellsM E m) [(0, .ref b), (1, .ref (aE E 0 0)), (2, .ref (aE E 28 0)), (3, .int x3)] [] 574 := by
  refine w_aload_n C 1 (dk dcL_law_6 32 rfl) rfl rfl ?_
  obtain ⟨g', m', r, e1, e2, hr'⟩ := H _ _ hr
  refine w_callV1 C (mtX10_why 400 (Nat.le_of_ble_eq_true rfl) e1) wmX10_why wd_850 ⟨Nat.le_of_ble_eq_true rfl, Nat.le_of_ble_eq_true rfl⟩ hcs rfl _ (ce_DB) rfl rfl (Nat.le_of_ble_eq_true rfl) (dk dcL_law_6 33 rfl) ?_
  refine vw_swap ?_
  refine w_aload_n C 2 (dk dcL_law_6 34 rfl) rfl rfl ?_
  refine w_callV1 C (mtX11_why 400 (Nat.le_of_ble_eq_true rfl) e2) wmX11_why wd_1469 ⟨Nat.le_of_ble_eq_true rfl, Nat.le_of_ble_eq_true rfl⟩ hcs rfl _ (ce_Mo) rfl rfl (Nat.le_of_ble_eq_true rfl) (dk dcL_law_6 35 rfl) ?_
  refine vw_swap ?_
  refine w_icmp_eq C 1192 (dk dcL_law_6 36 rfl) (by decide) (fun _ => ?_) (fun h => absurd rfl h)
  exact kk _ _ hr'
def Step15 (Rl : STt → STt → Prop) : Prop := ∀ (g m : STt), Rl g m → ∃ (g' : STt) (m' : STt) (r : Int32), fX10_waits g = some (g', r) ∧ fX11_waits m = some (m', r) ∧ Rl g' m'
set_option maxRecDepth 20000 in
set_option maxHeartbeats 4000000 in
theorem lawc_15 {Rl : STt → STt → Prop} (H : Step15 Rl) {p : Program} {l : Launch} {e : Env} {s : State} {m0 : MethodId} {args : Array Value} {below : List Frame} {meth : Method} {c : Code} {Q : State → Prop} {ce sl : Nat} {E : WEt} (C : CX p s m0 args meth c cL_law 4 RL ret E) {b L : Nat} {xs : Nat → Int32} (hX : va_X b L xs s s.heap) (hbl : b < s.heap.size) (hbA : ¬ E.2.2.2.1 b) (hcs : ce ≤ 600000 ∧ sl ≤ 7302250) {g m : STt} (hr : Rl g m) {x3 : Int32} {k : Nat} (ex : x3 = nI k) (hk : k + 6 ≤ L) (hL : L ≤ 3072) (kk : ∀ g m, Rl g m → VW p l e room_1 s m0 args below meth c Q ce sl E 4 (cellsC E g ++ cellsM E m) [(0, .ref b), (1, .ref (aE E 0 0)), (2, .ref (aE E 28 0)), (3, .int x3)] [] 1192) : VW p l e room_1 s m0 args below meth c Q ce sl E 4 (cellsC E g ++ cellsM E m) [(0, .ref b), (1, .ref (aE E 0 0)), (2, .ref (aE E 28 0)), (3, .int x3)] [] 587 := by
  refine w_aload_n C 1 (dk dcL_law_6 39 rfl) rfl rfl ?_
  obtain ⟨g', m', r, e1, e2, hr'⟩ := H _ _ hr
  refine w_callV1 C (mtX10_waits 400 (Nat.le_of_ble_eq_true rfl) e1) wmX10_waits wd_858 ⟨Nat.le_of_ble_eq_true rfl, Nat.le_of_ble_eq_true rfl⟩ hcs rfl _ (ce_DB) rfl rfl (Nat.le_of_ble_eq_true rfl) (dk dcL_law_6 40 rfl) ?_
  refine vw_swap ?_
  refine w_aload_n C 2 (dk dcL_law_6 41 rfl) rfl rfl ?_
  refine w_callV1 C (mtX11_waits 400 (Nat.le_of_ble_eq_true rfl) e2) wmX11_waits wd_1473 ⟨Nat.le_of_ble_eq_true rfl, Nat.le_of_ble_eq_true rfl⟩ hcs rfl _ (ce_Mo) rfl rfl (Nat.le_of_ble_eq_true rfl) (dk dcL_law_6 42 rfl) ?_
  refine vw_swap ?_
  refine w_icmp_eq C 1192 (dk dcL_law_6 43 rfl) (by decide) (fun _ => ?_) (fun h => absurd rfl h)
  exact kk _ _ hr'
def Step16 (Rl : STt → STt → Prop) : Prop := ∀ (g m : STt), Rl g m → ∃ (g' : STt) (m' : STt) (r : Int32), fX10_round g = some (g', r) ∧ fX11_round m = some (m', r) ∧ Rl g' m'
set_option maxRecDepth 20000 in
set_option maxHeartbeats 4000000 in
theorem lawc_16 {Rl : STt → STt → Prop} (H : Step16 Rl) {p : Program} {l : Launch} {e : Env} {s : State} {m0 : MethodId} {args : Array Value} {below : List Frame} {meth : Method} {c : Code} {Q : State → Prop} {ce sl : Nat} {E : WEt} (C : CX p s m0 args meth c cL_law 4 RL ret E) {b L : Nat} {xs : Nat → Int32} (hX : va_X b L xs s s.heap) (hbl : b < s.heap.size) (hbA : ¬ E.2.2.2.1 b) (hcs : ce ≤ 600000 ∧ sl ≤ 7302250) {g m : STt} (hr : Rl g m) {x3 : Int32} {k : Nat} (ex : x3 = nI k) (hk : k + 6 ≤ L) (hL : L ≤ 3072) (kk : ∀ g m, Rl g m → VW p l e room_1 s m0 args below meth c Q ce sl E 4 (cellsC E g ++ cellsM E m) [(0, .ref b), (1, .ref (aE E 0 0)), (2, .ref (aE E 28 0)), (3, .int x3)] [] 1192) : VW p l e room_1 s m0 args below meth c Q ce sl E 4 (cellsC E g ++ cellsM E m) [(0, .ref b), (1, .ref (aE E 0 0)), (2, .ref (aE E 28 0)), (3, .int x3)] [] 600 := by
  refine w_aload_n C 1 (dk dcL_law_6 46 rfl) rfl rfl ?_
  obtain ⟨g', m', r, e1, e2, hr'⟩ := H _ _ hr
  refine w_callV1 C (mtX10_round 400 (Nat.le_of_ble_eq_true rfl) e1) wmX10_round wd_866 ⟨Nat.le_of_ble_eq_true rfl, Nat.le_of_ble_eq_true rfl⟩ hcs rfl _ (ce_DB) rfl rfl (Nat.le_of_ble_eq_true rfl) (dk dcL_law_6 47 rfl) ?_
  refine vw_swap ?_
  refine w_aload_n C 2 (dk dcL_law_7 0 rfl) rfl rfl ?_
  refine w_callV1 C (mtX11_round 400 (Nat.le_of_ble_eq_true rfl) e2) wmX11_round wd_1481 ⟨Nat.le_of_ble_eq_true rfl, Nat.le_of_ble_eq_true rfl⟩ hcs rfl _ (ce_Mo) rfl rfl (Nat.le_of_ble_eq_true rfl) (dk dcL_law_7 1 rfl) ?_
  refine vw_swap ?_
  refine w_icmp_eq C 1192 (dk dcL_law_7 2 rfl) (by decide) (fun _ => ?_) (fun h => absurd rfl h)
  exact kk _ _ hr'
def Step17 (Rl : STt → STt → Prop) : Prop := ∀ (g m : STt), Rl g m → ∃ (g' : STt) (m' : STt) (r : Int32), fX10_shiftLoad g = some (g', r) ∧ fX11_shiftLoad m = some (m', r) ∧ Rl g' m'
set_option maxRecDepth 20000 in
set_option maxHeartbeats 4000000 in
theorem lawc_17 {Rl : STt → STt → Prop} (H : Step17 Rl) {p : Program} {l : Launch} {e : Env} {s : State} {m0 : MethodId} {args : Array Value} {below : List Frame} {meth : Method} {c : Code} {Q : State → Prop} {ce sl : Nat} {E : WEt} (C : CX p s m0 args meth c cL_law 4 RL ret E) {b L : Nat} {xs : Nat → Int32} (hX : va_X b L xs s s.heap) (hbl : b < s.heap.size) (hbA : ¬ E.2.2.2.1 b) (hcs : ce ≤ 600000 ∧ sl ≤ 7302250) {g m : STt} (hr : Rl g m) {x3 : Int32} {k : Nat} (ex : x3 = nI k) (hk : k + 6 ≤ L) (hL : L ≤ 3072) (kk : ∀ g m, Rl g m → VW p l e room_1 s m0 args below meth c Q ce sl E 4 (cellsC E g ++ cellsM E m) [(0, .ref b), (1, .ref (aE E 0 0)), (2, .ref (aE E 28 0)), (3, .int x3)] [] 1192) : VW p l e room_1 s m0 args below meth c Q ce sl E 4 (cellsC E g ++ cellsM E m) [(0, .ref b), (1, .ref (aE E 0 0)), (2, .ref (aE E 28 0)), (3, .int x3)] [] 613 := by
  refine w_aload_n C 1 (dk dcL_law_7 5 rfl) rfl rfl ?_
  obtain ⟨g', m', r, e1, e2, hr'⟩ := H _ _ hr
  refine w_callV1 C (mtX10_shiftLoad 400 (Nat.le_of_ble_eq_true rfl) e1) wmX10_shiftLoad wd_870 ⟨Nat.le_of_ble_eq_true rfl, Nat.le_of_ble_eq_true rfl⟩ hcs rfl _ (ce_DB) rfl rfl (Nat.le_of_ble_eq_true rfl) (dk dcL_law_7 6 rfl) ?_
  refine vw_swap ?_
  refine w_aload_n C 2 (dk dcL_law_7 7 rfl) rfl rfl ?_
  refine w_callV1 C (mtX11_shiftLoad 400 (Nat.le_of_ble_eq_true rfl) e2) wmX11_shiftLoad wd_1485 ⟨Nat.le_of_ble_eq_true rfl, Nat.le_of_ble_eq_true rfl⟩ hcs rfl _ (ce_Mo) rfl rfl (Nat.le_of_ble_eq_true rfl) (dk dcL_law_7 8 rfl) ?_
  refine vw_swap ?_
  refine w_icmp_eq C 1192 (dk dcL_law_7 9 rfl) (by decide) (fun _ => ?_) (fun h => absurd rfl h)
  exact kk _ _ hr'
def Step18 (Rl : STt → STt → Prop) : Prop := ∀ (g m : STt), Rl g m → ∀ (x1 : Int32), ∃ (g' : STt) (m' : STt) (r : Int32), fX10_wander g x1 = some (g', r) ∧ fX11_wander m x1 = some (m', r) ∧ Rl g' m'
set_option maxRecDepth 20000 in
set_option maxHeartbeats 4000000 in
theorem lawc_18 {Rl : STt → STt → Prop} (H : Step18 Rl) {p : Program} {l : Launch} {e : Env} {s : State} {m0 : MethodId} {args : Array Value} {below : List Frame} {meth : Method} {c : Code} {Q : State → Prop} {ce sl : Nat} {E : WEt} (C : CX p s m0 args meth c cL_law 4 RL ret E) {b L : Nat} {xs : Nat → Int32} (hX : va_X b L xs s s.heap) (hbl : b < s.heap.size) (hbA : ¬ E.2.2.2.1 b) (hcs : ce ≤ 600000 ∧ sl ≤ 7302250) {g m : STt} (hr : Rl g m) {x3 : Int32} {k : Nat} (ex : x3 = nI k) (hk : k + 6 ≤ L) (hL : L ≤ 3072) (kk : ∀ g m, Rl g m → VW p l e room_1 s m0 args below meth c Q ce sl E 4 (cellsC E g ++ cellsM E m) [(0, .ref b), (1, .ref (aE E 0 0)), (2, .ref (aE E 28 0)), (3, .int x3)] [] 1192) : VW p l e room_1 s m0 args below meth c Q ce sl E 4 (cellsC E g ++ cellsM E m) [(0, .ref b), (1, .ref (aE E 0 0)), (2, .ref (aE E 28 0)), (3, .int x3)] [] 626 := by
  refine w_aload_n C 1 (dk dcL_law_7 12 rfl) rfl rfl ?_
  refine w_aload_n C 0 (dk dcL_law_7 13 rfl) rfl rfl ?_
  refine w_iload_n C 3 (dk dcL_law_7 14 rfl) rfl rfl ?_
  refine w_iconst C 1 (dk dcL_law_7 15 rfl) ki_1 ?_
  refine w_iadd C (dk dcL_law_7 16 rfl) ?_
  refine w_sld C hX hbl hbA (by rw [ex]; exact s_in hk hL 1 (by decide)) (dk dcL_law_7 17 rfl) ?_
  obtain ⟨g', m', r, e1, e2, hr'⟩ := H _ _ hr (xs (x3 + 1).toNatClampNeg)
  refine w_callV1 C (mtX10_wander 400 (Nat.le_of_ble_eq_true rfl) e1) wmX10_wander wd_884 ⟨Nat.le_of_ble_eq_true rfl, Nat.le_of_ble_eq_true rfl⟩ hcs rfl _ (ce_DB) rfl rfl (Nat.le_of_ble_eq_true rfl) (dk dcL_law_7 18 rfl) ?_
  refine vw_swap ?_
  refine w_aload_n C 2 (dk dcL_law_7 19 rfl) rfl rfl ?_
  refine w_aload_n C 0 (dk dcL_law_7 20 rfl) rfl rfl ?_
  refine w_iload_n C 3 (dk dcL_law_7 21 rfl) rfl rfl ?_
  refine w_iconst C 1 (dk dcL_law_7 22 rfl) ki_1 ?_
  refine w_iadd C (dk dcL_law_7 23 rfl) ?_
  refine w_sld C hX hbl hbA (by rw [ex]; exact s_in hk hL 1 (by decide)) (dk dcL_law_7 24 rfl) ?_
  refine w_callV1 C (mtX11_wander 400 (Nat.le_of_ble_eq_true rfl) e2) wmX11_wander wd_1489 ⟨Nat.le_of_ble_eq_true rfl, Nat.le_of_ble_eq_true rfl⟩ hcs rfl _ (ce_Mo) rfl rfl (Nat.le_of_ble_eq_true rfl) (dk dcL_law_7 25 rfl) ?_
  refine vw_swap ?_
  refine w_icmp_eq C 1192 (dk dcL_law_7 26 rfl) (by decide) (fun _ => ?_) (fun h => absurd rfl h)
  exact kk _ _ hr'
def Step19 (Rl : STt → STt → Prop) : Prop := ∀ (g m : STt), Rl g m → ∀ (x1 : Int32) (x2 : Int32), ∃ (g' : STt) (m' : STt) (r : Int64), fX10_sure g x1 x2 = some (g', r) ∧ fX11_sure m x1 x2 = some (m', r) ∧ Rl g' m'
set_option maxRecDepth 20000 in
set_option maxHeartbeats 4000000 in
theorem lawc_19 {Rl : STt → STt → Prop} (H : Step19 Rl) {p : Program} {l : Launch} {e : Env} {s : State} {m0 : MethodId} {args : Array Value} {below : List Frame} {meth : Method} {c : Code} {Q : State → Prop} {ce sl : Nat} {E : WEt} (C : CX p s m0 args meth c cL_law 4 RL ret E) {b L : Nat} {xs : Nat → Int32} (hX : va_X b L xs s s.heap) (hbl : b < s.heap.size) (hbA : ¬ E.2.2.2.1 b) (hcs : ce ≤ 600000 ∧ sl ≤ 7302250) {g m : STt} (hr : Rl g m) {x3 : Int32} {k : Nat} (ex : x3 = nI k) (hk : k + 6 ≤ L) (hL : L ≤ 3072) (kk : ∀ g m, Rl g m → VW p l e room_1 s m0 args below meth c Q ce sl E 4 (cellsC E g ++ cellsM E m) [(0, .ref b), (1, .ref (aE E 0 0)), (2, .ref (aE E 28 0)), (3, .int x3)] [] 1192) : VW p l e room_1 s m0 args below meth c Q ce sl E 4 (cellsC E g ++ cellsM E m) [(0, .ref b), (1, .ref (aE E 0 0)), (2, .ref (aE E 28 0)), (3, .int x3)] [] 649 := by
  refine w_aload_n C 1 (dk dcL_law_7 29 rfl) rfl rfl ?_
  refine w_aload_n C 0 (dk dcL_law_7 30 rfl) rfl rfl ?_
  refine w_iload_n C 3 (dk dcL_law_7 31 rfl) rfl rfl ?_
  refine w_iconst C 1 (dk dcL_law_7 32 rfl) ki_1 ?_
  refine w_iadd C (dk dcL_law_7 33 rfl) ?_
  refine w_sld C hX hbl hbA (by rw [ex]; exact s_in hk hL 1 (by decide)) (dk dcL_law_7 34 rfl) ?_
  refine w_aload_n C 0 (dk dcL_law_7 35 rfl) rfl rfl ?_
  refine w_iload_n C 3 (dk dcL_law_7 36 rfl) rfl rfl ?_
  refine w_iconst C 2 (dk dcL_law_7 37 rfl) ki_2 ?_
  refine w_iadd C (dk dcL_law_7 38 rfl) ?_
  refine w_sld C hX hbl hbA (by rw [ex]; exact s_in hk hL 2 (by decide)) (dk dcL_law_7 39 rfl) ?_
  obtain ⟨g', m', r, e1, e2, hr'⟩ := H _ _ hr (xs (x3 + 1).toNatClampNeg) (xs (x3 + 2).toNatClampNeg)
  refine w_callV1 C (mtX10_sure 400 (Nat.le_of_ble_eq_true rfl) e1) wmX10_sure wd_888 ⟨Nat.le_of_ble_eq_true rfl, Nat.le_of_ble_eq_true rfl⟩ hcs rfl _ (ce_DB) rfl rfl (Nat.le_of_ble_eq_true rfl) (dk dcL_law_7 40 rfl) ?_
  refine vw_swap ?_
  refine w_aload_n C 2 (dk dcL_law_7 41 rfl) rfl rfl ?_
  refine w_aload_n C 0 (dk dcL_law_7 42 rfl) rfl rfl ?_
  refine w_iload_n C 3 (dk dcL_law_7 43 rfl) rfl rfl ?_
  refine w_iconst C 1 (dk dcL_law_7 44 rfl) ki_1 ?_
  refine w_iadd C (dk dcL_law_7 45 rfl) ?_
  refine w_sld C hX hbl hbA (by rw [ex]; exact s_in hk hL 1 (by decide)) (dk dcL_law_7 46 rfl) ?_
  refine w_aload_n C 0 (dk dcL_law_7 47 rfl) rfl rfl ?_
  refine w_iload_n C 3 (dk dcL_law_8 0 rfl) rfl rfl ?_
  refine w_iconst C 2 (dk dcL_law_8 1 rfl) ki_2 ?_
  refine w_iadd C (dk dcL_law_8 2 rfl) ?_
  refine w_sld C hX hbl hbA (by rw [ex]; exact s_in hk hL 2 (by decide)) (dk dcL_law_8 3 rfl) ?_
  refine w_callV1 C (mtX11_sure 400 (Nat.le_of_ble_eq_true rfl) e2) wmX11_sure wd_1493 ⟨Nat.le_of_ble_eq_true rfl, Nat.le_of_ble_eq_true rfl⟩ hcs rfl _ (ce_Mo) rfl rfl (Nat.le_of_ble_eq_true rfl) (dk dcL_law_8 4 rfl) ?_
  refine vw_swap ?_
  refine w_lcmp C (dk dcL_law_8 5 rfl) ?_
  refine w_if_eq C 1192 (dk dcL_law_8 6 rfl) (by decide) (fun _ => ?_) (fun h => absurd (lg_cmp_self r) h)
  exact kk _ _ hr'
def Step20 (Rl : STt → STt → Prop) : Prop := ∀ (g m : STt), Rl g m → ∀ (x1 : Int32) (x2 : Int32), ∃ (g' : STt) (m' : STt) (r : Int32), fX10_days g x1 x2 = some (g', r) ∧ fX11_days m x1 x2 = some (m', r) ∧ Rl g' m'
set_option maxRecDepth 20000 in
set_option maxHeartbeats 4000000 in
theorem lawc_20 {Rl : STt → STt → Prop} (H : Step20 Rl) {p : Program} {l : Launch} {e : Env} {s : State} {m0 : MethodId} {args : Array Value} {below : List Frame} {meth : Method} {c : Code} {Q : State → Prop} {ce sl : Nat} {E : WEt} (C : CX p s m0 args meth c cL_law 4 RL ret E) {b L : Nat} {xs : Nat → Int32} (hX : va_X b L xs s s.heap) (hbl : b < s.heap.size) (hbA : ¬ E.2.2.2.1 b) (hcs : ce ≤ 600000 ∧ sl ≤ 7302250) {g m : STt} (hr : Rl g m) {x3 : Int32} {k : Nat} (ex : x3 = nI k) (hk : k + 6 ≤ L) (hL : L ≤ 3072) (kk : ∀ g m, Rl g m → VW p l e room_1 s m0 args below meth c Q ce sl E 4 (cellsC E g ++ cellsM E m) [(0, .ref b), (1, .ref (aE E 0 0)), (2, .ref (aE E 28 0)), (3, .int x3)] [] 1192) : VW p l e room_1 s m0 args below meth c Q ce sl E 4 (cellsC E g ++ cellsM E m) [(0, .ref b), (1, .ref (aE E 0 0)), (2, .ref (aE E 28 0)), (3, .int x3)] [] 683 := by
  refine w_aload_n C 1 (dk dcL_law_8 9 rfl) rfl rfl ?_
  refine w_aload_n C 0 (dk dcL_law_8 10 rfl) rfl rfl ?_
  refine w_iload_n C 3 (dk dcL_law_8 11 rfl) rfl rfl ?_
  refine w_iconst C 1 (dk dcL_law_8 12 rfl) ki_1 ?_
  refine w_iadd C (dk dcL_law_8 13 rfl) ?_
  refine w_sld C hX hbl hbA (by rw [ex]; exact s_in hk hL 1 (by decide)) (dk dcL_law_8 14 rfl) ?_
  refine w_aload_n C 0 (dk dcL_law_8 15 rfl) rfl rfl ?_
  refine w_iload_n C 3 (dk dcL_law_8 16 rfl) rfl rfl ?_
  refine w_iconst C 2 (dk dcL_law_8 17 rfl) ki_2 ?_
  refine w_iadd C (dk dcL_law_8 18 rfl) ?_
  refine w_sld C hX hbl hbA (by rw [ex]; exact s_in hk hL 2 (by decide)) (dk dcL_law_8 19 rfl) ?_
  obtain ⟨g', m', r, e1, e2, hr'⟩ := H _ _ hr (xs (x3 + 1).toNatClampNeg) (xs (x3 + 2).toNatClampNeg)
  refine w_callV1 C (mtX10_days 400 (Nat.le_of_ble_eq_true rfl) e1) wmX10_days wd_908 ⟨Nat.le_of_ble_eq_true rfl, Nat.le_of_ble_eq_true rfl⟩ hcs rfl _ (ce_DB) rfl rfl (Nat.le_of_ble_eq_true rfl) (dk dcL_law_8 20 rfl) ?_
  refine vw_swap ?_
  refine w_aload_n C 2 (dk dcL_law_8 21 rfl) rfl rfl ?_
  refine w_aload_n C 0 (dk dcL_law_8 22 rfl) rfl rfl ?_
  refine w_iload_n C 3 (dk dcL_law_8 23 rfl) rfl rfl ?_
  refine w_iconst C 1 (dk dcL_law_8 24 rfl) ki_1 ?_
  refine w_iadd C (dk dcL_law_8 25 rfl) ?_
  refine w_sld C hX hbl hbA (by rw [ex]; exact s_in hk hL 1 (by decide)) (dk dcL_law_8 26 rfl) ?_
  refine w_aload_n C 0 (dk dcL_law_8 27 rfl) rfl rfl ?_
  refine w_iload_n C 3 (dk dcL_law_8 28 rfl) rfl rfl ?_
  refine w_iconst C 2 (dk dcL_law_8 29 rfl) ki_2 ?_
  refine w_iadd C (dk dcL_law_8 30 rfl) ?_
  refine w_sld C hX hbl hbA (by rw [ex]; exact s_in hk hL 2 (by decide)) (dk dcL_law_8 31 rfl) ?_
  refine w_callV1 C (mtX11_days 400 (Nat.le_of_ble_eq_true rfl) e2) wmX11_days wd_1502 ⟨Nat.le_of_ble_eq_true rfl, Nat.le_of_ble_eq_true rfl⟩ hcs rfl _ (ce_Mo) rfl rfl (Nat.le_of_ble_eq_true rfl) (dk dcL_law_8 32 rfl) ?_
  refine vw_swap ?_
  refine w_icmp_eq C 1192 (dk dcL_law_8 33 rfl) (by decide) (fun _ => ?_) (fun h => absurd rfl h)
  exact kk _ _ hr'
def Step21 (Rl : STt → STt → Prop) : Prop := ∀ (g m : STt), Rl g m → ∀ (x1 : Int32), ∃ (g' : STt) (m' : STt) (r : Int32), fX10_beast g x1 = some (g', r) ∧ fX11_beast m x1 = some (m', r) ∧ Rl g' m'
set_option maxRecDepth 20000 in
set_option maxHeartbeats 4000000 in
theorem lawc_21 {Rl : STt → STt → Prop} (H : Step21 Rl) {p : Program} {l : Launch} {e : Env} {s : State} {m0 : MethodId} {args : Array Value} {below : List Frame} {meth : Method} {c : Code} {Q : State → Prop} {ce sl : Nat} {E : WEt} (C : CX p s m0 args meth c cL_law 4 RL ret E) {b L : Nat} {xs : Nat → Int32} (hX : va_X b L xs s s.heap) (hbl : b < s.heap.size) (hbA : ¬ E.2.2.2.1 b) (hcs : ce ≤ 600000 ∧ sl ≤ 7302250) {g m : STt} (hr : Rl g m) {x3 : Int32} {k : Nat} (ex : x3 = nI k) (hk : k + 6 ≤ L) (hL : L ≤ 3072) (kk : ∀ g m, Rl g m → VW p l e room_1 s m0 args below meth c Q ce sl E 4 (cellsC E g ++ cellsM E m) [(0, .ref b), (1, .ref (aE E 0 0)), (2, .ref (aE E 28 0)), (3, .int x3)] [] 1192) : VW p l e room_1 s m0 args below meth c Q ce sl E 4 (cellsC E g ++ cellsM E m) [(0, .ref b), (1, .ref (aE E 0 0)), (2, .ref (aE E 28 0)), (3, .int x3)] [] 716 := by
  refine w_aload_n C 1 (dk dcL_law_8 36 rfl) rfl rfl ?_
  refine w_aload_n C 0 (dk dcL_law_8 37 rfl) rfl rfl ?_
  refine w_iload_n C 3 (dk dcL_law_8 38 rfl) rfl rfl ?_
  refine w_iconst C 1 (dk dcL_law_8 39 rfl) ki_1 ?_
  refine w_iadd C (dk dcL_law_8 40 rfl) ?_
  refine w_sld C hX hbl hbA (by rw [ex]; exact s_in hk hL 1 (by decide)) (dk dcL_law_8 41 rfl) ?_
  obtain ⟨g', m', r, e1, e2, hr'⟩ := H _ _ hr (xs (x3 + 1).toNatClampNeg)
  refine w_callV1 C (mtX10_beast 400 (Nat.le_of_ble_eq_true rfl) e1) wmX10_beast wd_917 ⟨Nat.le_of_ble_eq_true rfl, Nat.le_of_ble_eq_true rfl⟩ hcs rfl _ (ce_DB) rfl rfl (Nat.le_of_ble_eq_true rfl) (dk dcL_law_8 42 rfl) ?_
  refine vw_swap ?_
  refine w_aload_n C 2 (dk dcL_law_8 43 rfl) rfl rfl ?_
  refine w_aload_n C 0 (dk dcL_law_8 44 rfl) rfl rfl ?_
  refine w_iload_n C 3 (dk dcL_law_8 45 rfl) rfl rfl ?_
  refine w_iconst C 1 (dk dcL_law_8 46 rfl) ki_1 ?_
  refine w_iadd C (dk dcL_law_8 47 rfl) ?_
  refine w_sld C hX hbl hbA (by rw [ex]; exact s_in hk hL 1 (by decide)) (dk dcL_law_9 0 rfl) ?_
  refine w_callV1 C (mtX11_beast 400 (Nat.le_of_ble_eq_true rfl) e2) wmX11_beast wd_1506 ⟨Nat.le_of_ble_eq_true rfl, Nat.le_of_ble_eq_true rfl⟩ hcs rfl _ (ce_Mo) rfl rfl (Nat.le_of_ble_eq_true rfl) (dk dcL_law_9 1 rfl) ?_
  refine vw_swap ?_
  refine w_icmp_eq C 1192 (dk dcL_law_9 2 rfl) (by decide) (fun _ => ?_) (fun h => absurd rfl h)
  exact kk _ _ hr'
def Step22 (Rl : STt → STt → Prop) : Prop := ∀ (g m : STt), Rl g m → ∀ (x1 : Int32), ∃ (g' : STt) (m' : STt) (r : Int32), fX10_string g x1 = some (g', r) ∧ fX11_string m x1 = some (m', r) ∧ Rl g' m'
set_option maxRecDepth 20000 in
set_option maxHeartbeats 4000000 in
theorem lawc_22 {Rl : STt → STt → Prop} (H : Step22 Rl) {p : Program} {l : Launch} {e : Env} {s : State} {m0 : MethodId} {args : Array Value} {below : List Frame} {meth : Method} {c : Code} {Q : State → Prop} {ce sl : Nat} {E : WEt} (C : CX p s m0 args meth c cL_law 4 RL ret E) {b L : Nat} {xs : Nat → Int32} (hX : va_X b L xs s s.heap) (hbl : b < s.heap.size) (hbA : ¬ E.2.2.2.1 b) (hcs : ce ≤ 600000 ∧ sl ≤ 7302250) {g m : STt} (hr : Rl g m) {x3 : Int32} {k : Nat} (ex : x3 = nI k) (hk : k + 6 ≤ L) (hL : L ≤ 3072) (kk : ∀ g m, Rl g m → VW p l e room_1 s m0 args below meth c Q ce sl E 4 (cellsC E g ++ cellsM E m) [(0, .ref b), (1, .ref (aE E 0 0)), (2, .ref (aE E 28 0)), (3, .int x3)] [] 1192) : VW p l e room_1 s m0 args below meth c Q ce sl E 4 (cellsC E g ++ cellsM E m) [(0, .ref b), (1, .ref (aE E 0 0)), (2, .ref (aE E 28 0)), (3, .int x3)] [] 739 := by
  refine w_aload_n C 1 (dk dcL_law_9 5 rfl) rfl rfl ?_
  refine w_aload_n C 0 (dk dcL_law_9 6 rfl) rfl rfl ?_
  refine w_iload_n C 3 (dk dcL_law_9 7 rfl) rfl rfl ?_
  refine w_iconst C 1 (dk dcL_law_9 8 rfl) ki_1 ?_
  refine w_iadd C (dk dcL_law_9 9 rfl) ?_
  refine w_sld C hX hbl hbA (by rw [ex]; exact s_in hk hL 1 (by decide)) (dk dcL_law_9 10 rfl) ?_
  obtain ⟨g', m', r, e1, e2, hr'⟩ := H _ _ hr (xs (x3 + 1).toNatClampNeg)
  refine w_callV1 C (mtX10_string 400 (Nat.le_of_ble_eq_true rfl) e1) wmX10_string wd_921 ⟨Nat.le_of_ble_eq_true rfl, Nat.le_of_ble_eq_true rfl⟩ hcs rfl _ (ce_DB) rfl rfl (Nat.le_of_ble_eq_true rfl) (dk dcL_law_9 11 rfl) ?_
  refine vw_swap ?_
  refine w_aload_n C 2 (dk dcL_law_9 12 rfl) rfl rfl ?_
  refine w_aload_n C 0 (dk dcL_law_9 13 rfl) rfl rfl ?_
  refine w_iload_n C 3 (dk dcL_law_9 14 rfl) rfl rfl ?_
  refine w_iconst C 1 (dk dcL_law_9 15 rfl) ki_1 ?_
  refine w_iadd C (dk dcL_law_9 16 rfl) ?_
  refine w_sld C hX hbl hbA (by rw [ex]; exact s_in hk hL 1 (by decide)) (dk dcL_law_9 17 rfl) ?_
  refine w_callV1 C (mtX11_string 400 (Nat.le_of_ble_eq_true rfl) e2) wmX11_string wd_1510 ⟨Nat.le_of_ble_eq_true rfl, Nat.le_of_ble_eq_true rfl⟩ hcs rfl _ (ce_Mo) rfl rfl (Nat.le_of_ble_eq_true rfl) (dk dcL_law_9 18 rfl) ?_
  refine vw_swap ?_
  refine w_icmp_eq C 1192 (dk dcL_law_9 19 rfl) (by decide) (fun _ => ?_) (fun h => absurd rfl h)
  exact kk _ _ hr'
def Step23 (Rl : STt → STt → Prop) : Prop := ∀ (g m : STt), Rl g m → ∀ (x1 : Int32), ∃ (g' : STt) (m' : STt) (r : Int32), fX10_film g x1 = some (g', r) ∧ fX11_film m x1 = some (m', r) ∧ Rl g' m'
set_option maxRecDepth 20000 in
set_option maxHeartbeats 4000000 in
theorem lawc_23 {Rl : STt → STt → Prop} (H : Step23 Rl) {p : Program} {l : Launch} {e : Env} {s : State} {m0 : MethodId} {args : Array Value} {below : List Frame} {meth : Method} {c : Code} {Q : State → Prop} {ce sl : Nat} {E : WEt} (C : CX p s m0 args meth c cL_law 4 RL ret E) {b L : Nat} {xs : Nat → Int32} (hX : va_X b L xs s s.heap) (hbl : b < s.heap.size) (hbA : ¬ E.2.2.2.1 b) (hcs : ce ≤ 600000 ∧ sl ≤ 7302250) {g m : STt} (hr : Rl g m) {x3 : Int32} {k : Nat} (ex : x3 = nI k) (hk : k + 6 ≤ L) (hL : L ≤ 3072) (kk : ∀ g m, Rl g m → VW p l e room_1 s m0 args below meth c Q ce sl E 4 (cellsC E g ++ cellsM E m) [(0, .ref b), (1, .ref (aE E 0 0)), (2, .ref (aE E 28 0)), (3, .int x3)] [] 1192) : VW p l e room_1 s m0 args below meth c Q ce sl E 4 (cellsC E g ++ cellsM E m) [(0, .ref b), (1, .ref (aE E 0 0)), (2, .ref (aE E 28 0)), (3, .int x3)] [] 762 := by
  refine w_aload_n C 1 (dk dcL_law_9 22 rfl) rfl rfl ?_
  refine w_aload_n C 0 (dk dcL_law_9 23 rfl) rfl rfl ?_
  refine w_iload_n C 3 (dk dcL_law_9 24 rfl) rfl rfl ?_
  refine w_iconst C 1 (dk dcL_law_9 25 rfl) ki_1 ?_
  refine w_iadd C (dk dcL_law_9 26 rfl) ?_
  refine w_sld C hX hbl hbA (by rw [ex]; exact s_in hk hL 1 (by decide)) (dk dcL_law_9 27 rfl) ?_
  obtain ⟨g', m', r, e1, e2, hr'⟩ := H _ _ hr (xs (x3 + 1).toNatClampNeg)
  refine w_callV1 C (mtX10_film 400 (Nat.le_of_ble_eq_true rfl) e1) wmX10_film wd_936 ⟨Nat.le_of_ble_eq_true rfl, Nat.le_of_ble_eq_true rfl⟩ hcs rfl _ (ce_DB) rfl rfl (Nat.le_of_ble_eq_true rfl) (dk dcL_law_9 28 rfl) ?_
  refine vw_swap ?_
  refine w_aload_n C 2 (dk dcL_law_9 29 rfl) rfl rfl ?_
  refine w_aload_n C 0 (dk dcL_law_9 30 rfl) rfl rfl ?_
  refine w_iload_n C 3 (dk dcL_law_9 31 rfl) rfl rfl ?_
  refine w_iconst C 1 (dk dcL_law_9 32 rfl) ki_1 ?_
  refine w_iadd C (dk dcL_law_9 33 rfl) ?_
  refine w_sld C hX hbl hbA (by rw [ex]; exact s_in hk hL 1 (by decide)) (dk dcL_law_9 34 rfl) ?_
  refine w_callV1 C (mtX11_film 400 (Nat.le_of_ble_eq_true rfl) e2) wmX11_film wd_1514 ⟨Nat.le_of_ble_eq_true rfl, Nat.le_of_ble_eq_true rfl⟩ hcs rfl _ (ce_Mo) rfl rfl (Nat.le_of_ble_eq_true rfl) (dk dcL_law_9 35 rfl) ?_
  refine vw_swap ?_
  refine w_icmp_eq C 1192 (dk dcL_law_9 36 rfl) (by decide) (fun _ => ?_) (fun h => absurd rfl h)
  exact kk _ _ hr'
def Step24 (Rl : STt → STt → Prop) : Prop := ∀ (g m : STt), Rl g m → ∃ (g' : STt) (m' : STt) (r : Int32), fX10_off g = some (g', r) ∧ fX11_off m = some (m', r) ∧ Rl g' m'
set_option maxRecDepth 20000 in
set_option maxHeartbeats 4000000 in
theorem lawc_24 {Rl : STt → STt → Prop} (H : Step24 Rl) {p : Program} {l : Launch} {e : Env} {s : State} {m0 : MethodId} {args : Array Value} {below : List Frame} {meth : Method} {c : Code} {Q : State → Prop} {ce sl : Nat} {E : WEt} (C : CX p s m0 args meth c cL_law 4 RL ret E) {b L : Nat} {xs : Nat → Int32} (hX : va_X b L xs s s.heap) (hbl : b < s.heap.size) (hbA : ¬ E.2.2.2.1 b) (hcs : ce ≤ 600000 ∧ sl ≤ 7302250) {g m : STt} (hr : Rl g m) {x3 : Int32} {k : Nat} (ex : x3 = nI k) (hk : k + 6 ≤ L) (hL : L ≤ 3072) (kk : ∀ g m, Rl g m → VW p l e room_1 s m0 args below meth c Q ce sl E 4 (cellsC E g ++ cellsM E m) [(0, .ref b), (1, .ref (aE E 0 0)), (2, .ref (aE E 28 0)), (3, .int x3)] [] 1192) : VW p l e room_1 s m0 args below meth c Q ce sl E 4 (cellsC E g ++ cellsM E m) [(0, .ref b), (1, .ref (aE E 0 0)), (2, .ref (aE E 28 0)), (3, .int x3)] [] 785 := by
  refine w_aload_n C 1 (dk dcL_law_9 39 rfl) rfl rfl ?_
  obtain ⟨g', m', r, e1, e2, hr'⟩ := H _ _ hr
  refine w_callV1 C (mtX10_off 400 (Nat.le_of_ble_eq_true rfl) e1) wmX10_off wd_940 ⟨Nat.le_of_ble_eq_true rfl, Nat.le_of_ble_eq_true rfl⟩ hcs rfl _ (ce_DB) rfl rfl (Nat.le_of_ble_eq_true rfl) (dk dcL_law_9 40 rfl) ?_
  refine vw_swap ?_
  refine w_aload_n C 2 (dk dcL_law_9 41 rfl) rfl rfl ?_
  refine w_callV1 C (mtX11_off 400 (Nat.le_of_ble_eq_true rfl) e2) wmX11_off wd_1518 ⟨Nat.le_of_ble_eq_true rfl, Nat.le_of_ble_eq_true rfl⟩ hcs rfl _ (ce_Mo) rfl rfl (Nat.le_of_ble_eq_true rfl) (dk dcL_law_9 42 rfl) ?_
  refine vw_swap ?_
  refine w_icmp_eq C 1192 (dk dcL_law_9 43 rfl) (by decide) (fun _ => ?_) (fun h => absurd rfl h)
  exact kk _ _ hr'
def Step25 (Rl : STt → STt → Prop) : Prop := ∀ (g m : STt), Rl g m → ∀ (x1 : Int32) (x2 : Int32), ∃ (g' : STt) (m' : STt) (r : Int32), fX10_judge g x1 x2 = some (g', r) ∧ fX11_judge m x1 x2 = some (m', r) ∧ Rl g' m'
set_option maxRecDepth 20000 in
set_option maxHeartbeats 4000000 in
theorem lawc_25 {Rl : STt → STt → Prop} (H : Step25 Rl) {p : Program} {l : Launch} {e : Env} {s : State} {m0 : MethodId} {args : Array Value} {below : List Frame} {meth : Method} {c : Code} {Q : State → Prop} {ce sl : Nat} {E : WEt} (C : CX p s m0 args meth c cL_law 4 RL ret E) {b L : Nat} {xs : Nat → Int32} (hX : va_X b L xs s s.heap) (hbl : b < s.heap.size) (hbA : ¬ E.2.2.2.1 b) (hcs : ce ≤ 600000 ∧ sl ≤ 7302250) {g m : STt} (hr : Rl g m) {x3 : Int32} {k : Nat} (ex : x3 = nI k) (hk : k + 6 ≤ L) (hL : L ≤ 3072) (kk : ∀ g m, Rl g m → VW p l e room_1 s m0 args below meth c Q ce sl E 4 (cellsC E g ++ cellsM E m) [(0, .ref b), (1, .ref (aE E 0 0)), (2, .ref (aE E 28 0)), (3, .int x3)] [] 1192) : VW p l e room_1 s m0 args below meth c Q ce sl E 4 (cellsC E g ++ cellsM E m) [(0, .ref b), (1, .ref (aE E 0 0)), (2, .ref (aE E 28 0)), (3, .int x3)] [] 798 := by
  refine w_aload_n C 1 (dk dcL_law_9 46 rfl) rfl rfl ?_
  refine w_aload_n C 0 (dk dcL_law_9 47 rfl) rfl rfl ?_
  refine w_iload_n C 3 (dk dcL_law_10 0 rfl) rfl rfl ?_
  refine w_iconst C 1 (dk dcL_law_10 1 rfl) ki_1 ?_
  refine w_iadd C (dk dcL_law_10 2 rfl) ?_
  refine w_sld C hX hbl hbA (by rw [ex]; exact s_in hk hL 1 (by decide)) (dk dcL_law_10 3 rfl) ?_
  refine w_aload_n C 0 (dk dcL_law_10 4 rfl) rfl rfl ?_
  refine w_iload_n C 3 (dk dcL_law_10 5 rfl) rfl rfl ?_
  refine w_iconst C 2 (dk dcL_law_10 6 rfl) ki_2 ?_
  refine w_iadd C (dk dcL_law_10 7 rfl) ?_
  refine w_sld C hX hbl hbA (by rw [ex]; exact s_in hk hL 2 (by decide)) (dk dcL_law_10 8 rfl) ?_
  obtain ⟨g', m', r, e1, e2, hr'⟩ := H _ _ hr (xs (x3 + 1).toNatClampNeg) (xs (x3 + 2).toNatClampNeg)
  refine w_callV1 C (mtX10_judge 400 (Nat.le_of_ble_eq_true rfl) e1) wmX10_judge wd_948 ⟨Nat.le_of_ble_eq_true rfl, Nat.le_of_ble_eq_true rfl⟩ hcs rfl _ (ce_DB) rfl rfl (Nat.le_of_ble_eq_true rfl) (dk dcL_law_10 9 rfl) ?_
  refine vw_swap ?_
  refine w_aload_n C 2 (dk dcL_law_10 10 rfl) rfl rfl ?_
  refine w_aload_n C 0 (dk dcL_law_10 11 rfl) rfl rfl ?_
  refine w_iload_n C 3 (dk dcL_law_10 12 rfl) rfl rfl ?_
  refine w_iconst C 1 (dk dcL_law_10 13 rfl) ki_1 ?_
  refine w_iadd C (dk dcL_law_10 14 rfl) ?_
  refine w_sld C hX hbl hbA (by rw [ex]; exact s_in hk hL 1 (by decide)) (dk dcL_law_10 15 rfl) ?_
  refine w_aload_n C 0 (dk dcL_law_10 16 rfl) rfl rfl ?_
  refine w_iload_n C 3 (dk dcL_law_10 17 rfl) rfl rfl ?_
  refine w_iconst C 2 (dk dcL_law_10 18 rfl) ki_2 ?_
  refine w_iadd C (dk dcL_law_10 19 rfl) ?_
  refine w_sld C hX hbl hbA (by rw [ex]; exact s_in hk hL 2 (by decide)) (dk dcL_law_10 20 rfl) ?_
  refine w_callV1 C (mtX11_judge 400 (Nat.le_of_ble_eq_true rfl) e2) wmX11_judge wd_1522 ⟨Nat.le_of_ble_eq_true rfl, Nat.le_of_ble_eq_true rfl⟩ hcs rfl _ (ce_Mo) rfl rfl (Nat.le_of_ble_eq_true rfl) (dk dcL_law_10 21 rfl) ?_
  refine vw_swap ?_
  refine w_icmp_eq C 1192 (dk dcL_law_10 22 rfl) (by decide) (fun _ => ?_) (fun h => absurd rfl h)
  exact kk _ _ hr'
def Step26 (Rl : STt → STt → Prop) : Prop := ∀ (g m : STt), Rl g m → ∃ (g' : STt) (m' : STt) (r : Int32), fX10_image g = some (g', r) ∧ fX11_image m = some (m', r) ∧ Rl g' m'
set_option maxRecDepth 20000 in
set_option maxHeartbeats 4000000 in
theorem lawc_26 {Rl : STt → STt → Prop} (H : Step26 Rl) {p : Program} {l : Launch} {e : Env} {s : State} {m0 : MethodId} {args : Array Value} {below : List Frame} {meth : Method} {c : Code} {Q : State → Prop} {ce sl : Nat} {E : WEt} (C : CX p s m0 args meth c cL_law 4 RL ret E) {b L : Nat} {xs : Nat → Int32} (hX : va_X b L xs s s.heap) (hbl : b < s.heap.size) (hbA : ¬ E.2.2.2.1 b) (hcs : ce ≤ 600000 ∧ sl ≤ 7302250) {g m : STt} (hr : Rl g m) {x3 : Int32} {k : Nat} (ex : x3 = nI k) (hk : k + 6 ≤ L) (hL : L ≤ 3072) (kk : ∀ g m, Rl g m → VW p l e room_1 s m0 args below meth c Q ce sl E 4 (cellsC E g ++ cellsM E m) [(0, .ref b), (1, .ref (aE E 0 0)), (2, .ref (aE E 28 0)), (3, .int x3)] [] 1192) : VW p l e room_1 s m0 args below meth c Q ce sl E 4 (cellsC E g ++ cellsM E m) [(0, .ref b), (1, .ref (aE E 0 0)), (2, .ref (aE E 28 0)), (3, .int x3)] [] 831 := by
  refine w_aload_n C 1 (dk dcL_law_10 25 rfl) rfl rfl ?_
  obtain ⟨g', m', r, e1, e2, hr'⟩ := H _ _ hr
  refine w_callV1 C (mtX10_image 400 (Nat.le_of_ble_eq_true rfl) e1) wmX10_image wd_977 ⟨Nat.le_of_ble_eq_true rfl, Nat.le_of_ble_eq_true rfl⟩ hcs rfl _ (ce_DB) rfl rfl (Nat.le_of_ble_eq_true rfl) (dk dcL_law_10 26 rfl) ?_
  refine vw_swap ?_
  refine w_aload_n C 2 (dk dcL_law_10 27 rfl) rfl rfl ?_
  refine w_callV1 C (mtX11_image 400 (Nat.le_of_ble_eq_true rfl) e2) wmX11_image wd_1529 ⟨Nat.le_of_ble_eq_true rfl, Nat.le_of_ble_eq_true rfl⟩ hcs rfl _ (ce_Mo) rfl rfl (Nat.le_of_ble_eq_true rfl) (dk dcL_law_10 28 rfl) ?_
  refine vw_swap ?_
  refine w_icmp_eq C 1192 (dk dcL_law_10 29 rfl) (by decide) (fun _ => ?_) (fun h => absurd rfl h)
  exact kk _ _ hr'
def Step27 (Rl : STt → STt → Prop) : Prop := ∀ (g m : STt), Rl g m → ∃ (g' : STt) (m' : STt) (r : Int32), fX10_undo g = some (g', r) ∧ fX11_undo m = some (m', r) ∧ Rl g' m'
set_option maxRecDepth 20000 in
set_option maxHeartbeats 4000000 in
theorem lawc_27 {Rl : STt → STt → Prop} (H : Step27 Rl) {p : Program} {l : Launch} {e : Env} {s : State} {m0 : MethodId} {args : Array Value} {below : List Frame} {meth : Method} {c : Code} {Q : State → Prop} {ce sl : Nat} {E : WEt} (C : CX p s m0 args meth c cL_law 4 RL ret E) {b L : Nat} {xs : Nat → Int32} (hX : va_X b L xs s s.heap) (hbl : b < s.heap.size) (hbA : ¬ E.2.2.2.1 b) (hcs : ce ≤ 600000 ∧ sl ≤ 7302250) {g m : STt} (hr : Rl g m) {x3 : Int32} {k : Nat} (ex : x3 = nI k) (hk : k + 6 ≤ L) (hL : L ≤ 3072) (kk : ∀ g m, Rl g m → VW p l e room_1 s m0 args below meth c Q ce sl E 4 (cellsC E g ++ cellsM E m) [(0, .ref b), (1, .ref (aE E 0 0)), (2, .ref (aE E 28 0)), (3, .int x3)] [] 1192) : VW p l e room_1 s m0 args below meth c Q ce sl E 4 (cellsC E g ++ cellsM E m) [(0, .ref b), (1, .ref (aE E 0 0)), (2, .ref (aE E 28 0)), (3, .int x3)] [] 844 := by
  refine w_aload_n C 1 (dk dcL_law_10 32 rfl) rfl rfl ?_
  obtain ⟨g', m', r, e1, e2, hr'⟩ := H _ _ hr
  refine w_callV1 C (mtX10_undo 400 (Nat.le_of_ble_eq_true rfl) e1) wmX10_undo wd_993 ⟨Nat.le_of_ble_eq_true rfl, Nat.le_of_ble_eq_true rfl⟩ hcs rfl _ (ce_DB) rfl rfl (Nat.le_of_ble_eq_true rfl) (dk dcL_law_10 33 rfl) ?_
  refine vw_swap ?_
  refine w_aload_n C 2 (dk dcL_law_10 34 rfl) rfl rfl ?_
  refine w_callV1 C (mtX11_undo 400 (Nat.le_of_ble_eq_true rfl) e2) wmX11_undo wd_1533 ⟨Nat.le_of_ble_eq_true rfl, Nat.le_of_ble_eq_true rfl⟩ hcs rfl _ (ce_Mo) rfl rfl (Nat.le_of_ble_eq_true rfl) (dk dcL_law_10 35 rfl) ?_
  refine vw_swap ?_
  refine w_icmp_eq C 1192 (dk dcL_law_10 36 rfl) (by decide) (fun _ => ?_) (fun h => absurd rfl h)
  exact kk _ _ hr'
def Step28 (Rl : STt → STt → Prop) : Prop := ∀ (g m : STt), Rl g m → ∀ (x1 : Int32) (x2 : Int32) (x3 : Int32), ∃ (g' : STt) (m' : STt) (r : Int32), fX10_part g x1 x2 x3 = some (g', r) ∧ fX11_part m x1 x2 x3 = some (m', r) ∧ Rl g' m'
set_option maxRecDepth 20000 in
set_option maxHeartbeats 4000000 in
theorem lawc_28 {Rl : STt → STt → Prop} (H : Step28 Rl) {p : Program} {l : Launch} {e : Env} {s : State} {m0 : MethodId} {args : Array Value} {below : List Frame} {meth : Method} {c : Code} {Q : State → Prop} {ce sl : Nat} {E : WEt} (C : CX p s m0 args meth c cL_law 4 RL ret E) {b L : Nat} {xs : Nat → Int32} (hX : va_X b L xs s s.heap) (hbl : b < s.heap.size) (hbA : ¬ E.2.2.2.1 b) (hcs : ce ≤ 600000 ∧ sl ≤ 7302250) {g m : STt} (hr : Rl g m) {x3 : Int32} {k : Nat} (ex : x3 = nI k) (hk : k + 6 ≤ L) (hL : L ≤ 3072) (kk : ∀ g m, Rl g m → VW p l e room_1 s m0 args below meth c Q ce sl E 4 (cellsC E g ++ cellsM E m) [(0, .ref b), (1, .ref (aE E 0 0)), (2, .ref (aE E 28 0)), (3, .int x3)] [] 1192) : VW p l e room_1 s m0 args below meth c Q ce sl E 4 (cellsC E g ++ cellsM E m) [(0, .ref b), (1, .ref (aE E 0 0)), (2, .ref (aE E 28 0)), (3, .int x3)] [] 857 := by
  refine w_aload_n C 1 (dk dcL_law_10 39 rfl) rfl rfl ?_
  refine w_aload_n C 0 (dk dcL_law_10 40 rfl) rfl rfl ?_
  refine w_iload_n C 3 (dk dcL_law_10 41 rfl) rfl rfl ?_
  refine w_iconst C 1 (dk dcL_law_10 42 rfl) ki_1 ?_
  refine w_iadd C (dk dcL_law_10 43 rfl) ?_
  refine w_sld C hX hbl hbA (by rw [ex]; exact s_in hk hL 1 (by decide)) (dk dcL_law_10 44 rfl) ?_
  refine w_aload_n C 0 (dk dcL_law_10 45 rfl) rfl rfl ?_
  refine w_iload_n C 3 (dk dcL_law_10 46 rfl) rfl rfl ?_
  refine w_iconst C 2 (dk dcL_law_10 47 rfl) ki_2 ?_
  refine w_iadd C (dk dcL_law_11 0 rfl) ?_
  refine w_sld C hX hbl hbA (by rw [ex]; exact s_in hk hL 2 (by decide)) (dk dcL_law_11 1 rfl) ?_
  refine w_aload_n C 0 (dk dcL_law_11 2 rfl) rfl rfl ?_
  refine w_iload_n C 3 (dk dcL_law_11 3 rfl) rfl rfl ?_
  refine w_iconst C 3 (dk dcL_law_11 4 rfl) ki_3 ?_
  refine w_iadd C (dk dcL_law_11 5 rfl) ?_
  refine w_sld C hX hbl hbA (by rw [ex]; exact s_in hk hL 3 (by decide)) (dk dcL_law_11 6 rfl) ?_
  obtain ⟨g', m', r, e1, e2, hr'⟩ := H _ _ hr (xs (x3 + 1).toNatClampNeg) (xs (x3 + 2).toNatClampNeg) (xs (x3 + 3).toNatClampNeg)
  refine w_callV1 C (mtX10_part 400 (Nat.le_of_ble_eq_true rfl) e1) wmX10_part wd_1001 ⟨Nat.le_of_ble_eq_true rfl, Nat.le_of_ble_eq_true rfl⟩ hcs rfl _ (ce_DB) rfl rfl (Nat.le_of_ble_eq_true rfl) (dk dcL_law_11 7 rfl) ?_
  refine vw_swap ?_
  refine w_aload_n C 2 (dk dcL_law_11 8 rfl) rfl rfl ?_
  refine w_aload_n C 0 (dk dcL_law_11 9 rfl) rfl rfl ?_
  refine w_iload_n C 3 (dk dcL_law_11 10 rfl) rfl rfl ?_
  refine w_iconst C 1 (dk dcL_law_11 11 rfl) ki_1 ?_
  refine w_iadd C (dk dcL_law_11 12 rfl) ?_
  refine w_sld C hX hbl hbA (by rw [ex]; exact s_in hk hL 1 (by decide)) (dk dcL_law_11 13 rfl) ?_
  refine w_aload_n C 0 (dk dcL_law_11 14 rfl) rfl rfl ?_
  refine w_iload_n C 3 (dk dcL_law_11 15 rfl) rfl rfl ?_
  refine w_iconst C 2 (dk dcL_law_11 16 rfl) ki_2 ?_
  refine w_iadd C (dk dcL_law_11 17 rfl) ?_
  refine w_sld C hX hbl hbA (by rw [ex]; exact s_in hk hL 2 (by decide)) (dk dcL_law_11 18 rfl) ?_
  refine w_aload_n C 0 (dk dcL_law_11 19 rfl) rfl rfl ?_
  refine w_iload_n C 3 (dk dcL_law_11 20 rfl) rfl rfl ?_
  refine w_iconst C 3 (dk dcL_law_11 21 rfl) ki_3 ?_
  refine w_iadd C (dk dcL_law_11 22 rfl) ?_
  refine w_sld C hX hbl hbA (by rw [ex]; exact s_in hk hL 3 (by decide)) (dk dcL_law_11 23 rfl) ?_
  refine w_callV1 C (mtX11_part 400 (Nat.le_of_ble_eq_true rfl) e2) wmX11_part wd_1537 ⟨Nat.le_of_ble_eq_true rfl, Nat.le_of_ble_eq_true rfl⟩ hcs rfl _ (ce_Mo) rfl rfl (Nat.le_of_ble_eq_true rfl) (dk dcL_law_11 24 rfl) ?_
  refine vw_swap ?_
  refine w_icmp_eq C 1192 (dk dcL_law_11 25 rfl) (by decide) (fun _ => ?_) (fun h => absurd rfl h)
  exact kk _ _ hr'
def Step29 (Rl : STt → STt → Prop) : Prop := ∀ (g m : STt), Rl g m → ∀ (x1 : Int32), ∃ (r : Int32), fX10_trace g x1 = some r ∧ fX11_trace m x1 = some r ∧ Rl g m
set_option maxRecDepth 20000 in
set_option maxHeartbeats 4000000 in
theorem lawc_29 {Rl : STt → STt → Prop} (H : Step29 Rl) {p : Program} {l : Launch} {e : Env} {s : State} {m0 : MethodId} {args : Array Value} {below : List Frame} {meth : Method} {c : Code} {Q : State → Prop} {ce sl : Nat} {E : WEt} (C : CX p s m0 args meth c cL_law 4 RL ret E) {b L : Nat} {xs : Nat → Int32} (hX : va_X b L xs s s.heap) (hbl : b < s.heap.size) (hbA : ¬ E.2.2.2.1 b) (hcs : ce ≤ 600000 ∧ sl ≤ 7302250) {g m : STt} (hr : Rl g m) {x3 : Int32} {k : Nat} (ex : x3 = nI k) (hk : k + 6 ≤ L) (hL : L ≤ 3072) (kk : ∀ g m, Rl g m → VW p l e room_1 s m0 args below meth c Q ce sl E 4 (cellsC E g ++ cellsM E m) [(0, .ref b), (1, .ref (aE E 0 0)), (2, .ref (aE E 28 0)), (3, .int x3)] [] 1192) : VW p l e room_1 s m0 args below meth c Q ce sl E 4 (cellsC E g ++ cellsM E m) [(0, .ref b), (1, .ref (aE E 0 0)), (2, .ref (aE E 28 0)), (3, .int x3)] [] 900 := by
  refine w_aload_n C 1 (dk dcL_law_11 28 rfl) rfl rfl ?_
  refine w_aload_n C 0 (dk dcL_law_11 29 rfl) rfl rfl ?_
  refine w_iload_n C 3 (dk dcL_law_11 30 rfl) rfl rfl ?_
  refine w_iconst C 1 (dk dcL_law_11 31 rfl) ki_1 ?_
  refine w_iadd C (dk dcL_law_11 32 rfl) ?_
  refine w_sld C hX hbl hbA (by rw [ex]; exact s_in hk hL 1 (by decide)) (dk dcL_law_11 33 rfl) ?_
  obtain ⟨r, e1, e2, hr'⟩ := H _ _ hr (xs (x3 + 1).toNatClampNeg)
  refine w_callV1 C (mtX10_trace 400 (Nat.le_of_ble_eq_true rfl) e1) wmX10_trace wd_1032 ⟨Nat.le_of_ble_eq_true rfl, Nat.le_of_ble_eq_true rfl⟩ hcs rfl _ (ce_DB) rfl rfl (Nat.le_of_ble_eq_true rfl) (dk dcL_law_11 34 rfl) ?_
  refine vw_swap ?_
  refine w_aload_n C 2 (dk dcL_law_11 35 rfl) rfl rfl ?_
  refine w_aload_n C 0 (dk dcL_law_11 36 rfl) rfl rfl ?_
  refine w_iload_n C 3 (dk dcL_law_11 37 rfl) rfl rfl ?_
  refine w_iconst C 1 (dk dcL_law_11 38 rfl) ki_1 ?_
  refine w_iadd C (dk dcL_law_11 39 rfl) ?_
  refine w_sld C hX hbl hbA (by rw [ex]; exact s_in hk hL 1 (by decide)) (dk dcL_law_11 40 rfl) ?_
  refine w_callV1 C (mtX11_trace 400 (Nat.le_of_ble_eq_true rfl) e2) wmX11_trace wd_1581 ⟨Nat.le_of_ble_eq_true rfl, Nat.le_of_ble_eq_true rfl⟩ hcs rfl _ (ce_Mo) rfl rfl (Nat.le_of_ble_eq_true rfl) (dk dcL_law_11 41 rfl) ?_
  refine vw_swap ?_
  refine w_icmp_eq C 1192 (dk dcL_law_11 42 rfl) (by decide) (fun _ => ?_) (fun h => absurd rfl h)
  exact kk _ _ hr'
def Step30 (Rl : STt → STt → Prop) : Prop := ∀ (g m : STt), Rl g m → ∀ (x1 : Int32) (x2 : Int32), ∃ (r : Int32), fX10_taken g x1 x2 = some r ∧ fX11_taken m x1 x2 = some r ∧ Rl g m
set_option maxRecDepth 20000 in
set_option maxHeartbeats 4000000 in
theorem lawc_30 {Rl : STt → STt → Prop} (H : Step30 Rl) {p : Program} {l : Launch} {e : Env} {s : State} {m0 : MethodId} {args : Array Value} {below : List Frame} {meth : Method} {c : Code} {Q : State → Prop} {ce sl : Nat} {E : WEt} (C : CX p s m0 args meth c cL_law 4 RL ret E) {b L : Nat} {xs : Nat → Int32} (hX : va_X b L xs s s.heap) (hbl : b < s.heap.size) (hbA : ¬ E.2.2.2.1 b) (hcs : ce ≤ 600000 ∧ sl ≤ 7302250) {g m : STt} (hr : Rl g m) {x3 : Int32} {k : Nat} (ex : x3 = nI k) (hk : k + 6 ≤ L) (hL : L ≤ 3072) (kk : ∀ g m, Rl g m → VW p l e room_1 s m0 args below meth c Q ce sl E 4 (cellsC E g ++ cellsM E m) [(0, .ref b), (1, .ref (aE E 0 0)), (2, .ref (aE E 28 0)), (3, .int x3)] [] 1192) : VW p l e room_1 s m0 args below meth c Q ce sl E 4 (cellsC E g ++ cellsM E m) [(0, .ref b), (1, .ref (aE E 0 0)), (2, .ref (aE E 28 0)), (3, .int x3)] [] 923 := by
  refine w_aload_n C 1 (dk dcL_law_11 45 rfl) rfl rfl ?_
  refine w_aload_n C 0 (dk dcL_law_11 46 rfl) rfl rfl ?_
  refine w_iload_n C 3 (dk dcL_law_11 47 rfl) rfl rfl ?_
  refine w_iconst C 1 (dk dcL_law_12 0 rfl) ki_1 ?_
  refine w_iadd C (dk dcL_law_12 1 rfl) ?_
  refine w_sld C hX hbl hbA (by rw [ex]; exact s_in hk hL 1 (by decide)) (dk dcL_law_12 2 rfl) ?_
  refine w_aload_n C 0 (dk dcL_law_12 3 rfl) rfl rfl ?_
  refine w_iload_n C 3 (dk dcL_law_12 4 rfl) rfl rfl ?_
  refine w_iconst C 2 (dk dcL_law_12 5 rfl) ki_2 ?_
  refine w_iadd C (dk dcL_law_12 6 rfl) ?_
  refine w_sld C hX hbl hbA (by rw [ex]; exact s_in hk hL 2 (by decide)) (dk dcL_law_12 7 rfl) ?_
  obtain ⟨r, e1, e2, hr'⟩ := H _ _ hr (xs (x3 + 1).toNatClampNeg) (xs (x3 + 2).toNatClampNeg)
  refine w_callV1 C (mtX10_taken 400 (Nat.le_of_ble_eq_true rfl) e1) wmX10_taken wd_1041 ⟨Nat.le_of_ble_eq_true rfl, Nat.le_of_ble_eq_true rfl⟩ hcs rfl _ (ce_DB) rfl rfl (Nat.le_of_ble_eq_true rfl) (dk dcL_law_12 8 rfl) ?_
  refine vw_swap ?_
  refine w_aload_n C 2 (dk dcL_law_12 9 rfl) rfl rfl ?_
  refine w_aload_n C 0 (dk dcL_law_12 10 rfl) rfl rfl ?_
  refine w_iload_n C 3 (dk dcL_law_12 11 rfl) rfl rfl ?_
  refine w_iconst C 1 (dk dcL_law_12 12 rfl) ki_1 ?_
  refine w_iadd C (dk dcL_law_12 13 rfl) ?_
  refine w_sld C hX hbl hbA (by rw [ex]; exact s_in hk hL 1 (by decide)) (dk dcL_law_12 14 rfl) ?_
  refine w_aload_n C 0 (dk dcL_law_12 15 rfl) rfl rfl ?_
  refine w_iload_n C 3 (dk dcL_law_12 16 rfl) rfl rfl ?_
  refine w_iconst C 2 (dk dcL_law_12 17 rfl) ki_2 ?_
  refine w_iadd C (dk dcL_law_12 18 rfl) ?_
  refine w_sld C hX hbl hbA (by rw [ex]; exact s_in hk hL 2 (by decide)) (dk dcL_law_12 19 rfl) ?_
  refine w_callV1 C (mtX11_taken 400 (Nat.le_of_ble_eq_true rfl) e2) wmX11_taken wd_1585 ⟨Nat.le_of_ble_eq_true rfl, Nat.le_of_ble_eq_true rfl⟩ hcs rfl _ (ce_Mo) rfl rfl (Nat.le_of_ble_eq_true rfl) (dk dcL_law_12 20 rfl) ?_
  refine vw_swap ?_
  refine w_icmp_eq C 1192 (dk dcL_law_12 21 rfl) (by decide) (fun _ => ?_) (fun h => absurd rfl h)
  exact kk _ _ hr'
def Step31 (Rl : STt → STt → Prop) : Prop := ∀ (g m : STt), Rl g m → ∀ (x1 : Int32), ∃ (r : Int32), fX10_count g x1 = some r ∧ fX11_count m x1 = some r ∧ Rl g m
set_option maxRecDepth 20000 in
set_option maxHeartbeats 4000000 in
theorem lawc_31 {Rl : STt → STt → Prop} (H : Step31 Rl) {p : Program} {l : Launch} {e : Env} {s : State} {m0 : MethodId} {args : Array Value} {below : List Frame} {meth : Method} {c : Code} {Q : State → Prop} {ce sl : Nat} {E : WEt} (C : CX p s m0 args meth c cL_law 4 RL ret E) {b L : Nat} {xs : Nat → Int32} (hX : va_X b L xs s s.heap) (hbl : b < s.heap.size) (hbA : ¬ E.2.2.2.1 b) (hcs : ce ≤ 600000 ∧ sl ≤ 7302250) {g m : STt} (hr : Rl g m) {x3 : Int32} {k : Nat} (ex : x3 = nI k) (hk : k + 6 ≤ L) (hL : L ≤ 3072) (kk : ∀ g m, Rl g m → VW p l e room_1 s m0 args below meth c Q ce sl E 4 (cellsC E g ++ cellsM E m) [(0, .ref b), (1, .ref (aE E 0 0)), (2, .ref (aE E 28 0)), (3, .int x3)] [] 1192) : VW p l e room_1 s m0 args below meth c Q ce sl E 4 (cellsC E g ++ cellsM E m) [(0, .ref b), (1, .ref (aE E 0 0)), (2, .ref (aE E 28 0)), (3, .int x3)] [] 956 := by
  refine w_aload_n C 1 (dk dcL_law_12 24 rfl) rfl rfl ?_
  refine w_aload_n C 0 (dk dcL_law_12 25 rfl) rfl rfl ?_
  refine w_iload_n C 3 (dk dcL_law_12 26 rfl) rfl rfl ?_
  refine w_iconst C 1 (dk dcL_law_12 27 rfl) ki_1 ?_
  refine w_iadd C (dk dcL_law_12 28 rfl) ?_
  refine w_sld C hX hbl hbA (by rw [ex]; exact s_in hk hL 1 (by decide)) (dk dcL_law_12 29 rfl) ?_
  obtain ⟨r, e1, e2, hr'⟩ := H _ _ hr (xs (x3 + 1).toNatClampNeg)
  refine w_callV1 C (mtX10_count 400 (Nat.le_of_ble_eq_true rfl) e1) wmX10_count wd_1049 ⟨Nat.le_of_ble_eq_true rfl, Nat.le_of_ble_eq_true rfl⟩ hcs rfl _ (ce_DB) rfl rfl (Nat.le_of_ble_eq_true rfl) (dk dcL_law_12 30 rfl) ?_
  refine vw_swap ?_
  refine w_aload_n C 2 (dk dcL_law_12 31 rfl) rfl rfl ?_
  refine w_aload_n C 0 (dk dcL_law_12 32 rfl) rfl rfl ?_
  refine w_iload_n C 3 (dk dcL_law_12 33 rfl) rfl rfl ?_
  refine w_iconst C 1 (dk dcL_law_12 34 rfl) ki_1 ?_
  refine w_iadd C (dk dcL_law_12 35 rfl) ?_
  refine w_sld C hX hbl hbA (by rw [ex]; exact s_in hk hL 1 (by decide)) (dk dcL_law_12 36 rfl) ?_
  refine w_callV1 C (mtX11_count 400 (Nat.le_of_ble_eq_true rfl) e2) wmX11_count wd_1592 ⟨Nat.le_of_ble_eq_true rfl, Nat.le_of_ble_eq_true rfl⟩ hcs rfl _ (ce_Mo) rfl rfl (Nat.le_of_ble_eq_true rfl) (dk dcL_law_12 37 rfl) ?_
  refine vw_swap ?_
  refine w_icmp_eq C 1192 (dk dcL_law_12 38 rfl) (by decide) (fun _ => ?_) (fun h => absurd rfl h)
  exact kk _ _ hr'
def Step32 (Rl : STt → STt → Prop) : Prop := ∀ (g m : STt), Rl g m → ∀ (x1 : Int32) (x2 : Int32) (x3 : Int32), ∃ (g' : STt) (m' : STt) (r : Int32), fX10_tape g x1 x2 x3 = some (g', r) ∧ fX11_tape m x1 x2 x3 = some (m', r) ∧ Rl g' m'
set_option maxRecDepth 20000 in
set_option maxHeartbeats 4000000 in
theorem lawc_32 {Rl : STt → STt → Prop} (H : Step32 Rl) {p : Program} {l : Launch} {e : Env} {s : State} {m0 : MethodId} {args : Array Value} {below : List Frame} {meth : Method} {c : Code} {Q : State → Prop} {ce sl : Nat} {E : WEt} (C : CX p s m0 args meth c cL_law 4 RL ret E) {b L : Nat} {xs : Nat → Int32} (hX : va_X b L xs s s.heap) (hbl : b < s.heap.size) (hbA : ¬ E.2.2.2.1 b) (hcs : ce ≤ 600000 ∧ sl ≤ 7302250) {g m : STt} (hr : Rl g m) {x3 : Int32} {k : Nat} (ex : x3 = nI k) (hk : k + 6 ≤ L) (hL : L ≤ 3072) (kk : ∀ g m, Rl g m → VW p l e room_1 s m0 args below meth c Q ce sl E 4 (cellsC E g ++ cellsM E m) [(0, .ref b), (1, .ref (aE E 0 0)), (2, .ref (aE E 28 0)), (3, .int x3)] [] 1192) : VW p l e room_1 s m0 args below meth c Q ce sl E 4 (cellsC E g ++ cellsM E m) [(0, .ref b), (1, .ref (aE E 0 0)), (2, .ref (aE E 28 0)), (3, .int x3)] [] 979 := by
  refine w_aload_n C 1 (dk dcL_law_12 41 rfl) rfl rfl ?_
  refine w_aload_n C 0 (dk dcL_law_12 42 rfl) rfl rfl ?_
  refine w_iload_n C 3 (dk dcL_law_12 43 rfl) rfl rfl ?_
  refine w_iconst C 1 (dk dcL_law_12 44 rfl) ki_1 ?_
  refine w_iadd C (dk dcL_law_12 45 rfl) ?_
  refine w_sld C hX hbl hbA (by rw [ex]; exact s_in hk hL 1 (by decide)) (dk dcL_law_12 46 rfl) ?_
  refine w_aload_n C 0 (dk dcL_law_12 47 rfl) rfl rfl ?_
  refine w_iload_n C 3 (dk dcL_law_13 0 rfl) rfl rfl ?_
  refine w_iconst C 2 (dk dcL_law_13 1 rfl) ki_2 ?_
  refine w_iadd C (dk dcL_law_13 2 rfl) ?_
  refine w_sld C hX hbl hbA (by rw [ex]; exact s_in hk hL 2 (by decide)) (dk dcL_law_13 3 rfl) ?_
  refine w_aload_n C 0 (dk dcL_law_13 4 rfl) rfl rfl ?_
  refine w_iload_n C 3 (dk dcL_law_13 5 rfl) rfl rfl ?_
  refine w_iconst C 3 (dk dcL_law_13 6 rfl) ki_3 ?_
  refine w_iadd C (dk dcL_law_13 7 rfl) ?_
  refine w_sld C hX hbl hbA (by rw [ex]; exact s_in hk hL 3 (by decide)) (dk dcL_law_13 8 rfl) ?_
  obtain ⟨g', m', r, e1, e2, hr'⟩ := H _ _ hr (xs (x3 + 1).toNatClampNeg) (xs (x3 + 2).toNatClampNeg) (xs (x3 + 3).toNatClampNeg)
  refine w_callV1 C (mtX10_tape 400 (Nat.le_of_ble_eq_true rfl) e1) wmX10_tape wd_1057 ⟨Nat.le_of_ble_eq_true rfl, Nat.le_of_ble_eq_true rfl⟩ hcs rfl _ (ce_DB) rfl rfl (Nat.le_of_ble_eq_true rfl) (dk dcL_law_13 9 rfl) ?_
  refine vw_swap ?_
  refine w_aload_n C 2 (dk dcL_law_13 10 rfl) rfl rfl ?_
  refine w_aload_n C 0 (dk dcL_law_13 11 rfl) rfl rfl ?_
  refine w_iload_n C 3 (dk dcL_law_13 12 rfl) rfl rfl ?_
  refine w_iconst C 1 (dk dcL_law_13 13 rfl) ki_1 ?_
  refine w_iadd C (dk dcL_law_13 14 rfl) ?_
  refine w_sld C hX hbl hbA (by rw [ex]; exact s_in hk hL 1 (by decide)) (dk dcL_law_13 15 rfl) ?_
  refine w_aload_n C 0 (dk dcL_law_13 16 rfl) rfl rfl ?_
  refine w_iload_n C 3 (dk dcL_law_13 17 rfl) rfl rfl ?_
  refine w_iconst C 2 (dk dcL_law_13 18 rfl) ki_2 ?_
  refine w_iadd C (dk dcL_law_13 19 rfl) ?_
  refine w_sld C hX hbl hbA (by rw [ex]; exact s_in hk hL 2 (by decide)) (dk dcL_law_13 20 rfl) ?_
  refine w_aload_n C 0 (dk dcL_law_13 21 rfl) rfl rfl ?_
  refine w_iload_n C 3 (dk dcL_law_13 22 rfl) rfl rfl ?_
  refine w_iconst C 3 (dk dcL_law_13 23 rfl) ki_3 ?_
  refine w_iadd C (dk dcL_law_13 24 rfl) ?_
  refine w_sld C hX hbl hbA (by rw [ex]; exact s_in hk hL 3 (by decide)) (dk dcL_law_13 25 rfl) ?_
  refine w_callV1 C (mtX11_tape 400 (Nat.le_of_ble_eq_true rfl) e2) wmX11_tape wd_1596 ⟨Nat.le_of_ble_eq_true rfl, Nat.le_of_ble_eq_true rfl⟩ hcs rfl _ (ce_Mo) rfl rfl (Nat.le_of_ble_eq_true rfl) (dk dcL_law_13 26 rfl) ?_
  refine vw_swap ?_
  refine w_icmp_eq C 1192 (dk dcL_law_13 27 rfl) (by decide) (fun _ => ?_) (fun h => absurd rfl h)
  exact kk _ _ hr'
def Step33 (Rl : STt → STt → Prop) : Prop := ∀ (g m : STt), Rl g m → ∀ (x1 : Int32) (x2 : Int32) (x3 : Int64), ∃ (g' : STt) (m' : STt) (r : Int32), fX10_item g x1 x2 x3 = some (g', r) ∧ fX11_item m x1 x2 x3 = some (m', r) ∧ Rl g' m'
set_option maxRecDepth 20000 in
set_option maxHeartbeats 4000000 in
theorem lawc_33 {Rl : STt → STt → Prop} (H : Step33 Rl) {p : Program} {l : Launch} {e : Env} {s : State} {m0 : MethodId} {args : Array Value} {below : List Frame} {meth : Method} {c : Code} {Q : State → Prop} {ce sl : Nat} {E : WEt} (C : CX p s m0 args meth c cL_law 4 RL ret E) {b L : Nat} {xs : Nat → Int32} (hX : va_X b L xs s s.heap) (hbl : b < s.heap.size) (hbA : ¬ E.2.2.2.1 b) (hcs : ce ≤ 600000 ∧ sl ≤ 7302250) {g m : STt} (hr : Rl g m) {x3 : Int32} {k : Nat} (ex : x3 = nI k) (hk : k + 6 ≤ L) (hL : L ≤ 3072) (kk : ∀ g m, Rl g m → VW p l e room_1 s m0 args below meth c Q ce sl E 4 (cellsC E g ++ cellsM E m) [(0, .ref b), (1, .ref (aE E 0 0)), (2, .ref (aE E 28 0)), (3, .int x3)] [] 1192) : VW p l e room_1 s m0 args below meth c Q ce sl E 4 (cellsC E g ++ cellsM E m) [(0, .ref b), (1, .ref (aE E 0 0)), (2, .ref (aE E 28 0)), (3, .int x3)] [] 1022 := by
  refine w_aload_n C 1 (dk dcL_law_13 30 rfl) rfl rfl ?_
  refine w_aload_n C 0 (dk dcL_law_13 31 rfl) rfl rfl ?_
  refine w_iload_n C 3 (dk dcL_law_13 32 rfl) rfl rfl ?_
  refine w_iconst C 1 (dk dcL_law_13 33 rfl) ki_1 ?_
  refine w_iadd C (dk dcL_law_13 34 rfl) ?_
  refine w_sld C hX hbl hbA (by rw [ex]; exact s_in hk hL 1 (by decide)) (dk dcL_law_13 35 rfl) ?_
  refine w_aload_n C 0 (dk dcL_law_13 36 rfl) rfl rfl ?_
  refine w_iload_n C 3 (dk dcL_law_13 37 rfl) rfl rfl ?_
  refine w_iconst C 2 (dk dcL_law_13 38 rfl) ki_2 ?_
  refine w_iadd C (dk dcL_law_13 39 rfl) ?_
  refine w_sld C hX hbl hbA (by rw [ex]; exact s_in hk hL 2 (by decide)) (dk dcL_law_13 40 rfl) ?_
  refine w_aload_n C 0 (dk dcL_law_13 41 rfl) rfl rfl ?_
  refine w_iload_n C 3 (dk dcL_law_13 42 rfl) rfl rfl ?_
  refine w_iconst C 3 (dk dcL_law_13 43 rfl) ki_3 ?_
  refine w_iadd C (dk dcL_law_13 44 rfl) ?_
  refine w_sld C hX hbl hbA (by rw [ex]; exact s_in hk hL 3 (by decide)) (dk dcL_law_13 45 rfl) ?_
  refine w_i2l C (dk dcL_law_13 46 rfl) ?_
  refine w_bipush C 32 (dk dcL_law_13 47 rfl) kb_32 ?_
  refine w_lshl C (dk dcL_law_14 0 rfl) ?_
  refine w_aload_n C 0 (dk dcL_law_14 1 rfl) rfl rfl ?_
  refine w_iload_n C 3 (dk dcL_law_14 2 rfl) rfl rfl ?_
  refine w_iconst C 4 (dk dcL_law_14 3 rfl) ki_4 ?_
  refine w_iadd C (dk dcL_law_14 4 rfl) ?_
  refine w_sld C hX hbl hbA (by rw [ex]; exact s_in hk hL 4 (by decide)) (dk dcL_law_14 5 rfl) ?_
  refine w_i2l C (dk dcL_law_14 6 rfl) ?_
  refine w_ldc2 C wd_1615 (dk dcL_law_14 7 rfl) ?_
  refine w_land C (dk dcL_law_14 8 rfl) ?_
  refine w_lor C (dk dcL_law_14 9 rfl) ?_
  obtain ⟨g', m', r, e1, e2, hr'⟩ := H _ _ hr (xs (x3 + 1).toNatClampNeg) (xs (x3 + 2).toNatClampNeg) ((((xs (x3 + 3).toNatClampNeg).toInt64) <<< ((32 : Int32).toInt64 &&& 63)) ||| (((xs (x3 + 4).toNatClampNeg).toInt64) &&& (4294967295)))
  refine w_callV1 C (mtX10_item 400 (Nat.le_of_ble_eq_true rfl) e1) wmX10_item wd_1070 ⟨Nat.le_of_ble_eq_true rfl, Nat.le_of_ble_eq_true rfl⟩ hcs rfl _ (ce_DB) rfl rfl (Nat.le_of_ble_eq_true rfl) (dk dcL_law_14 10 rfl) ?_
  refine vw_swap ?_
  refine w_aload_n C 2 (dk dcL_law_14 11 rfl) rfl rfl ?_
  refine w_aload_n C 0 (dk dcL_law_14 12 rfl) rfl rfl ?_
  refine w_iload_n C 3 (dk dcL_law_14 13 rfl) rfl rfl ?_
  refine w_iconst C 1 (dk dcL_law_14 14 rfl) ki_1 ?_
  refine w_iadd C (dk dcL_law_14 15 rfl) ?_
  refine w_sld C hX hbl hbA (by rw [ex]; exact s_in hk hL 1 (by decide)) (dk dcL_law_14 16 rfl) ?_
  refine w_aload_n C 0 (dk dcL_law_14 17 rfl) rfl rfl ?_
  refine w_iload_n C 3 (dk dcL_law_14 18 rfl) rfl rfl ?_
  refine w_iconst C 2 (dk dcL_law_14 19 rfl) ki_2 ?_
  refine w_iadd C (dk dcL_law_14 20 rfl) ?_
  refine w_sld C hX hbl hbA (by rw [ex]; exact s_in hk hL 2 (by decide)) (dk dcL_law_14 21 rfl) ?_
  refine w_aload_n C 0 (dk dcL_law_14 22 rfl) rfl rfl ?_
  refine w_iload_n C 3 (dk dcL_law_14 23 rfl) rfl rfl ?_
  refine w_iconst C 3 (dk dcL_law_14 24 rfl) ki_3 ?_
  refine w_iadd C (dk dcL_law_14 25 rfl) ?_
  refine w_sld C hX hbl hbA (by rw [ex]; exact s_in hk hL 3 (by decide)) (dk dcL_law_14 26 rfl) ?_
  refine w_i2l C (dk dcL_law_14 27 rfl) ?_
  refine w_bipush C 32 (dk dcL_law_14 28 rfl) kb_32 ?_
  refine w_lshl C (dk dcL_law_14 29 rfl) ?_
  refine w_aload_n C 0 (dk dcL_law_14 30 rfl) rfl rfl ?_
  refine w_iload_n C 3 (dk dcL_law_14 31 rfl) rfl rfl ?_
  refine w_iconst C 4 (dk dcL_law_14 32 rfl) ki_4 ?_
  refine w_iadd C (dk dcL_law_14 33 rfl) ?_
  refine w_sld C hX hbl hbA (by rw [ex]; exact s_in hk hL 4 (by decide)) (dk dcL_law_14 34 rfl) ?_
  refine w_i2l C (dk dcL_law_14 35 rfl) ?_
  refine w_ldc2 C wd_1615 (dk dcL_law_14 36 rfl) ?_
  refine w_land C (dk dcL_law_14 37 rfl) ?_
  refine w_lor C (dk dcL_law_14 38 rfl) ?_
  refine w_callV1 C (mtX11_item 400 (Nat.le_of_ble_eq_true rfl) e2) wmX11_item wd_1600 ⟨Nat.le_of_ble_eq_true rfl, Nat.le_of_ble_eq_true rfl⟩ hcs rfl _ (ce_Mo) rfl rfl (Nat.le_of_ble_eq_true rfl) (dk dcL_law_14 39 rfl) ?_
  refine vw_swap ?_
  refine w_icmp_eq C 1192 (dk dcL_law_14 40 rfl) (by decide) (fun _ => ?_) (fun h => absurd rfl h)
  exact kk _ _ hr'
def Step34 (Rl : STt → STt → Prop) : Prop := ∀ (g m : STt), Rl g m → ∀ (x1 : Int32) (x2 : Int32), ∃ (r : Int64), fX10_read g x1 x2 = some r ∧ fX11_read m x1 x2 = some r ∧ Rl g m
set_option maxRecDepth 20000 in
set_option maxHeartbeats 4000000 in
theorem lawc_34 {Rl : STt → STt → Prop} (H : Step34 Rl) {p : Program} {l : Launch} {e : Env} {s : State} {m0 : MethodId} {args : Array Value} {below : List Frame} {meth : Method} {c : Code} {Q : State → Prop} {ce sl : Nat} {E : WEt} (C : CX p s m0 args meth c cL_law 4 RL ret E) {b L : Nat} {xs : Nat → Int32} (hX : va_X b L xs s s.heap) (hbl : b < s.heap.size) (hbA : ¬ E.2.2.2.1 b) (hcs : ce ≤ 600000 ∧ sl ≤ 7302250) {g m : STt} (hr : Rl g m) {x3 : Int32} {k : Nat} (ex : x3 = nI k) (hk : k + 6 ≤ L) (hL : L ≤ 3072) (kk : ∀ g m, Rl g m → VW p l e room_1 s m0 args below meth c Q ce sl E 4 (cellsC E g ++ cellsM E m) [(0, .ref b), (1, .ref (aE E 0 0)), (2, .ref (aE E 28 0)), (3, .int x3)] [] 1192) : VW p l e room_1 s m0 args below meth c Q ce sl E 4 (cellsC E g ++ cellsM E m) [(0, .ref b), (1, .ref (aE E 0 0)), (2, .ref (aE E 28 0)), (3, .int x3)] [] 1095 := by
  refine w_aload_n C 1 (dk dcL_law_14 43 rfl) rfl rfl ?_
  refine w_aload_n C 0 (dk dcL_law_14 44 rfl) rfl rfl ?_
  refine w_iload_n C 3 (dk dcL_law_14 45 rfl) rfl rfl ?_
  refine w_iconst C 1 (dk dcL_law_14 46 rfl) ki_1 ?_
  refine w_iadd C (dk dcL_law_14 47 rfl) ?_
  refine w_sld C hX hbl hbA (by rw [ex]; exact s_in hk hL 1 (by decide)) (dk dcL_law_15 0 rfl) ?_
  refine w_aload_n C 0 (dk dcL_law_15 1 rfl) rfl rfl ?_
  refine w_iload_n C 3 (dk dcL_law_15 2 rfl) rfl rfl ?_
  refine w_iconst C 2 (dk dcL_law_15 3 rfl) ki_2 ?_
  refine w_iadd C (dk dcL_law_15 4 rfl) ?_
  refine w_sld C hX hbl hbA (by rw [ex]; exact s_in hk hL 2 (by decide)) (dk dcL_law_15 5 rfl) ?_
  obtain ⟨r, e1, e2, hr'⟩ := H _ _ hr (xs (x3 + 1).toNatClampNeg) (xs (x3 + 2).toNatClampNeg)
  refine w_callV1 C (mtX10_read 400 (Nat.le_of_ble_eq_true rfl) e1) wmX10_read wd_1083 ⟨Nat.le_of_ble_eq_true rfl, Nat.le_of_ble_eq_true rfl⟩ hcs rfl _ (ce_DB) rfl rfl (Nat.le_of_ble_eq_true rfl) (dk dcL_law_15 6 rfl) ?_
  refine vw_swap ?_
  refine w_aload_n C 2 (dk dcL_law_15 7 rfl) rfl rfl ?_
  refine w_aload_n C 0 (dk dcL_law_15 8 rfl) rfl rfl ?_
  refine w_iload_n C 3 (dk dcL_law_15 9 rfl) rfl rfl ?_
  refine w_iconst C 1 (dk dcL_law_15 10 rfl) ki_1 ?_
  refine w_iadd C (dk dcL_law_15 11 rfl) ?_
  refine w_sld C hX hbl hbA (by rw [ex]; exact s_in hk hL 1 (by decide)) (dk dcL_law_15 12 rfl) ?_
  refine w_aload_n C 0 (dk dcL_law_15 13 rfl) rfl rfl ?_
  refine w_iload_n C 3 (dk dcL_law_15 14 rfl) rfl rfl ?_
  refine w_iconst C 2 (dk dcL_law_15 15 rfl) ki_2 ?_
  refine w_iadd C (dk dcL_law_15 16 rfl) ?_
  refine w_sld C hX hbl hbA (by rw [ex]; exact s_in hk hL 2 (by decide)) (dk dcL_law_15 17 rfl) ?_
  refine w_callV1 C (mtX11_read 400 (Nat.le_of_ble_eq_true rfl) e2) wmX11_read wd_1607 ⟨Nat.le_of_ble_eq_true rfl, Nat.le_of_ble_eq_true rfl⟩ hcs rfl _ (ce_Mo) rfl rfl (Nat.le_of_ble_eq_true rfl) (dk dcL_law_15 18 rfl) ?_
  refine vw_swap ?_
  refine w_lcmp C (dk dcL_law_15 19 rfl) ?_
  refine w_if_eq C 1192 (dk dcL_law_15 20 rfl) (by decide) (fun _ => ?_) (fun h => absurd (lg_cmp_self r) h)
  exact kk _ _ hr'
def Step35 (Rl : STt → STt → Prop) : Prop := ∀ (g m : STt), Rl g m → ∀ (x1 : Int32) (x2 : Int32) (x3 : Int32) (x4 : Int32) (x5 : Int32), ∃ (g' : STt) (m' : STt) (r : Int32), fX10_shift g x1 x2 x3 x4 x5 = some (g', r) ∧ fX11_shift m x1 x2 x3 x4 x5 = some (m', r) ∧ Rl g' m'
set_option maxRecDepth 20000 in
set_option maxHeartbeats 4000000 in
theorem lawc_35 {Rl : STt → STt → Prop} (H : Step35 Rl) {p : Program} {l : Launch} {e : Env} {s : State} {m0 : MethodId} {args : Array Value} {below : List Frame} {meth : Method} {c : Code} {Q : State → Prop} {ce sl : Nat} {E : WEt} (C : CX p s m0 args meth c cL_law 4 RL ret E) {b L : Nat} {xs : Nat → Int32} (hX : va_X b L xs s s.heap) (hbl : b < s.heap.size) (hbA : ¬ E.2.2.2.1 b) (hcs : ce ≤ 600000 ∧ sl ≤ 7302250) {g m : STt} (hr : Rl g m) {x3 : Int32} {k : Nat} (ex : x3 = nI k) (hk : k + 6 ≤ L) (hL : L ≤ 3072) (kk : ∀ g m, Rl g m → VW p l e room_1 s m0 args below meth c Q ce sl E 4 (cellsC E g ++ cellsM E m) [(0, .ref b), (1, .ref (aE E 0 0)), (2, .ref (aE E 28 0)), (3, .int x3)] [] 1192) : VW p l e room_1 s m0 args below meth c Q ce sl E 4 (cellsC E g ++ cellsM E m) [(0, .ref b), (1, .ref (aE E 0 0)), (2, .ref (aE E 28 0)), (3, .int x3)] [] 1129 := by
  refine w_aload_n C 1 (dk dcL_law_15 23 rfl) rfl rfl ?_
  refine w_aload_n C 0 (dk dcL_law_15 24 rfl) rfl rfl ?_
  refine w_iload_n C 3 (dk dcL_law_15 25 rfl) rfl rfl ?_
  refine w_iconst C 1 (dk dcL_law_15 26 rfl) ki_1 ?_
  refine w_iadd C (dk dcL_law_15 27 rfl) ?_
  refine w_sld C hX hbl hbA (by rw [ex]; exact s_in hk hL 1 (by decide)) (dk dcL_law_15 28 rfl) ?_
  refine w_aload_n C 0 (dk dcL_law_15 29 rfl) rfl rfl ?_
  refine w_iload_n C 3 (dk dcL_law_15 30 rfl) rfl rfl ?_
  refine w_iconst C 2 (dk dcL_law_15 31 rfl) ki_2 ?_
  refine w_iadd C (dk dcL_law_15 32 rfl) ?_
  refine w_sld C hX hbl hbA (by rw [ex]; exact s_in hk hL 2 (by decide)) (dk dcL_law_15 33 rfl) ?_
  refine w_aload_n C 0 (dk dcL_law_15 34 rfl) rfl rfl ?_
  refine w_iload_n C 3 (dk dcL_law_15 35 rfl) rfl rfl ?_
  refine w_iconst C 3 (dk dcL_law_15 36 rfl) ki_3 ?_
  refine w_iadd C (dk dcL_law_15 37 rfl) ?_
  refine w_sld C hX hbl hbA (by rw [ex]; exact s_in hk hL 3 (by decide)) (dk dcL_law_15 38 rfl) ?_
  refine w_aload_n C 0 (dk dcL_law_15 39 rfl) rfl rfl ?_
  refine w_iload_n C 3 (dk dcL_law_15 40 rfl) rfl rfl ?_
  refine w_iconst C 4 (dk dcL_law_15 41 rfl) ki_4 ?_
  refine w_iadd C (dk dcL_law_15 42 rfl) ?_
  refine w_sld C hX hbl hbA (by rw [ex]; exact s_in hk hL 4 (by decide)) (dk dcL_law_15 43 rfl) ?_
  refine w_aload_n C 0 (dk dcL_law_15 44 rfl) rfl rfl ?_
  refine w_iload_n C 3 (dk dcL_law_15 45 rfl) rfl rfl ?_
  refine w_iconst C 5 (dk dcL_law_15 46 rfl) ki_5 ?_
  refine w_iadd C (dk dcL_law_15 47 rfl) ?_
  refine w_sld C hX hbl hbA (by rw [ex]; exact s_in hk hL 5 (by decide)) (dk dcL_law_16 0 rfl) ?_
  obtain ⟨g', m', r, e1, e2, hr'⟩ := H _ _ hr (xs (x3 + 1).toNatClampNeg) (xs (x3 + 2).toNatClampNeg) (xs (x3 + 3).toNatClampNeg) (xs (x3 + 4).toNatClampNeg) (xs (x3 + 5).toNatClampNeg)
  refine w_callV1 C (mtX10_shift 400 (Nat.le_of_ble_eq_true rfl) e1) wmX10_shift wd_1088 ⟨Nat.le_of_ble_eq_true rfl, Nat.le_of_ble_eq_true rfl⟩ hcs rfl _ (ce_DB) rfl rfl (Nat.le_of_ble_eq_true rfl) (dk dcL_law_16 1 rfl) ?_
  refine vw_swap ?_
  refine w_aload_n C 2 (dk dcL_law_16 2 rfl) rfl rfl ?_
  refine w_aload_n C 0 (dk dcL_law_16 3 rfl) rfl rfl ?_
  refine w_iload_n C 3 (dk dcL_law_16 4 rfl) rfl rfl ?_
  refine w_iconst C 1 (dk dcL_law_16 5 rfl) ki_1 ?_
  refine w_iadd C (dk dcL_law_16 6 rfl) ?_
  refine w_sld C hX hbl hbA (by rw [ex]; exact s_in hk hL 1 (by decide)) (dk dcL_law_16 7 rfl) ?_
  refine w_aload_n C 0 (dk dcL_law_16 8 rfl) rfl rfl ?_
  refine w_iload_n C 3 (dk dcL_law_16 9 rfl) rfl rfl ?_
  refine w_iconst C 2 (dk dcL_law_16 10 rfl) ki_2 ?_
  refine w_iadd C (dk dcL_law_16 11 rfl) ?_
  refine w_sld C hX hbl hbA (by rw [ex]; exact s_in hk hL 2 (by decide)) (dk dcL_law_16 12 rfl) ?_
  refine w_aload_n C 0 (dk dcL_law_16 13 rfl) rfl rfl ?_
  refine w_iload_n C 3 (dk dcL_law_16 14 rfl) rfl rfl ?_
  refine w_iconst C 3 (dk dcL_law_16 15 rfl) ki_3 ?_
  refine w_iadd C (dk dcL_law_16 16 rfl) ?_
  refine w_sld C hX hbl hbA (by rw [ex]; exact s_in hk hL 3 (by decide)) (dk dcL_law_16 17 rfl) ?_
  refine w_aload_n C 0 (dk dcL_law_16 18 rfl) rfl rfl ?_
  refine w_iload_n C 3 (dk dcL_law_16 19 rfl) rfl rfl ?_
  refine w_iconst C 4 (dk dcL_law_16 20 rfl) ki_4 ?_
  refine w_iadd C (dk dcL_law_16 21 rfl) ?_
  refine w_sld C hX hbl hbA (by rw [ex]; exact s_in hk hL 4 (by decide)) (dk dcL_law_16 22 rfl) ?_
  refine w_aload_n C 0 (dk dcL_law_16 23 rfl) rfl rfl ?_
  refine w_iload_n C 3 (dk dcL_law_16 24 rfl) rfl rfl ?_
  refine w_iconst C 5 (dk dcL_law_16 25 rfl) ki_5 ?_
  refine w_iadd C (dk dcL_law_16 26 rfl) ?_
  refine w_sld C hX hbl hbA (by rw [ex]; exact s_in hk hL 5 (by decide)) (dk dcL_law_16 27 rfl) ?_
  refine w_callV1 C (mtX11_shift 400 (Nat.le_of_ble_eq_true rfl) e2) wmX11_shift wd_1611 ⟨Nat.le_of_ble_eq_true rfl, Nat.le_of_ble_eq_true rfl⟩ hcs rfl _ (ce_Mo) rfl rfl (Nat.le_of_ble_eq_true rfl) (dk dcL_law_16 28 rfl) ?_
  refine vw_swap ?_
  refine w_icmp_eq C 1192 (dk dcL_law_16 29 rfl) (by decide) (fun _ => ?_) (fun h => absurd rfl h)
  exact kk _ _ hr'
def LawSteps (Rl : STt → STt → Prop) : Prop := Step0 Rl ∧ Step1 Rl ∧ Step2 Rl ∧ Step3 Rl ∧ Step4 Rl ∧ Step5 Rl ∧ Step6 Rl ∧ Step7 Rl ∧ Step8 Rl ∧ Step9 Rl ∧ Step10 Rl ∧ Step11 Rl ∧ Step12 Rl ∧ Step13 Rl ∧ Step14 Rl ∧ Step15 Rl ∧ Step16 Rl ∧ Step17 Rl ∧ Step18 Rl ∧ Step19 Rl ∧ Step20 Rl ∧ Step21 Rl ∧ Step22 Rl ∧ Step23 Rl ∧ Step24 Rl ∧ Step25 Rl ∧ Step26 Rl ∧ Step27 Rl ∧ Step28 Rl ∧ Step29 Rl ∧ Step30 Rl ∧ Step31 Rl ∧ Step32 Rl ∧ Step33 Rl ∧ Step34 Rl ∧ Step35 Rl
set_option maxRecDepth 20000 in
set_option maxHeartbeats 4000000 in
theorem law_sw {Rl : STt → STt → Prop} (HS : LawSteps Rl) {p : Program} {l : Launch} {e : Env} {s : State} {m0 : MethodId} {args : Array Value} {below : List Frame} {meth : Method} {c : Code} {Q : State → Prop} {ce sl : Nat} {E : WEt} (C : CX p s m0 args meth c cL_law 4 RL ret E) {b L : Nat} {xs : Nat → Int32} (hX : va_X b L xs s s.heap) (hbl : b < s.heap.size) (hbA : ¬ E.2.2.2.1 b) (hcs : ce ≤ 600000 ∧ sl ≤ 7302250) {g m : STt} (hr : Rl g m) {x3 : Int32} {k : Nat} (ex : x3 = nI k) (hk : k + 6 ≤ L) (hL : L ≤ 3072) (kk : ∀ g m, Rl g m → VW p l e room_1 s m0 args below meth c Q ce sl E 4 (cellsC E g ++ cellsM E m) [(0, .ref b), (1, .ref (aE E 0 0)), (2, .ref (aE E 28 0)), (3, .int x3)] [] 1192) (y : Int32) : VW p l e room_1 s m0 args below meth c Q ce sl E 4 (cellsC E g ++ cellsM E m) [(0, .ref b), (1, .ref (aE E 0 0)), (2, .ref (aE E 28 0)), (3, .int x3)] [.int y] 33 := by
  obtain ⟨H0, H1, H2, H3, H4, H5, H6, H7, H8, H9, H10, H11, H12, H13, H14, H15, H16, H17, H18, H19, H20, H21, H22, H23, H24, H25, H26, H27, H28, H29, H30, H31, H32, H33, H34, H35⟩ := HS
  by_cases c0 : y = 0
  · exact w_tableIn C 192 (dk dcL_law_0 21 rfl) (by rw [c0]; decide) (by rw [c0]; decide) (by rw [c0]; rfl) (by decide) (lawc_0 H0 C hX hbl hbA hcs hr ex hk hL kk)
  by_cases c1 : y = 1
  · exact w_tableIn C 235 (dk dcL_law_0 21 rfl) (by rw [c1]; decide) (by rw [c1]; decide) (by rw [c1]; rfl) (by decide) (lawc_1 H1 C hX hbl hbA hcs hr ex hk hL kk)
  by_cases c2 : y = 2
  · exact w_tableIn C 268 (dk dcL_law_0 21 rfl) (by rw [c2]; decide) (by rw [c2]; decide) (by rw [c2]; rfl) (by decide) (lawc_2 H2 C hX hbl hbA hcs hr ex hk hL kk)
  by_cases c3 : y = 3
  · exact w_tableIn C 301 (dk dcL_law_0 21 rfl) (by rw [c3]; decide) (by rw [c3]; decide) (by rw [c3]; rfl) (by decide) (lawc_3 H3 C hX hbl hbA hcs hr ex hk hL kk)
  by_cases c4 : y = 4
  · exact w_tableIn C 324 (dk dcL_law_0 21 rfl) (by rw [c4]; decide) (by rw [c4]; decide) (by rw [c4]; rfl) (by decide) (lawc_4 H4 C hX hbl hbA hcs hr ex hk hL kk)
  by_cases c5 : y = 5
  · exact w_tableIn C 347 (dk dcL_law_0 21 rfl) (by rw [c5]; decide) (by rw [c5]; decide) (by rw [c5]; rfl) (by decide) (lawc_5 H5 C hX hbl hbA hcs hr ex hk hL kk)
  by_cases c6 : y = 6
  · exact w_tableIn C 360 (dk dcL_law_0 21 rfl) (by rw [c6]; decide) (by rw [c6]; decide) (by rw [c6]; rfl) (by decide) (lawc_6 H6 C hX hbl hbA hcs hr ex hk hL kk)
  by_cases c7 : y = 7
  · exact w_tableIn C 383 (dk dcL_law_0 21 rfl) (by rw [c7]; decide) (by rw [c7]; decide) (by rw [c7]; rfl) (by decide) (lawc_7 H7 C hX hbl hbA hcs hr ex hk hL kk)
  by_cases c8 : y = 8
  · exact w_tableIn C 406 (dk dcL_law_0 21 rfl) (by rw [c8]; decide) (by rw [c8]; decide) (by rw [c8]; rfl) (by decide) (lawc_8 H8 C hX hbl hbA hcs hr ex hk hL kk)
  by_cases c9 : y = 9
  · exact w_tableIn C 429 (dk dcL_law_0 21 rfl) (by rw [c9]; decide) (by rw [c9]; decide) (by rw [c9]; rfl) (by decide) (lawc_9 H9 C hX hbl hbA hcs hr ex hk hL kk)
  by_cases c10 : y = 10
  · exact w_tableIn C 452 (dk dcL_law_0 21 rfl) (by rw [c10]; decide) (by rw [c10]; decide) (by rw [c10]; rfl) (by decide) (lawc_10 H10 C hX hbl hbA hcs hr ex hk hL kk)
  by_cases c11 : y = 11
  · exact w_tableIn C 475 (dk dcL_law_0 21 rfl) (by rw [c11]; decide) (by rw [c11]; decide) (by rw [c11]; rfl) (by decide) (lawc_11 H11 C hX hbl hbA hcs hr ex hk hL kk)
  by_cases c12 : y = 12
  · exact w_tableIn C 508 (dk dcL_law_0 21 rfl) (by rw [c12]; decide) (by rw [c12]; decide) (by rw [c12]; rfl) (by decide) (lawc_12 H12 C hX hbl hbA hcs hr ex hk hL kk)
  by_cases c13 : y = 13
  · exact w_tableIn C 541 (dk dcL_law_0 21 rfl) (by rw [c13]; decide) (by rw [c13]; decide) (by rw [c13]; rfl) (by decide) (lawc_13 H13 C hX hbl hbA hcs hr ex hk hL kk)
  by_cases c14 : y = 14
  · exact w_tableIn C 574 (dk dcL_law_0 21 rfl) (by rw [c14]; decide) (by rw [c14]; decide) (by rw [c14]; rfl) (by decide) (lawc_14 H14 C hX hbl hbA hcs hr ex hk hL kk)
  by_cases c15 : y = 15
  · exact w_tableIn C 587 (dk dcL_law_0 21 rfl) (by rw [c15]; decide) (by rw [c15]; decide) (by rw [c15]; rfl) (by decide) (lawc_15 H15 C hX hbl hbA hcs hr ex hk hL kk)
  by_cases c16 : y = 16
  · exact w_tableIn C 600 (dk dcL_law_0 21 rfl) (by rw [c16]; decide) (by rw [c16]; decide) (by rw [c16]; rfl) (by decide) (lawc_16 H16 C hX hbl hbA hcs hr ex hk hL kk)
  by_cases c17 : y = 17
  · exact w_tableIn C 613 (dk dcL_law_0 21 rfl) (by rw [c17]; decide) (by rw [c17]; decide) (by rw [c17]; rfl) (by decide) (lawc_17 H17 C hX hbl hbA hcs hr ex hk hL kk)
  by_cases c18 : y = 18
  · exact w_tableIn C 626 (dk dcL_law_0 21 rfl) (by rw [c18]; decide) (by rw [c18]; decide) (by rw [c18]; rfl) (by decide) (lawc_18 H18 C hX hbl hbA hcs hr ex hk hL kk)
  by_cases c19 : y = 19
  · exact w_tableIn C 649 (dk dcL_law_0 21 rfl) (by rw [c19]; decide) (by rw [c19]; decide) (by rw [c19]; rfl) (by decide) (lawc_19 H19 C hX hbl hbA hcs hr ex hk hL kk)
  by_cases c20 : y = 20
  · exact w_tableIn C 683 (dk dcL_law_0 21 rfl) (by rw [c20]; decide) (by rw [c20]; decide) (by rw [c20]; rfl) (by decide) (lawc_20 H20 C hX hbl hbA hcs hr ex hk hL kk)
  by_cases c21 : y = 21
  · exact w_tableIn C 716 (dk dcL_law_0 21 rfl) (by rw [c21]; decide) (by rw [c21]; decide) (by rw [c21]; rfl) (by decide) (lawc_21 H21 C hX hbl hbA hcs hr ex hk hL kk)
  by_cases c22 : y = 22
  · exact w_tableIn C 739 (dk dcL_law_0 21 rfl) (by rw [c22]; decide) (by rw [c22]; decide) (by rw [c22]; rfl) (by decide) (lawc_22 H22 C hX hbl hbA hcs hr ex hk hL kk)
  by_cases c23 : y = 23
  · exact w_tableIn C 762 (dk dcL_law_0 21 rfl) (by rw [c23]; decide) (by rw [c23]; decide) (by rw [c23]; rfl) (by decide) (lawc_23 H23 C hX hbl hbA hcs hr ex hk hL kk)
  by_cases c24 : y = 24
  · exact w_tableIn C 785 (dk dcL_law_0 21 rfl) (by rw [c24]; decide) (by rw [c24]; decide) (by rw [c24]; rfl) (by decide) (lawc_24 H24 C hX hbl hbA hcs hr ex hk hL kk)
  by_cases c25 : y = 25
  · exact w_tableIn C 798 (dk dcL_law_0 21 rfl) (by rw [c25]; decide) (by rw [c25]; decide) (by rw [c25]; rfl) (by decide) (lawc_25 H25 C hX hbl hbA hcs hr ex hk hL kk)
  by_cases c26 : y = 26
  · exact w_tableIn C 831 (dk dcL_law_0 21 rfl) (by rw [c26]; decide) (by rw [c26]; decide) (by rw [c26]; rfl) (by decide) (lawc_26 H26 C hX hbl hbA hcs hr ex hk hL kk)
  by_cases c27 : y = 27
  · exact w_tableIn C 844 (dk dcL_law_0 21 rfl) (by rw [c27]; decide) (by rw [c27]; decide) (by rw [c27]; rfl) (by decide) (lawc_27 H27 C hX hbl hbA hcs hr ex hk hL kk)
  by_cases c28 : y = 28
  · exact w_tableIn C 857 (dk dcL_law_0 21 rfl) (by rw [c28]; decide) (by rw [c28]; decide) (by rw [c28]; rfl) (by decide) (lawc_28 H28 C hX hbl hbA hcs hr ex hk hL kk)
  by_cases c29 : y = 29
  · exact w_tableIn C 900 (dk dcL_law_0 21 rfl) (by rw [c29]; decide) (by rw [c29]; decide) (by rw [c29]; rfl) (by decide) (lawc_29 H29 C hX hbl hbA hcs hr ex hk hL kk)
  by_cases c30 : y = 30
  · exact w_tableIn C 923 (dk dcL_law_0 21 rfl) (by rw [c30]; decide) (by rw [c30]; decide) (by rw [c30]; rfl) (by decide) (lawc_30 H30 C hX hbl hbA hcs hr ex hk hL kk)
  by_cases c31 : y = 31
  · exact w_tableIn C 956 (dk dcL_law_0 21 rfl) (by rw [c31]; decide) (by rw [c31]; decide) (by rw [c31]; rfl) (by decide) (lawc_31 H31 C hX hbl hbA hcs hr ex hk hL kk)
  by_cases c32 : y = 32
  · exact w_tableIn C 979 (dk dcL_law_0 21 rfl) (by rw [c32]; decide) (by rw [c32]; decide) (by rw [c32]; rfl) (by decide) (lawc_32 H32 C hX hbl hbA hcs hr ex hk hL kk)
  by_cases c33 : y = 33
  · exact w_tableIn C 1022 (dk dcL_law_0 21 rfl) (by rw [c33]; decide) (by rw [c33]; decide) (by rw [c33]; rfl) (by decide) (lawc_33 H33 C hX hbl hbA hcs hr ex hk hL kk)
  by_cases c34 : y = 34
  · exact w_tableIn C 1095 (dk dcL_law_0 21 rfl) (by rw [c34]; decide) (by rw [c34]; decide) (by rw [c34]; rfl) (by decide) (lawc_34 H34 C hX hbl hbA hcs hr ex hk hL kk)
  by_cases c35 : y = 35
  · exact w_tableIn C 1129 (dk dcL_law_0 21 rfl) (by rw [c35]; decide) (by rw [c35]; decide) (by rw [c35]; rfl) (by decide) (lawc_35 H35 C hX hbl hbA hcs hr ex hk hL kk)
  have e0 := i32_ne (k := 0) c0 (by decide)
  have e1 := i32_ne (k := 1) c1 (by decide)
  have e2 := i32_ne (k := 2) c2 (by decide)
  have e3 := i32_ne (k := 3) c3 (by decide)
  have e4 := i32_ne (k := 4) c4 (by decide)
  have e5 := i32_ne (k := 5) c5 (by decide)
  have e6 := i32_ne (k := 6) c6 (by decide)
  have e7 := i32_ne (k := 7) c7 (by decide)
  have e8 := i32_ne (k := 8) c8 (by decide)
  have e9 := i32_ne (k := 9) c9 (by decide)
  have e10 := i32_ne (k := 10) c10 (by decide)
  have e11 := i32_ne (k := 11) c11 (by decide)
  have e12 := i32_ne (k := 12) c12 (by decide)
  have e13 := i32_ne (k := 13) c13 (by decide)
  have e14 := i32_ne (k := 14) c14 (by decide)
  have e15 := i32_ne (k := 15) c15 (by decide)
  have e16 := i32_ne (k := 16) c16 (by decide)
  have e17 := i32_ne (k := 17) c17 (by decide)
  have e18 := i32_ne (k := 18) c18 (by decide)
  have e19 := i32_ne (k := 19) c19 (by decide)
  have e20 := i32_ne (k := 20) c20 (by decide)
  have e21 := i32_ne (k := 21) c21 (by decide)
  have e22 := i32_ne (k := 22) c22 (by decide)
  have e23 := i32_ne (k := 23) c23 (by decide)
  have e24 := i32_ne (k := 24) c24 (by decide)
  have e25 := i32_ne (k := 25) c25 (by decide)
  have e26 := i32_ne (k := 26) c26 (by decide)
  have e27 := i32_ne (k := 27) c27 (by decide)
  have e28 := i32_ne (k := 28) c28 (by decide)
  have e29 := i32_ne (k := 29) c29 (by decide)
  have e30 := i32_ne (k := 30) c30 (by decide)
  have e31 := i32_ne (k := 31) c31 (by decide)
  have e32 := i32_ne (k := 32) c32 (by decide)
  have e33 := i32_ne (k := 33) c33 (by decide)
  have e34 := i32_ne (k := 34) c34 (by decide)
  have e35 := i32_ne (k := 35) c35 (by decide)
  exact w_tableOut C 1192 (dk dcL_law_0 21 rfl) (by omega) (by decide) (kk _ _ hr)
set_option maxRecDepth 20000 in
set_option maxHeartbeats 4000000 in
theorem law_loop {Rl : STt → STt → Prop} (HS : LawSteps Rl) {p : Program} {l : Launch} {e : Env} {s : State} {m0 : MethodId} {below : List Frame} {meth : Method} {c : Code} {ce sl : Nat} {E : WEt} {b L : Nat} {xs : Nat → Int32} (C : CX p s m0 #[Value.ref b] meth c cL_law 4 RL ret E) (hA : ∀ q : Nat, E.2.2.2.1 q → s.heap.size ≤ q) (hrt : meth.sig.returnType = ret) (hX : va_X b L xs s s.heap) (hbl : b < s.heap.size) (hbA : ¬ E.2.2.2.1 b) (hcs : ce ≤ 600000 ∧ sl ≤ 7302250) (hL : L ≤ 3072) : ∀ (n k : Nat) (x3 : Int32) (g m : STt), L + 6 ≤ n + k → k ≤ L → x3 = nI k → Rl g m → VW p l e room_1 s m0 #[Value.ref b] below meth c (lw_Z below #[Value.ref b] s) ce sl E 4 (cellsC E g ++ cellsM E m) [(0, .ref b), (1, .ref (aE E 0 0)), (2, .ref (aE E 28 0)), (3, .int x3)] [] 18 := by
  intro n
  induction n with
  | zero => intro k x3 g m h1 h2; omega
  | succ n ih =>
    intro k x3 g m h1 h2 ex hr
    refine w_iload_n C 3 (dk dcL_law_0 10 rfl) rfl rfl ?_
    refine w_aload_n C 0 (dk dcL_law_0 11 rfl) rfl rfl ?_
    refine w_slen C hX hbl hbA (dk dcL_law_0 12 rfl) ?_
    refine w_bipush C 6 (dk dcL_law_0 13 rfl) kb_6 ?_
    refine w_isub C (dk dcL_law_0 14 rfl) ?_
    have hsub : (Int32.ofNat L - 6).toInt = (L : Int) - 6 := pk_sub_toInt (a := L) (b := 6) (by omega) (by omega)
    have hx3 : x3.toInt = k := by rw [ex]; exact nI_toInt (by omega)
    refine w_icmp_gt C 1198 (dk dcL_law_0 15 rfl) (by decide) (fun c1 => ?_) (fun c1 => ?_)
    · refine w_iconst C 1 (dk dcL_law_16 34 rfl) ki_1 ?_
      intro H locs ls hP hD hS hl
      refine va_forget (fun q hq => hA _ (hS.2.2 q hq)) ?_
      refine W.widen (k := 600000) (n := 7302250) hcs.1 hcs.2 ?_
      exact lw_ret C.1 C.2.1 hrt C.2.2.2.2.2.2.2.2 (dk dcL_law_16 35 rfl)
    · have hk : k + 6 ≤ L := by
        have c2 : ¬ (Int32.ofNat L - 6).toInt < x3.toInt := fun h => c1 (Int32.lt_iff_toInt_lt.mpr h)
        omega
      refine w_aload_n C 0 (dk dcL_law_0 16 rfl) rfl rfl ?_
      refine w_iload_n C 3 (dk dcL_law_0 17 rfl) rfl rfl ?_
      refine w_sld C hX hbl hbA (by rw [ex]; exact s_in0 hk hL) (dk dcL_law_0 18 rfl) ?_
      refine w_bipush C 63 (dk dcL_law_0 19 rfl) kb_63 ?_
      refine w_iand C (dk dcL_law_0 20 rfl) ?_
      refine law_sw HS C hX hbl hbA hcs hr ex hk hL (fun g m hr => ?_) _
      refine w_iinc C (lv' := [(3, .int (x3 + 6)), (0, .ref b), (1, .ref (aE E 0 0)), (2, .ref (aE E 28 0))]) (x3 + 6) 3 (dk dcL_law_16 32 rfl) rfl (congrArg (fun z => x3 + z) ki_6) (by decide) rfl ?_
      refine w_goto C 18 (dk dcL_law_16 33 rfl) (by decide) ?_
      refine vw_sub [1, 2, 3, 0] rfl (ih (k + 6) (x3 + 6) g m (by omega) (by omega) ?_ hr)
      rw [ex]
      exact nI_add k 6
