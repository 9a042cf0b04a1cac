def cpB (sp dp n : Int32) (n0 n1 : Nat) : Bool := decide (¬ sp < 0) && decide (¬ dp < 0) && decide (¬ n < 0) && decide (sp.toNatClampNeg + n.toNatClampNeg ≤ n0) && decide (dp.toNatClampNeg + n.toNatClampNeg ≤ n1)
theorem cpB_1 {sp dp n : Int32} {n0 n1 : Nat} (h : cpB sp dp n n0 n1 = true) : ¬ sp < 0 := by simp only [cpB, Bool.and_eq_true, decide_eq_true_eq] at h; exact h.1.1.1.1
theorem cpB_2 {sp dp n : Int32} {n0 n1 : Nat} (h : cpB sp dp n n0 n1 = true) : ¬ dp < 0 := by simp only [cpB, Bool.and_eq_true, decide_eq_true_eq] at h; exact h.1.1.1.2
theorem cpB_3 {sp dp n : Int32} {n0 n1 : Nat} (h : cpB sp dp n n0 n1 = true) : ¬ n < 0 := by simp only [cpB, Bool.and_eq_true, decide_eq_true_eq] at h; exact h.1.1.2
theorem cpB_4 {sp dp n : Int32} {n0 n1 : Nat} (h : cpB sp dp n n0 n1 = true) : sp.toNatClampNeg + n.toNatClampNeg ≤ n0 := by simp only [cpB, Bool.and_eq_true, decide_eq_true_eq] at h; exact h.1.2
theorem cpB_5 {sp dp n : Int32} {n0 n1 : Nat} (h : cpB sp dp n n0 n1 = true) : dp.toNatClampNeg + n.toNatClampNeg ≤ n1 := by simp only [cpB, Bool.and_eq_true, decide_eq_true_eq] at h; exact h.2
theorem i32_ne {x c : Int32} {k : Int} (h : ¬ x = c) (hc : c.toInt = k) : ¬ x.toInt = k := fun e => h (Int32.toInt_inj.mp (e.trans hc.symm))
theorem nw_boolean {x : Int32} (h : vp_nar .boolean x = x) : narrow .boolean (.int x) = .int x := by
  show Value.int (vp_nar .boolean x) = _
  rw [h]
theorem nw_char {x : Int32} (h : vp_nar .char x = x) : narrow .char (.int x) = .int x := by
  show Value.int (vp_nar .char x) = _
  rw [h]
theorem nw_byte {x : Int32} (h : vp_nar .byte x = x) : narrow .byte (.int x) = .int x := by
  show Value.int (vp_nar .byte x) = _
  rw [h]
section SR
variable {p : Program} {l : Launch} {e : Env} {R : Room} {s : State} {m : MethodId} {args : Array Value} {below : List Frame} {meth : Method} {c : Code} {Q : State → Prop} {E : WEt} {cc : ByteArray} {nL : Nat} {own : String} {rt : Option FieldType} {ws ws' : va_W} {lv : List (Nat × Value)} {rest stk : List Value} {pc : Nat}
theorem v_strval (C : CX p s m args meth c cc nL own rt E) {k index : Nat} (hk : k < 9) (hw : Cond.fieldLink own index "java/lang/String" "value" "[B" ∈ gw_tbl) (hd : decode cc pc = .ok (.getfield index, 3)) (kk : VJ p l e R s m args below meth c Q E nL ws lv (.ref (E.2.2.2.2 (20 + k)) :: rest) (pc + 3)) : VJ p l e R s m args below meth c Q E nL ws lv (.ref (E.2.2.2.2 (10 + k)) :: rest) pc := fun H locs ls hP hD hS hl => vk_getf C.1 C.2.1 ((C.2.2.2.2.2.2.1.2.2.2.2.1.1 k hk).2.2.1) hS C.2.2.2.1 (C.2.2.2.2.1 _ hw) (fun x hx => hx) hd (kk H locs ls hP hD hS hl)
theorem v_strcod (C : CX p s m args meth c cc nL own rt E) {k index : Nat} (hk : k < 9) (hw : Cond.fieldLink own index "java/lang/String" "coder" "B" ∈ gw_tbl) (hd : decode cc pc = .ok (.getfield index, 3)) (kk : VJ p l e R s m args below meth c Q E nL ws lv (.int 0 :: rest) (pc + 3)) : VJ p l e R s m args below meth c Q E nL ws lv (.ref (E.2.2.2.2 (10 + k)) :: rest) pc := fun H locs ls hP hD hS hl => vk_getf C.1 C.2.1 ((C.2.2.2.2.2.2.1.2.2.2.2.1.1 k hk).2.1) hS C.2.2.2.1 (C.2.2.2.2.1 _ hw) (fun x hx => hx) hd (kk H locs ls hP hD hS hl)
theorem v_tb (C : CX p s m args meth c cc nL own rt E) {t N : Nat} {f : Nat → Int32} (hT : va_T .byte t N (fun j => .int (f j)) E.2.2.2.1 s s.heap) {i : Int32} (hin : vp_in i N) (hd : decode cc pc = .ok (.baload, 1)) (kk : VJ p l e R s m args below meth c Q E nL ws lv (.int (f i.toNatClampNeg) :: rest) (pc + 1)) : VJ p l e R s m args below meth c Q E nL ws lv (.int i :: .ref t :: rest) pc := fun H locs ls hP hD hS hl => va_tb C.1 C.2.1 hT hS hin rfl hd (kk H locs ls hP hD hS hl)
theorem v_callV1 (C : CX p s m args meth c cc nL own rt E) {L L' : Nat} {y : MethodName} {cc' : ByteArray} {maxL index b n : Nat} {rt' : Option FieldType} {As : List Value} {v : Value} (hM : MT l E y cc' maxL rt' L' (.ref b :: As) ws ws' (some v)) (hm : wmV y cc' maxL rt' n) (hw : Cond.methodLink own index y ∈ gw_tbl) (hL : L' + 1 ≤ L) (hmx : maxL ≤ 20) (hn : As.length = n) (q0 : Nat) {ci N : Nat} {fs : List Value} {T : u_T} (he : ws[q0]? = some (b, .inr (ci, fs))) (hc : vwCl[ci]? = some (y.cls, T, N)) (hst : stk = As.reverse ++ .ref b :: rest) (hcat : (rest.map fun v => v.category).sum ≤ 8) (hd : decode cc pc = .ok (.invokevirtual index, 3)) (kk : VJ p l e (rmL L) s m args below meth c Q E nL ws' lv (v :: rest) (pc + 3)) : VJ p l e (rmL L) s m args below meth c Q E nL ws lv stk pc := v_callV C hM hm hw hL hmx hn q0 he hc hst hcat hd kk
theorem v_callV0 (C : CX p s m args meth c cc nL own rt E) {L L' : Nat} {y : MethodName} {cc' : ByteArray} {maxL index b n : Nat} {rt' : Option FieldType} {As : List Value} (hM : MT l E y cc' maxL rt' L' (.ref b :: As) ws ws' none) (hm : wmV y cc' maxL rt' n) (hw : Cond.methodLink own index y ∈ gw_tbl) (hL : L' + 1 ≤ L) (hmx : maxL ≤ 20) (hn : As.length = n) (q0 : Nat) {ci N : Nat} {fs : List Value} {T : u_T} (he : ws[q0]? = some (b, .inr (ci, fs))) (hc : vwCl[ci]? = some (y.cls, T, N)) (hst : stk = As.reverse ++ .ref b :: rest) (hcat : (rest.map fun v => v.category).sum ≤ 8) (hd : decode cc pc = .ok (.invokevirtual index, 3)) (kk : VJ p l e (rmL L) s m args below meth c Q E nL ws' lv rest (pc + 3)) : VJ p l e (rmL L) s m args below meth c Q E nL ws lv stk pc := v_callV C hM hm hw hL hmx hn q0 he hc hst hcat hd kk
theorem v_callS1 (C : CX p s m args meth c cc nL own rt E) {L L' : Nat} {y : MethodName} {cc' : ByteArray} {maxL index n : Nat} {rt' : Option FieldType} {As : List Value} {v : Value} (hM : MT l E y cc' maxL rt' L' As ws ws' (some v)) (hm : wmS y cc' maxL rt' n) (hw : Cond.methodLink own index y ∈ gw_tbl) (hL : L' + 1 ≤ L) (hmx : maxL ≤ 20) (hn : As.length = n) (hst : stk = As.reverse ++ rest) (hcat : (rest.map fun v => v.category).sum ≤ 8) (hd : decode cc pc = .ok (.invokestatic index, 3)) (kk : VJ p l e (rmL L) s m args below meth c Q E nL ws' lv (v :: rest) (pc + 3)) : VJ p l e (rmL L) s m args below meth c Q E nL ws lv stk pc := v_callS C hM hm hw hL hmx hn hst hcat hd kk
theorem v_callS0 (C : CX p s m args meth c cc nL own rt E) {L L' : Nat} {y : MethodName} {cc' : ByteArray} {maxL index n : Nat} {rt' : Option FieldType} {As : List Value} (hM : MT l E y cc' maxL rt' L' As ws ws' none) (hm : wmS y cc' maxL rt' n) (hw : Cond.methodLink own index y ∈ gw_tbl) (hL : L' + 1 ≤ L) (hmx : maxL ≤ 20) (hn : As.length = n) (hst : stk = As.reverse ++ rest) (hcat : (rest.map fun v => v.category).sum ≤ 8) (hd : decode cc pc = .ok (.invokestatic index, 3)) (kk : VJ p l e (rmL L) s m args below meth c Q E nL ws' lv rest (pc + 3)) : VJ p l e (rmL L) s m args below meth c Q E nL ws lv stk pc := v_callS C hM hm hw hL hmx hn hst hcat hd kk
theorem v_callVK1 (C : CX p s m args meth c cc nL own rt E) {L L' : Nat} {y : MethodName} {cc' : ByteArray} {maxL index n k : Nat} {rt' : Option FieldType} {As : List Value} {v : Value} (hM : MT l E y cc' maxL rt' L' (.ref (E.2.2.2.2 (10 + k)) :: As) ws ws' (some v)) (hm : wmV y cc' maxL rt' n) (hw : Cond.methodLink own index y ∈ gw_tbl) (hL : L' + 1 ≤ L) (hmx : maxL ≤ 20) (hn : As.length = n) (hk : k < 9) (hyc : y.cls = "java/lang/String") (hst : stk = As.reverse ++ .ref (E.2.2.2.2 (10 + k)) :: rest) (hcat : (rest.map fun v => v.category).sum ≤ 8) (hd : decode cc pc = .ok (.invokevirtual index, 3)) (kk : VJ p l e (rmL L) s m args below meth c Q E nL ws' lv (v :: rest) (pc + 3)) : VJ p l e (rmL L) s m args below meth c Q E nL ws lv stk pc := by
  refine vj_run (v := some v) (rest := rest) (fun H locs ls hP hD hS hl => ?_) kk
  obtain ⟨h1, h2, h3, h4, h5, h6, h7⟩ := hm
  have ht := C.2.2.2.2.1
  have cw : CallW (rmL L) s args own y.cls index y cc' maxL rt' (.code y cc' maxL rt' :: gw_tbl) (rmL L') 0 0 n := ⟨callB_of n ht (goodIn_code h1) rfl rfl rfl (ht _ h4) (ht _ hw) ⟨h5, h6, h7⟩ ⟨hL, by show 8 + (maxL + 11) + 40 * L' ≤ 40 * L; omega⟩, ht _ h2, ht _ h3⟩
  refine ⟨_, va_runV (As := As) (rest := rest) ⟨C.1, C.2.1, C.2.2.1, C.2.2.2.1, ht⟩ hM cw ⟨pcB, ?_, fun U hU hW => pcU C hP hD hS U hU hW⟩ rfl hn hl.1 hst (lv_room hcat) hd ⟨Nat.le_refl _, Nat.le_refl _⟩⟩
  rw [hyc]
  exact vk_recv (adK := fun k => E.2.2.2.2 (10 + k)) (i := k) C.2.2.2.2.2.2.1.2.2.2.2.1 hk hS
theorem v_astoreN (C : CX p s m args meth c cc nL own rt E) {lv' : List (Nat × Value)} {i : Nat} (hd : decode cc pc = .ok (.astore i, 2)) (hn : i < nL) (hlv : (i, Value.null) :: lv.filter (fun q => !(q.1 == i) && !(q.1 + 1 == i && q.2.category == 2)) = lv') (k : VJ p l e R s m args below meth c Q E nL ws lv' rest (pc + 2)) : VJ p l e R s m args below meth c Q E nL ws lv (.null :: rest) pc := fun H locs ls hP hD hS hl => lv_astoreN C.1 C.2.1 hd hl hn hlv (fun ls1 hl1 => k H locs ls1 hP hD hS hl1)
theorem v_aloadN (C : CX p s m args meth c cc nL own rt E) {i : Nat} (q : Nat) (hd : decode cc pc = .ok (.aload i, 2)) (hq : lv[q]? = some (i, .null)) (k : VJ p l e R s m args below meth c Q E nL ws lv (.null :: rest) (pc + 2)) : VJ p l e R s m args below meth c Q E nL ws lv rest pc := fun H locs ls hP hD hS hl => lv_aloadN C.1 C.2.1 hd (lv_at hl q hq) (k H locs ls hP hD hS hl)
end SR
theorem kb_m40 : (Int8.ofInt (-40)).toInt32 = (-40) := by decide
theorem kb_m39 : (Int8.ofInt (-39)).toInt32 = (-39) := by decide
theorem kb_m20 : (Int8.ofInt (-20)).toInt32 = (-20) := by decide
theorem kb_m15 : (Int8.ofInt (-15)).toInt32 = (-15) := by decide
theorem kb_m14 : (Int8.ofInt (-14)).toInt32 = (-14) := by decide
theorem kb_m13 : (Int8.ofInt (-13)).toInt32 = (-13) := by decide
theorem kb_m12 : (Int8.ofInt (-12)).toInt32 = (-12) := by decide
theorem kb_m11 : (Int8.ofInt (-11)).toInt32 = (-11) := by decide
theorem kb_m10 : (Int8.ofInt (-10)).toInt32 = (-10) := by decide
theorem kb_m5 : (Int8.ofInt (-5)).toInt32 = (-5) := by decide
theorem kb_m4 : (Int8.ofInt (-4)).toInt32 = (-4) := by decide
theorem kb_m3 : (Int8.ofInt (-3)).toInt32 = (-3) := by decide
theorem kb_m2 : (Int8.ofInt (-2)).toInt32 = (-2) := by decide
theorem kb_6 : (Int8.ofInt (6)).toInt32 = 6 := by decide
theorem kb_7 : (Int8.ofInt (7)).toInt32 = 7 := by decide
theorem kb_8 : (Int8.ofInt (8)).toInt32 = 8 := by decide
theorem kb_9 : (Int8.ofInt (9)).toInt32 = 9 := by decide
theorem kb_10 : (Int8.ofInt (10)).toInt32 = 10 := by decide
theorem kb_11 : (Int8.ofInt (11)).toInt32 = 11 := by decide
theorem kb_12 : (Int8.ofInt (12)).toInt32 = 12 := by decide
theorem kb_13 : (Int8.ofInt (13)).toInt32 = 13 := by decide
theorem kb_14 : (Int8.ofInt (14)).toInt32 = 14 := by decide
theorem kb_15 : (Int8.ofInt (15)).toInt32 = 15 := by decide
theorem kb_20 : (Int8.ofInt (20)).toInt32 = 20 := by decide
theorem kb_30 : (Int8.ofInt (30)).toInt32 = 30 := by decide
theorem kb_32 : (Int8.ofInt (32)).toInt32 = 32 := by decide
theorem kb_33 : (Int8.ofInt (33)).toInt32 = 33 := by decide
theorem kb_38 : (Int8.ofInt (38)).toInt32 = 38 := by decide
theorem kb_40 : (Int8.ofInt (40)).toInt32 = 40 := by decide
theorem kb_41 : (Int8.ofInt (41)).toInt32 = 41 := by decide
theorem kb_48 : (Int8.ofInt (48)).toInt32 = 48 := by decide
theorem kb_50 : (Int8.ofInt (50)).toInt32 = 50 := by decide
theorem kb_51 : (Int8.ofInt (51)).toInt32 = 51 := by decide
theorem kb_57 : (Int8.ofInt (57)).toInt32 = 57 := by decide
theorem kb_59 : (Int8.ofInt (59)).toInt32 = 59 := by decide
theorem kb_60 : (Int8.ofInt (60)).toInt32 = 60 := by decide
theorem kb_61 : (Int8.ofInt (61)).toInt32 = 61 := by decide
theorem kb_62 : (Int8.ofInt (62)).toInt32 = 62 := by decide
theorem kb_70 : (Int8.ofInt (70)).toInt32 = 70 := by decide
theorem kb_71 : (Int8.ofInt (71)).toInt32 = 71 := by decide
theorem kb_97 : (Int8.ofInt (97)).toInt32 = 97 := by decide
theorem kb_99 : (Int8.ofInt (99)).toInt32 = 99 := by decide
theorem kb_100 : (Int8.ofInt (100)).toInt32 = 100 := by decide
theorem kb_102 : (Int8.ofInt (102)).toInt32 = 102 := by decide
theorem kb_104 : (Int8.ofInt (104)).toInt32 = 104 := by decide
theorem kb_107 : (Int8.ofInt (107)).toInt32 = 107 := by decide
theorem kb_108 : (Int8.ofInt (108)).toInt32 = 108 := by decide
theorem kb_112 : (Int8.ofInt (112)).toInt32 = 112 := by decide
theorem kb_115 : (Int8.ofInt (115)).toInt32 = 115 := by decide
theorem kb_116 : (Int8.ofInt (116)).toInt32 = 116 := by decide
theorem kb_119 : (Int8.ofInt (119)).toInt32 = 119 := by decide
theorem kb_124 : (Int8.ofInt (124)).toInt32 = 124 := by decide
theorem kb_127 : (Int8.ofInt (127)).toInt32 = 127 := by decide
theorem ki_m20 : Int32.ofInt (-20) = (-20) := by decide
theorem ki_m2 : Int32.ofInt (-2) = (-2) := by decide
theorem ki_m1 : Int32.ofInt (-1) = (-1) := by decide
theorem ki_0 : Int32.ofInt (0) = 0 := by decide
theorem ki_1 : Int32.ofInt (1) = 1 := by decide
theorem ki_2 : Int32.ofInt (2) = 2 := by decide
theorem ki_3 : Int32.ofInt (3) = 3 := by decide
theorem ki_4 : Int32.ofInt (4) = 4 := by decide
theorem ki_5 : Int32.ofInt (5) = 5 := by decide
theorem ks_255 : (Int16.ofInt (255)).toInt32 = 255 := by decide
theorem ks_1000 : (Int16.ofInt (1000)).toInt32 = 1000 := by decide
theorem ks_9999 : (Int16.ofInt (9999)).toInt32 = 9999 := by decide
