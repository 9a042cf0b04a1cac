/-! PURE: the start, and every call: the law's walk is done -/
theorem rel_0 : RelE g0 m0 0 0 := by
  have eD : ∀ k : Fin 15, g0.2.1 22 0 k.val = m0.2.1 57 0 k.val ∧ 0 ≤ (g0.2.1 22 0 k.val).toInt ∧ (g0.2.1 22 0 k.val).toInt ≤ mostN 0 9999 k.val := by decide +kernel
  have eT : ∀ t : Fin 6, g0.1 29 t.val = -1 ∧ m0.2.1 74 0 t.val = -1 ∧ g0.1 30 t.val = 0 := by decide +kernel
  have eW : ∀ k : Fin 31, m0.2.1 68 0 k.val = wordsF k.val := by decide +kernel
  refine ⟨⟨by omega, rfl, rfl, fun k hk => by omega⟩, ⟨fun k hk => (eD ⟨k, hk⟩).1, fun k hk => (eD ⟨k, hk⟩).2⟩, ⟨0, by omega, rfl, rfl, fun k hk => by omega⟩, ⟨0, by omega, rfl, rfl, fun k hk => by omega⟩, ⟨0, by omega, rfl, rfl, fun k hk => by omega⟩, ⟨0, by omega, rfl, rfl, fun k hk => by omega⟩, fun t ht => ?_, ⟨rfl, by decide, by decide⟩, ⟨0, by omega, rfl, rfl, rfl, fun k hk => by omega⟩, ⟨rfl, rfl, fun k hk => eW ⟨k, hk⟩⟩, ⟨rfl, Or.inl rfl⟩, ⟨by omega, rfl, rfl, rfl, Or.inl ⟨rfl, rfl⟩, ?_, fun j hj => by omega⟩⟩
  · obtain ⟨t1, t2, t3⟩ := eT ⟨t, ht⟩
    have t1 : g0.1 29 t = -1 := t1
    refine ⟨t1.trans t2.symm, by rw [t1]; exact ⟨by decide, by decide⟩, fun _ => t3, fun c => absurd t1 c⟩
  · exact lwC_rows (xs := []) (e := 0) rfl (by decide) rfl rfl (by omega)
def RelA (g m : STt) : Prop := ∃ P N, RelE g m P N
theorem qs_0 : Step0 RelA := fun g m ⟨P, N, h⟩ x y z => by obtain ⟨g', m', r, P', e1, e2, hr, -⟩ := q_place h x y z; exact ⟨g', m', r, e1, e2, P', N, hr⟩
theorem qs_1 : Step1 RelA := fun g m ⟨P, N, h⟩ x y => by obtain ⟨r, e1, e2⟩ := q_of h x y; exact ⟨r, e1, e2, P, N, h⟩
theorem qs_2 : Step2 RelA := fun g m ⟨P, N, h⟩ x y => by obtain ⟨g', m', r, e1, e2, hr⟩ := q_set h x y; exact ⟨g', m', r, e1, e2, P, N, hr⟩
theorem qs_3 : Step3 RelA := fun g m ⟨P, N, h⟩ x => by obtain ⟨r, e1, e2⟩ := q_now h x; exact ⟨r, e1, e2, P, N, h⟩
theorem qs_4 : Step4 RelA := fun g m ⟨P, N, h⟩ x => by obtain ⟨g', m', r, e1, e2, hr⟩ := q_feed h x; exact ⟨g', m', r, e1, e2, P, N, hr⟩
theorem qs_5 : Step5 RelA := fun g m ⟨P, N, h⟩ => by obtain ⟨g', m', r, N', e1, e2, hr⟩ := q_law h; exact ⟨g', m', r, e1, e2, P, N', hr⟩
theorem qs_6 : Step6 RelA := fun g m ⟨P, N, h⟩ x => by obtain ⟨g', m', r, e1, e2, hr⟩ := q_told h x; exact ⟨g', m', r, e1, e2, P, N, hr⟩
theorem qs_7 : Step7 RelA := fun g m ⟨P, N, h⟩ x => by obtain ⟨g', m', r, e1, e2, hr⟩ := q_drive h x; exact ⟨g', m', r, e1, e2, P, N, hr⟩
theorem qs_8 : Step8 RelA := fun g m ⟨P, N, h⟩ x => by obtain ⟨g', m', r, e1, e2, hr⟩ := q_would h x; exact ⟨g', m', r, e1, e2, P, N, hr⟩
theorem qs_9 : Step9 RelA := fun g m ⟨P, N, h⟩ x => by obtain ⟨g', m', r, e1, e2, hr⟩ := q_go h x; exact ⟨g', m', r, e1, e2, P, N, hr⟩
theorem qs_10 : Step10 RelA := fun g m ⟨P, N, h⟩ x => by obtain ⟨g', m', r, e1, e2, hr⟩ := q_row h x; exact ⟨g', m', r, e1, e2, P, N, hr⟩
theorem qs_11 : Step11 RelA := fun g m ⟨P, N, h⟩ x y => by obtain ⟨g', m', r, e1, e2, hr⟩ := q_hand h x y; exact ⟨g', m', r, e1, e2, P, N, hr⟩
theorem qs_12 : Step12 RelA := fun g m ⟨P, N, h⟩ x y => by obtain ⟨g', m', r, e1, e2, hr⟩ := q_soonest h x y; exact ⟨g', m', r, e1, e2, P, N, hr⟩
theorem qs_13 : Step13 RelA := fun g m ⟨P, N, h⟩ x y => by obtain ⟨g', m', r, e1, e2, hr⟩ := q_gentlest h x y; exact ⟨g', m', r, e1, e2, P, N, hr⟩
theorem qs_14 : Step14 RelA := fun g m ⟨P, N, h⟩ => by obtain ⟨g', m', r, e1, e2, hr⟩ := q_why h; exact ⟨g', m', r, e1, e2, P, N, hr⟩
theorem qs_15 : Step15 RelA := fun g m ⟨P, N, h⟩ => by obtain ⟨g', m', r, e1, e2, hr⟩ := q_waits h; exact ⟨g', m', r, e1, e2, P, N, hr⟩
theorem qs_16 : Step16 RelA := fun g m ⟨P, N, h⟩ => by obtain ⟨g', m', r, e1, e2, hr⟩ := q_round h; exact ⟨g', m', r, e1, e2, P, N, hr⟩
theorem qs_17 : Step17 RelA := fun g m ⟨P, N, h⟩ => by obtain ⟨g', m', r, e1, e2, hr⟩ := q_shiftLoad h; exact ⟨g', m', r, e1, e2, P, N, hr⟩
theorem qs_18 : Step18 RelA := fun g m ⟨P, N, h⟩ x => by obtain ⟨g', m', r, e1, e2, hr⟩ := q_wander h x; exact ⟨g', m', r, e1, e2, P, N, hr⟩
theorem qs_19 : Step19 RelA := fun g m ⟨P, N, h⟩ x y => by obtain ⟨g', m', r, e1, e2, hr⟩ := q_sure h x y; exact ⟨g', m', r, e1, e2, P, N, hr⟩
theorem qs_20 : Step20 RelA := fun g m ⟨P, N, h⟩ x y => by obtain ⟨g', m', r, e1, e2, hr⟩ := q_days h x y; exact ⟨g', m', r, e1, e2, P, N, hr⟩
theorem qs_21 : Step21 RelA := fun g m ⟨P, N, h⟩ x => by obtain ⟨g', m', r, e1, e2, hr⟩ := q_beast h x; exact ⟨g', m', r, e1, e2, P, N, hr⟩
theorem qs_22 : Step22 RelA := fun g m ⟨P, N, h⟩ x => by obtain ⟨g', m', r, e1, e2, hr⟩ := q_string h x; exact ⟨g', m', r, e1, e2, P, N, hr⟩
theorem qs_23 : Step23 RelA := fun g m ⟨P, N, h⟩ x => by obtain ⟨g', m', r, e1, e2, hr⟩ := q_film h x; exact ⟨g', m', r, e1, e2, P, N, hr⟩
theorem qs_24 : Step24 RelA := fun g m ⟨P, N, h⟩ => by obtain ⟨g', m', r, e1, e2, hr⟩ := q_off h; exact ⟨g', m', r, e1, e2, P, N, hr⟩
theorem qs_25 : Step25 RelA := fun g m ⟨P, N, h⟩ x y => by obtain ⟨g', m', r, e1, e2, hr⟩ := q_judge h x y; exact ⟨g', m', r, e1, e2, P, N, hr⟩
theorem qs_26 : Step26 RelA := fun g m ⟨P, N, h⟩ => by obtain ⟨g', m', r, e1, e2, hr⟩ := q_image h; exact ⟨g', m', r, e1, e2, P, N, hr⟩
theorem qs_27 : Step27 RelA := fun g m ⟨P, N, h⟩ => by obtain ⟨g', m', r, e1, e2, hr⟩ := q_undo h; exact ⟨g', m', r, e1, e2, P, N, hr⟩
theorem qs_28 : Step28 RelA := fun g m ⟨P, N, h⟩ x y z => by obtain ⟨g', m', r, e1, e2, hr⟩ := q_part h x y z; exact ⟨g', m', r, e1, e2, P, N, hr⟩
theorem qs_29 : Step29 RelA := fun g m ⟨P, N, h⟩ x => by obtain ⟨r, e1, e2⟩ := q_trace h x; exact ⟨r, e1, e2, P, N, h⟩
theorem qs_30 : Step30 RelA := fun g m ⟨P, N, h⟩ x y => by obtain ⟨r, e1, e2⟩ := q_taken h x y; exact ⟨r, e1, e2, P, N, h⟩
theorem qs_31 : Step31 RelA := fun g m ⟨P, N, h⟩ x => by obtain ⟨r, e1, e2⟩ := q_count h x; exact ⟨r, e1, e2, P, N, h⟩
theorem qs_32 : Step32 RelA := fun g m ⟨P, N, h⟩ x y z => by obtain ⟨g', m', r, e1, e2, hr⟩ := q_tape h x y z; exact ⟨g', m', r, e1, e2, P, N, hr⟩
theorem qs_33 : Step33 RelA := fun g m ⟨P, N, h⟩ x y z => by obtain ⟨g', m', r, e1, e2, hr⟩ := q_item h x y z; exact ⟨g', m', r, e1, e2, P, N, hr⟩
theorem qs_34 : Step34 RelA := fun g m ⟨P, N, h⟩ x y => by obtain ⟨r, e1, e2⟩ := q_read h x y; exact ⟨r, e1, e2, P, N, h⟩
theorem qs_35 : Step35 RelA := fun g m ⟨P, N, h⟩ x y z u v => by obtain ⟨g', m', r, e1, e2, hr⟩ := q_shift h x y z u v; exact ⟨g', m', r, e1, e2, P, N, hr⟩
theorem qs_all : LawSteps RelA := ⟨qs_0, qs_1, qs_2, qs_3, qs_4, qs_5, qs_6, qs_7, qs_8, qs_9, qs_10, qs_11, qs_12, qs_13, qs_14, qs_15, qs_16, qs_17, qs_18, qs_19, qs_20, qs_21, qs_22, qs_23, qs_24, qs_25, qs_26, qs_27, qs_28, qs_29, qs_30, qs_31, qs_32, qs_33, qs_34, qs_35⟩
/-- YOUR PART: from the entry, for every script of at most 3072 ints, the law comes to its end with true -/
theorem whole_start {p : Program} {e : Env} {s : State} {m : MethodId} {below : List Frame} {meth : Method} {c : Code} (l : Launch) (_hflags : l.flags = flags0) {b L : Nat} {xs : Nat → Int32} (hL : L ≤ 3072) (C0 : lw_At p s m meth c b L xs) : W p l e room_1 s m #[Value.ref b] below meth c s.heap [] 0 0 (lw_Z below #[Value.ref b] s) (entryFrame m ([Value.ref b] : List Value).toArray 4) := start_of qs_all ⟨0, 0, rel_0⟩ l hL C0
