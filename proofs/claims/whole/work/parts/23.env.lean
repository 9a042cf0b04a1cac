theorem nq {b : Nat} {s : State} (h : (Jvm.Cond.and given_1 narrow_1).before #[Value.ref b] s = true) (i : Nat) {c : Cond} (hi : (flatC (Jvm.Cond.and given_1 narrow_1))[i]? = some c) : c.before #[Value.ref b] s = true := flat_of_before _ h _ (List.mem_of_getElem? hi)
set_option maxRecDepth 20000 in
set_option maxHeartbeats 4000000 in
theorem sf_MOST {b : Nat} {s : State} (h : (Jvm.Cond.and given_1 narrow_1).before #[Value.ref b] s = true) (hts : ∀ w ∈ lw_tbl, w.before #[Value.ref b] s = true) {A : Nat → Prop} (hA : ∀ a : Nat, a < s.heap.size → ¬ A a) : ∃ t : Nat, va_Z "DonkeyBridge$Donkey" "MOST" "[I" (.ref t) A s s.heap ∧ va_T .int t 15 (fun j => .int (mostF j)) A s s.heap := by
  have hel : ∀ j : Nat, j < 15 → (Term.elem (.static "DonkeyBridge$Donkey" "MOST" "[I") (.int (Int32.ofNat j))).eval #[Value.ref b] s none [] s = some (.int (mostF j)) := by
    intro j hj
    rcases (show j = 0 ∨ j = 1 ∨ j = 2 ∨ j = 3 ∨ j = 4 ∨ j = 5 ∨ j = 6 ∨ j = 7 ∨ j = 8 ∨ j = 9 ∨ j = 10 ∨ j = 11 ∨ j = 12 ∨ j = 13 ∨ j = 14 by omega) with rfl | rfl | rfl | rfl | rfl | rfl | rfl | rfl | rfl | rfl | rfl | rfl | rfl | rfl | rfl
    · exact va_eqt (nq h 7 rfl)
    · exact va_eqt (nq h 8 rfl)
    · exact va_eqt (nq h 9 rfl)
    · exact va_eqt (nq h 10 rfl)
    · exact va_eqt (nq h 11 rfl)
    · exact va_eqt (nq h 12 rfl)
    · exact va_eqt (nq h 13 rfl)
    · exact va_eqt (nq h 14 rfl)
    · exact va_eqt (nq h 15 rfl)
    · exact va_eqt (nq h 16 rfl)
    · exact va_eqt (nq h 17 rfl)
    · exact va_eqt (nq h 18 rfl)
    · exact va_eqt (nq h 19 rfl)
    · exact va_eqt (nq h 20 rfl)
    · exact va_eqt (nq h 21 rfl)
  obtain ⟨t, ht, hT⟩ := va_Tof (tm := .static "DonkeyBridge$Donkey" "MOST" "[I") (ty := .int) (N := 15) (f := fun j => .int (mostF j)) (A := A) (by decide) (nq h 5 rfl) (va_eqt (nq h 6 rfl)) hel hA
  exact ⟨t, va_Zref (hts _ (wt_1 (List.mem_of_getElem? (i := 136) rfl))) (hts _ (wt_1 (List.mem_of_getElem? (i := 9) rfl))) ht hA, hT⟩
set_option maxRecDepth 20000 in
set_option maxHeartbeats 4000000 in
theorem sf_ABOVE {b : Nat} {s : State} (h : (Jvm.Cond.and given_1 narrow_1).before #[Value.ref b] s = true) (hts : ∀ w ∈ lw_tbl, w.before #[Value.ref b] s = true) {A : Nat → Prop} (hA : ∀ a : Nat, a < s.heap.size → ¬ A a) : ∃ t : Nat, va_Z "DonkeyBridge$Road" "ABOVE" "[I" (.ref t) A s s.heap ∧ va_T .int t 7 (fun j => .int (aboveF j)) A s s.heap := by
  have hel : ∀ j : Nat, j < 7 → (Term.elem (.static "DonkeyBridge$Road" "ABOVE" "[I") (.int (Int32.ofNat j))).eval #[Value.ref b] s none [] s = some (.int (aboveF j)) := by
    intro j hj
    rcases (show j = 0 ∨ j = 1 ∨ j = 2 ∨ j = 3 ∨ j = 4 ∨ j = 5 ∨ j = 6 by omega) with rfl | rfl | rfl | rfl | rfl | rfl | rfl
    · exact va_eqt (nq h 54 rfl)
    · exact va_eqt (nq h 55 rfl)
    · exact va_eqt (nq h 56 rfl)
    · exact va_eqt (nq h 57 rfl)
    · exact va_eqt (nq h 58 rfl)
    · exact va_eqt (nq h 59 rfl)
    · exact va_eqt (nq h 60 rfl)
  obtain ⟨t, ht, hT⟩ := va_Tof (tm := .static "DonkeyBridge$Road" "ABOVE" "[I") (ty := .int) (N := 7) (f := fun j => .int (aboveF j)) (A := A) (by decide) (nq h 52 rfl) (va_eqt (nq h 53 rfl)) hel hA
  exact ⟨t, va_Zref (hts _ (wt_4 (List.mem_of_getElem? (i := 230) rfl))) (hts _ (wt_1 (List.mem_of_getElem? (i := 2) rfl))) ht hA, hT⟩
set_option maxRecDepth 20000 in
set_option maxHeartbeats 4000000 in
theorem sf_BODIES {b : Nat} {s : State} (h : (Jvm.Cond.and given_1 narrow_1).before #[Value.ref b] s = true) (hts : ∀ w ∈ lw_tbl, w.before #[Value.ref b] s = true) {A : Nat → Prop} (hA : ∀ a : Nat, a < s.heap.size → ¬ A a) : ∃ t : Nat, va_Z "DonkeyBridge$Bodies" "BODIES" "[I" (.ref t) A s s.heap ∧ va_T .int t 21 (fun j => .int (bodiesF j)) A s s.heap := by
  have hel : ∀ j : Nat, j < 21 → (Term.elem (.static "DonkeyBridge$Bodies" "BODIES" "[I") (.int (Int32.ofNat j))).eval #[Value.ref b] s none [] s = some (.int (bodiesF j)) := by
    intro j hj
    rcases (show j = 0 ∨ j = 1 ∨ j = 2 ∨ j = 3 ∨ j = 4 ∨ j = 5 ∨ j = 6 ∨ j = 7 ∨ j = 8 ∨ j = 9 ∨ j = 10 ∨ j = 11 ∨ j = 12 ∨ j = 13 ∨ j = 14 ∨ j = 15 ∨ j = 16 ∨ j = 17 ∨ j = 18 ∨ j = 19 ∨ j = 20 by omega) with rfl | rfl | rfl | rfl | rfl | rfl | rfl | rfl | rfl | rfl | rfl | rfl | rfl | rfl | rfl | rfl | rfl | rfl | rfl | rfl | rfl
    · exact va_eqt (nq h 30 rfl)
    · exact va_eqt (nq h 31 rfl)
    · exact va_eqt (nq h 32 rfl)
    · exact va_eqt (nq h 33 rfl)
    · exact va_eqt (nq h 34 rfl)
    · exact va_eqt (nq h 35 rfl)
    · exact va_eqt (nq h 36 rfl)
    · exact va_eqt (nq h 37 rfl)
    · exact va_eqt (nq h 38 rfl)
    · exact va_eqt (nq h 39 rfl)
    · exact va_eqt (nq h 40 rfl)
    · exact va_eqt (nq h 41 rfl)
    · exact va_eqt (nq h 42 rfl)
    · exact va_eqt (nq h 43 rfl)
    · exact va_eqt (nq h 44 rfl)
    · exact va_eqt (nq h 45 rfl)
    · exact va_eqt (nq h 46 rfl)
    · exact va_eqt (nq h 47 rfl)
    · exact va_eqt (nq h 48 rfl)
    · exact va_eqt (nq h 49 rfl)
    · exact va_eqt (nq h 50 rfl)
  obtain ⟨t, ht, hT⟩ := va_Tof (tm := .static "DonkeyBridge$Bodies" "BODIES" "[I") (ty := .int) (N := 21) (f := fun j => .int (bodiesF j)) (A := A) (by decide) (nq h 28 rfl) (va_eqt (nq h 29 rfl)) hel hA
  exact ⟨t, va_Zref (hts _ (wt_4 (List.mem_of_getElem? (i := 225) rfl))) (hts _ (wt_1 (List.mem_of_getElem? (i := 12) rfl))) ht hA, hT⟩
set_option maxRecDepth 20000 in
set_option maxHeartbeats 8000000 in
theorem sf_str {b : Nat} {s : State} (h : (Jvm.Cond.and given_1 narrow_1).before #[Value.ref b] s = true) (hts : ∀ w ∈ lw_tbl, w.before #[Value.ref b] s = true) {A : Nat → Prop} (hA : ∀ a : Nat, a < s.heap.size → ¬ A a) : ∃ adK adV : Nat → Nat, vk_S 9 sL_len sL_byt adK adV A s s.heap ∧ ∀ k, k < 9 → vk_R "DonkeyBridge$Text" (sL_key k).1 (sL_key k).2 (adK k) s := by
  have c9 : ∀ i : Nat, i < 9 → i = 0 ∨ i = 1 ∨ i = 2 ∨ i = 3 ∨ i = 4 ∨ i = 5 ∨ i = 6 ∨ i = 7 ∨ i = 8 := fun i hi => by omega
  have h1 : ∀ i : Nat, i < 9 → sL_len.getD i 0 < 2 ^ 31 := by
    intro i hi; rcases c9 i hi with rfl | rfl | rfl | rfl | rfl | rfl | rfl | rfl | rfl <;> decide
  have h2 : ∀ i : Nat, i < 9 → (Cond.exactly (Term.string "DonkeyBridge$Text" (sL_key i).1) "java/lang/String").before #[Value.ref b] s = true := by
    intro i hi; rcases c9 i hi with rfl | rfl | rfl | rfl | rfl | rfl | rfl | rfl | rfl
    · exact nq h 97 rfl
    · exact nq h 103 rfl
    · exact nq h 111 rfl
    · exact nq h 121 rfl
    · exact nq h 132 rfl
    · exact nq h 143 rfl
    · exact nq h 156 rfl
    · exact nq h 170 rfl
    · exact nq h 190 rfl
  have h3 : ∀ i : Nat, i < 9 → (Cond.eq (.field (Term.string "DonkeyBridge$Text" (sL_key i).1) "java/lang/String" "coder" "B") (.int 0)).before #[Value.ref b] s = true := by
    intro i hi; rcases c9 i hi with rfl | rfl | rfl | rfl | rfl | rfl | rfl | rfl | rfl
    · exact nq h 98 rfl
    · exact nq h 104 rfl
    · exact nq h 112 rfl
    · exact nq h 122 rfl
    · exact nq h 133 rfl
    · exact nq h 144 rfl
    · exact nq h 157 rfl
    · exact nq h 171 rfl
    · exact nq h 191 rfl
  have h4 : ∀ i : Nat, i < 9 → (Cond.arrayOf (Term.field (Term.string "DonkeyBridge$Text" (sL_key i).1) "java/lang/String" "value" "[B") .byte).before #[Value.ref b] s = true := by
    intro i hi; rcases c9 i hi with rfl | rfl | rfl | rfl | rfl | rfl | rfl | rfl | rfl
    · exact nq h 99 rfl
    · exact nq h 105 rfl
    · exact nq h 113 rfl
    · exact nq h 123 rfl
    · exact nq h 134 rfl
    · exact nq h 145 rfl
    · exact nq h 158 rfl
    · exact nq h 172 rfl
    · exact nq h 192 rfl
  have h5 : ∀ i : Nat, i < 9 → (Cond.eq (.length (Term.field (Term.string "DonkeyBridge$Text" (sL_key i).1) "java/lang/String" "value" "[B")) (.int (Int32.ofNat (sL_len.getD i 0)))).before #[Value.ref b] s = true := by
    intro i hi; rcases c9 i hi with rfl | rfl | rfl | rfl | rfl | rfl | rfl | rfl | rfl
    · exact nq h 100 rfl
    · exact nq h 106 rfl
    · exact nq h 114 rfl
    · exact nq h 124 rfl
    · exact nq h 135 rfl
    · exact nq h 146 rfl
    · exact nq h 159 rfl
    · exact nq h 173 rfl
    · exact nq h 193 rfl
  have h6 : ∀ i : Nat, i < 9 → ∀ j : Nat, j < sL_len.getD i 0 → (Cond.eq (.elem (Term.field (Term.string "DonkeyBridge$Text" (sL_key i).1) "java/lang/String" "value" "[B") (.int (Int32.ofNat j))) (.int ((sL_byt.getD i []).getD j 0))).before #[Value.ref b] s = true := by
    intro i hi j hj; rcases c9 i hi with rfl | rfl | rfl | rfl | rfl | rfl | rfl | rfl | rfl
    · rcases (show j = 0 ∨ j = 1 by have h5 : j < 2 := hj; omega) with rfl | rfl
      · exact nq h 101 rfl
      · exact nq h 102 rfl
    · rcases (show j = 0 ∨ j = 1 ∨ j = 2 by have h5 : j < 3 := hj; omega) with rfl | rfl | rfl
      · exact nq h 107 rfl
      · exact nq h 108 rfl
      · exact nq h 109 rfl
    · rcases (show j = 0 ∨ j = 1 ∨ j = 2 ∨ j = 3 by have h5 : j < 4 := hj; omega) with rfl | rfl | rfl | rfl
      · exact nq h 115 rfl
      · exact nq h 116 rfl
      · exact nq h 117 rfl
      · exact nq h 118 rfl
    · rcases (show j = 0 ∨ j = 1 ∨ j = 2 ∨ j = 3 by have h5 : j < 4 := hj; omega) with rfl | rfl | rfl | rfl
      · exact nq h 125 rfl
      · exact nq h 126 rfl
      · exact nq h 127 rfl
      · exact nq h 128 rfl
    · rcases (show j = 0 ∨ j = 1 ∨ j = 2 by have h5 : j < 3 := hj; omega) with rfl | rfl | rfl
      · exact nq h 136 rfl
      · exact nq h 137 rfl
      · exact nq h 138 rfl
    · rcases (show j = 0 ∨ j = 1 ∨ j = 2 ∨ j = 3 by have h5 : j < 4 := hj; omega) with rfl | rfl | rfl | rfl
      · exact nq h 147 rfl
      · exact nq h 148 rfl
      · exact nq h 149 rfl
      · exact nq h 150 rfl
    · rcases (show j = 0 ∨ j = 1 ∨ j = 2 ∨ j = 3 by have h5 : j < 4 := hj; omega) with rfl | rfl | rfl | rfl
      · exact nq h 160 rfl
      · exact nq h 161 rfl
      · exact nq h 162 rfl
      · exact nq h 163 rfl
    · rcases (show j = 0 ∨ j = 1 ∨ j = 2 ∨ j = 3 ∨ j = 4 ∨ j = 5 ∨ j = 6 ∨ j = 7 ∨ j = 8 by have h5 : j < 9 := hj; omega) with rfl | rfl | rfl | rfl | rfl | rfl | rfl | rfl | rfl
      · exact nq h 174 rfl
      · exact nq h 175 rfl
      · exact nq h 176 rfl
      · exact nq h 177 rfl
      · exact nq h 178 rfl
      · exact nq h 179 rfl
      · exact nq h 180 rfl
      · exact nq h 181 rfl
      · exact nq h 182 rfl
    · rcases (show j = 0 ∨ j = 1 ∨ j = 2 by have h5 : j < 3 := hj; omega) with rfl | rfl | rfl
      · exact nq h 194 rfl
      · exact nq h 195 rfl
      · exact nq h 196 rfl
  have h7 : ∀ i j : Nat, i < 9 → j < 9 → i ≠ j → (Cond.not (Cond.eq (Term.string "DonkeyBridge$Text" (sL_key i).1) (Term.string "DonkeyBridge$Text" (sL_key j).1))).before #[Value.ref b] s = true ∨ (Cond.not (Cond.eq (Term.string "DonkeyBridge$Text" (sL_key j).1) (Term.string "DonkeyBridge$Text" (sL_key i).1))).before #[Value.ref b] s = true := by
    intro i j hi hj hij; rcases c9 i hi with rfl | rfl | rfl | rfl | rfl | rfl | rfl | rfl | rfl
    · rcases c9 j hj with rfl | rfl | rfl | rfl | rfl | rfl | rfl | rfl | rfl
      · exact absurd rfl hij
      · exact Or.inl (nq h 110 rfl)
      · exact Or.inl (nq h 119 rfl)
      · exact Or.inl (nq h 129 rfl)
      · exact Or.inl (nq h 139 rfl)
      · exact Or.inl (nq h 151 rfl)
      · exact Or.inl (nq h 164 rfl)
      · exact Or.inl (nq h 183 rfl)
      · exact Or.inl (nq h 197 rfl)
    · rcases c9 j hj with rfl | rfl | rfl | rfl | rfl | rfl | rfl | rfl | rfl
      · exact Or.inr (nq h 110 rfl)
      · exact absurd rfl hij
      · exact Or.inl (nq h 120 rfl)
      · exact Or.inl (nq h 130 rfl)
      · exact Or.inl (nq h 140 rfl)
      · exact Or.inl (nq h 152 rfl)
      · exact Or.inl (nq h 165 rfl)
      · exact Or.inl (nq h 184 rfl)
      · exact Or.inl (nq h 198 rfl)
    · rcases c9 j hj with rfl | rfl | rfl | rfl | rfl | rfl | rfl | rfl | rfl
      · exact Or.inr (nq h 119 rfl)
      · exact Or.inr (nq h 120 rfl)
      · exact absurd rfl hij
      · exact Or.inl (nq h 131 rfl)
      · exact Or.inl (nq h 141 rfl)
      · exact Or.inl (nq h 153 rfl)
      · exact Or.inl (nq h 166 rfl)
      · exact Or.inl (nq h 185 rfl)
      · exact Or.inl (nq h 199 rfl)
    · rcases c9 j hj with rfl | rfl | rfl | rfl | rfl | rfl | rfl | rfl | rfl
      · exact Or.inr (nq h 129 rfl)
      · exact Or.inr (nq h 130 rfl)
      · exact Or.inr (nq h 131 rfl)
      · exact absurd rfl hij
      · exact Or.inl (nq h 142 rfl)
      · exact Or.inl (nq h 154 rfl)
      · exact Or.inl (nq h 167 rfl)
      · exact Or.inl (nq h 186 rfl)
      · exact Or.inl (nq h 200 rfl)
    · rcases c9 j hj with rfl | rfl | rfl | rfl | rfl | rfl | rfl | rfl | rfl
      · exact Or.inr (nq h 139 rfl)
      · exact Or.inr (nq h 140 rfl)
      · exact Or.inr (nq h 141 rfl)
      · exact Or.inr (nq h 142 rfl)
      · exact absurd rfl hij
      · exact Or.inl (nq h 155 rfl)
      · exact Or.inl (nq h 168 rfl)
      · exact Or.inl (nq h 187 rfl)
      · exact Or.inl (nq h 201 rfl)
    · rcases c9 j hj with rfl | rfl | rfl | rfl | rfl | rfl | rfl | rfl | rfl
      · exact Or.inr (nq h 151 rfl)
      · exact Or.inr (nq h 152 rfl)
      · exact Or.inr (nq h 153 rfl)
      · exact Or.inr (nq h 154 rfl)
      · exact Or.inr (nq h 155 rfl)
      · exact absurd rfl hij
      · exact Or.inl (nq h 169 rfl)
      · exact Or.inl (nq h 188 rfl)
      · exact Or.inl (nq h 202 rfl)
    · rcases c9 j hj with rfl | rfl | rfl | rfl | rfl | rfl | rfl | rfl | rfl
      · exact Or.inr (nq h 164 rfl)
      · exact Or.inr (nq h 165 rfl)
      · exact Or.inr (nq h 166 rfl)
      · exact Or.inr (nq h 167 rfl)
      · exact Or.inr (nq h 168 rfl)
      · exact Or.inr (nq h 169 rfl)
      · exact absurd rfl hij
      · exact Or.inl (nq h 189 rfl)
      · exact Or.inl (nq h 203 rfl)
    · rcases c9 j hj with rfl | rfl | rfl | rfl | rfl | rfl | rfl | rfl | rfl
      · exact Or.inr (nq h 183 rfl)
      · exact Or.inr (nq h 184 rfl)
      · exact Or.inr (nq h 185 rfl)
      · exact Or.inr (nq h 186 rfl)
      · exact Or.inr (nq h 187 rfl)
      · exact Or.inr (nq h 188 rfl)
      · exact Or.inr (nq h 189 rfl)
      · exact absurd rfl hij
      · exact Or.inl (nq h 204 rfl)
    · rcases c9 j hj with rfl | rfl | rfl | rfl | rfl | rfl | rfl | rfl | rfl
      · exact Or.inr (nq h 197 rfl)
      · exact Or.inr (nq h 198 rfl)
      · exact Or.inr (nq h 199 rfl)
      · exact Or.inr (nq h 200 rfl)
      · exact Or.inr (nq h 201 rfl)
      · exact Or.inr (nq h 202 rfl)
      · exact Or.inr (nq h 203 rfl)
      · exact Or.inr (nq h 204 rfl)
      · exact absurd rfl hij
  obtain ⟨adK, adV, hS, hE⟩ := vk_Sof (N := 9) (tm := fun i => .string "DonkeyBridge$Text" (sL_key i).1) (len := sL_len) (byt := sL_byt) (A := A) (args := #[Value.ref b]) (s := s) h1 h2 h3 h4 h5 h6 h7 hA
  refine ⟨adK, adV, hS, fun k hk => ?_⟩
  rcases c9 k hk with rfl | rfl | rfl | rfl | rfl | rfl | rfl | rfl | rfl
  · exact vk_R.of (hts _ (wt_2 (List.mem_of_getElem? (i := 160) rfl))) (hE 0 hk)
  · exact vk_R.of (hts _ (wt_2 (List.mem_of_getElem? (i := 161) rfl))) (hE 1 hk)
  · exact vk_R.of (hts _ (wt_2 (List.mem_of_getElem? (i := 162) rfl))) (hE 2 hk)
  · exact vk_R.of (hts _ (wt_2 (List.mem_of_getElem? (i := 163) rfl))) (hE 3 hk)
  · exact vk_R.of (hts _ (wt_2 (List.mem_of_getElem? (i := 164) rfl))) (hE 4 hk)
  · exact vk_R.of (hts _ (wt_2 (List.mem_of_getElem? (i := 165) rfl))) (hE 5 hk)
  · exact vk_R.of (hts _ (wt_2 (List.mem_of_getElem? (i := 166) rfl))) (hE 6 hk)
  · exact vk_R.of (hts _ (wt_3 (List.mem_of_getElem? (i := 8) rfl))) (hE 7 hk)
  · exact vk_R.of (hts _ (wt_3 (List.mem_of_getElem? (i := 70) rfl))) (hE 8 hk)
theorem ra_prim {s : State} {args : Array Value} {ty : FieldType} (h : (Cond.arrayClass ty).before args s = true) (hp : ∀ C, ty ≠ .object C) : ∃ cA, ArrOfT s cA ty ∧ va_RA s cA ty := by
  obtain ⟨cA, kA, comp, h1, h2, h3⟩ := Cond.arrayClass_spec h
  refine ⟨cA, fun n z => ⟨(fun k h => by cases h), kA, h2, comp, h3⟩, ?_⟩
  cases ty with
  | object C => exact absurd rfl (hp C)
  | _ => exact h1
theorem ra_obj {s : State} {args : Array Value} {C : String} (h : (Cond.arrayOver (.object C)).before args s = true) : ∃ cA, ArrOfT s cA (.object C) ∧ va_RA s cA (.object C) := by
  obtain ⟨comp, cA, kA, h1, h2, h3, h4, h5⟩ := Cond.arrayOver_spec h
  exact ⟨cA, fun n z => ⟨(fun k h => by cases h), kA, h3, comp, h4⟩, kA, comp, h3, h4, h1, h5⟩
set_option maxRecDepth 20000 in
set_option maxHeartbeats 8000000 in
theorem env_start {b : Nat} {s : State} (h : (Jvm.Cond.and given_1 narrow_1).before #[Value.ref b] s = true) (hts : ∀ w ∈ lw_tbl, w.before #[Value.ref b] s = true) : ∃ (D : va_G) (cy : Nat → ClassId) (sa : Nat → Nat), ∀ ad : Nat → Nat → Nat, va_K D vwCl (tyE (D, cy, ad, (fun q => s.heap.size ≤ q), sa)) s ∧ SF (D, cy, ad, (fun q => s.heap.size ≤ q), sa) s s.heap ∧ NX s := by
  have hA : ∀ a : Nat, a < s.heap.size → ¬ (fun q : Nat => s.heap.size ≤ q) a := fun a h => Nat.not_le.mpr h
  obtain ⟨c0, i0, k0⟩ := u_known (C := RX0) (T := TX0) (N := 6) (n := 6) (fun w hw => hts w (List.mem_filter.mp hw).1) inX0 (hts (.instantiable RX0 6) (List.mem_filter.mp wn_instX0).1)
  obtain ⟨c1, i1, k1⟩ := u_known (C := RX1) (T := TX1) (N := 1) (n := 1) (fun w hw => hts w (List.mem_filter.mp hw).1) inX1 (hts (.instantiable RX1 1) (List.mem_filter.mp wn_instX1).1)
  obtain ⟨c2, i2, k2⟩ := u_known (C := RX2) (T := TX2) (N := 6) (n := 6) (fun w hw => hts w (List.mem_filter.mp hw).1) inX2 (hts (.instantiable RX2 6) (List.mem_filter.mp wn_instX2).1)
  obtain ⟨c3, i3, k3⟩ := u_known (C := RX3) (T := TX3) (N := 6) (n := 6) (fun w hw => hts w (List.mem_filter.mp hw).1) inX3 (hts (.instantiable RX3 6) (List.mem_filter.mp wn_instX3).1)
  obtain ⟨c4, i4, k4⟩ := u_known (C := RX4) (T := TX4) (N := 4) (n := 4) (fun w hw => hts w (List.mem_filter.mp hw).1) inX4 (hts (.instantiable RX4 4) (List.mem_filter.mp wn_instX4).1)
  obtain ⟨c5, i5, k5⟩ := u_known (C := RX5) (T := TX5) (N := 2) (n := 2) (fun w hw => hts w (List.mem_filter.mp hw).1) inX5 (hts (.instantiable RX5 2) (List.mem_filter.mp wn_instX5).1)
  obtain ⟨c6, i6, k6⟩ := u_known (C := RX6) (T := TX6) (N := 3) (n := 3) (fun w hw => hts w (List.mem_filter.mp hw).1) inX6 (hts (.instantiable RX6 3) (List.mem_filter.mp wn_instX6).1)
  obtain ⟨c7, i7, k7⟩ := u_known (C := RX7) (T := TX7) (N := 2) (n := 2) (fun w hw => hts w (List.mem_filter.mp hw).1) inX7 (hts (.instantiable RX7 2) (List.mem_filter.mp wn_instX7).1)
  obtain ⟨c8, i8, k8⟩ := u_known (C := RX8) (T := TX8) (N := 9) (n := 9) (fun w hw => hts w (List.mem_filter.mp hw).1) inX8 (hts (.instantiable RX8 9) (List.mem_filter.mp wn_instX8).1)
  obtain ⟨c9, i9, k9⟩ := u_known (C := RX9) (T := TX9) (N := 4) (n := 4) (fun w hw => hts w (List.mem_filter.mp hw).1) inX9 (hts (.instantiable RX9 4) (List.mem_filter.mp wn_instX9).1)
  obtain ⟨c10, i10, k10⟩ := u_known (C := RX10) (T := TX10) (N := 12) (n := 12) (fun w hw => hts w (List.mem_filter.mp hw).1) inX10 (hts (.instantiable RX10 12) (List.mem_filter.mp wn_instX10).1)
  obtain ⟨c11, i11, k11⟩ := u_known (C := RX11) (T := TX11) (N := 51) (n := 51) (fun w hw => hts w (List.mem_filter.mp hw).1) inX11 (hts (.instantiable RX11 51) (List.mem_filter.mp wn_instX11).1)
  obtain ⟨y0, z0⟩ := ra_prim (hts _ (wt_1 (List.mem_of_getElem? (i := 48) rfl))) (fun C h => by cases h)
  obtain ⟨y1, z1⟩ := ra_prim (hts _ (wt_2 (List.mem_of_getElem? (i := 19) rfl))) (fun C h => by cases h)
  obtain ⟨y2, z2⟩ := ra_prim (hts _ (wt_5 (List.mem_of_getElem? (i := 225) rfl))) (fun C h => by cases h)
  obtain ⟨y3, z3⟩ := ra_prim (hts _ (wt_3 (List.mem_of_getElem? (i := 90) rfl))) (fun C h => by cases h)
  obtain ⟨y4, z4⟩ := ra_obj (C := "DonkeyBridge$Law") (hts _ (wt_1 (List.mem_of_getElem? (i := 79) rfl)))
  obtain ⟨y5, z5⟩ := ra_obj (C := "DonkeyBridge$Tape") (hts _ (wt_2 (List.mem_of_getElem? (i := 3) rfl)))
  obtain ⟨y6, z6⟩ := ra_obj (C := "DonkeyBridge$Donkey") (hts _ (wt_1 (List.mem_of_getElem? (i := 185) rfl)))
  obtain ⟨t0, a0, b0⟩ := sf_MOST h hts hA
  obtain ⟨t1, a1, b1⟩ := sf_ABOVE h hts hA
  obtain ⟨t2, a2, b2⟩ := sf_BODIES h hts hA
  obtain ⟨adK, adV, hS, hR⟩ := sf_str h hts hA
  have hC : va_Z "java/lang/String" "COMPACT_STRINGS" "Z" (.int 1) (fun q => s.heap.size ≤ q) s s.heap := va_Zof (hts _ (wt_2 (List.mem_of_getElem? (i := 176) rfl))) (hts _ (wt_1 (List.mem_of_getElem? (i := 15) rfl))) (va_eqt (nq h 22 rfl)) hA
  have hQ : va_Zq "jdk/internal/util/Preconditions" "SIOOBE_FORMATTER" "Ljava/util/function/BiFunction;" (fun q => s.heap.size ≤ q) s s.heap := va_Zqof (hts _ (wt_2 (List.mem_of_getElem? (i := 196) rfl))) (hts _ (wt_1 (List.mem_of_getElem? (i := 17) rfl))) (nq h 23 rfl) hA
  have e1 : ∀ k, k < 9 → (fun k => if k = 0 then t0 else if k = 1 then t1 else if k = 2 then t2 else if k < 20 then adK (k - 10) else adV (k - 20)) (10 + k) = adK k := fun k hk => by
    show (if 10 + k = 0 then t0 else if 10 + k = 1 then t1 else if 10 + k = 2 then t2 else if 10 + k < 20 then adK (10 + k - 10) else adV (10 + k - 20)) = _
    rw [if_neg (by omega), if_neg (by omega), if_neg (by omega), if_pos (by omega), show 10 + k - 10 = k by omega]
  have e2 : ∀ k, (fun k => if k = 0 then t0 else if k = 1 then t1 else if k = 2 then t2 else if k < 20 then adK (k - 10) else adV (k - 20)) (20 + k) = adV k := fun k => by
    show (if 20 + k = 0 then t0 else if 20 + k = 1 then t1 else if 20 + k = 2 then t2 else if 20 + k < 20 then adK (20 + k - 10) else adV (20 + k - 20)) = _
    rw [if_neg (by omega), if_neg (by omega), if_neg (by omega), if_neg (by omega), show 20 + k - 20 = k by omega]
  refine ⟨(fun k => ([c0, c1, c2, c3, c4, c5, c6, c7, c8, c9, c10, c11] : List ClassId).getD k c0, fun k => ([i0, i1, i2, i3, i4, i5, i6, i7, i8, i9, i10, i11] : List (Nat → Nat)).getD k i0), fun k => ([y0, y1, y2, y3, y4, y5, y6] : List ClassId).getD k y0, fun k => if k = 0 then t0 else if k = 1 then t1 else if k = 2 then t2 else if k < 20 then adK (k - 10) else adV (k - 20), fun ad => ⟨⟨?_, ?_⟩, ⟨⟨a0, b0⟩, ⟨a1, b1⟩, ⟨a2, b2⟩, ⟨hC, hQ⟩, ⟨?_, ?_⟩, ?_⟩, ?_⟩⟩
  · intro k q hq
    match k, hq with
    | 0, hq => cases hq; exact k0
    | 1, hq => cases hq; exact k1
    | 2, hq => cases hq; exact k2
    | 3, hq => cases hq; exact k3
    | 4, hq => cases hq; exact k4
    | 5, hq => cases hq; exact k5
    | 6, hq => cases hq; exact k6
    | 7, hq => cases hq; exact k7
    | 8, hq => cases hq; exact k8
    | 9, hq => cases hq; exact k9
    | 10, hq => cases hq; exact k10
    | 11, hq => cases hq; exact k11
    | k + 12, hq => cases hq
  · intro k q hq
    match k, hq with
    | 0, hq => cases hq; exact z0
    | 1, hq => cases hq; exact z1
    | 2, hq => cases hq; exact z2
    | 3, hq => cases hq; exact z3
    | 4, hq => cases hq; exact z4
    | 5, hq => cases hq; exact z5
    | 6, hq => cases hq; exact z6
    | k + 7, hq => cases hq
  · intro i hi
    have h9 := hS.1 i hi
    rw [← e1 i hi, ← e2 i] at h9
    exact h9
  · intro i j hi hj e
    refine hS.2 i j hi hj ?_
    rw [← e1 i hi, ← e1 j hj]
    exact e
  · intro k hk
    have h9 := hR k hk
    rw [← e1 k hk] at h9
    exact h9
  · exact ⟨⟨va_Nw.of rfl (hts _ (wt_1 (List.mem_of_getElem? (i := 31) rfl))), va_Nw.of rfl (hts _ (wt_1 (List.mem_of_getElem? (i := 51) rfl))), va_Nw.of rfl (hts _ (wt_1 (List.mem_of_getElem? (i := 81) rfl))), va_Nw.of rfl (hts _ (wt_1 (List.mem_of_getElem? (i := 125) rfl))), va_Nw.of rfl (hts _ (wt_2 (List.mem_of_getElem? (i := 5) rfl)))⟩, va_AO.of (hts _ (wt_1 (List.mem_of_getElem? (i := 79) rfl))), va_AO.of (hts _ (wt_2 (List.mem_of_getElem? (i := 3) rfl))), va_AO.of (hts _ (wt_1 (List.mem_of_getElem? (i := 185) rfl)))⟩
