def wmI (y : MethodName) (cc : ByteArray) (maxL : Nat) (n : Nat) : Prop :=
  Cond.code y cc maxL none ∈ gw_tbl ∧ Cond.instanceMethod y ∈ gw_tbl ∧ Cond.initialized y.cls ∈ gw_tbl ∧ (y.cls ≠ "java/lang/invoke/MethodHandle" ∧ y.cls ≠ "java/lang/invoke/VarHandle" ∧ (parseMethodDescriptor y.desc).map (fun d => d.parameters.length) = some n)
theorem wt_0 {w : Cond} (h : w ∈ k2_sels lw_privs) : w ∈ lw_tbl := List.mem_append.mpr (Or.inl h)
theorem wt_1 {w : Cond} (h : w ∈ tables_1_1) : w ∈ lw_tbl := List.mem_append.mpr (Or.inr (List.mem_append.mpr (Or.inl h)))
theorem wt_2 {w : Cond} (h : w ∈ tables_1_2) : w ∈ lw_tbl := List.mem_append.mpr (Or.inr (List.mem_append.mpr (Or.inr (List.mem_append.mpr (Or.inl h)))))
theorem wt_3 {w : Cond} (h : w ∈ tables_1_3) : w ∈ lw_tbl := List.mem_append.mpr (Or.inr (List.mem_append.mpr (Or.inr (List.mem_append.mpr (Or.inr (List.mem_append.mpr (Or.inl h)))))))
theorem wt_4 {w : Cond} (h : w ∈ tables_1_4) : w ∈ lw_tbl := List.mem_append.mpr (Or.inr (List.mem_append.mpr (Or.inr (List.mem_append.mpr (Or.inr (List.mem_append.mpr (Or.inr (List.mem_append.mpr (Or.inl h)))))))))
theorem wt_5 {w : Cond} (h : w ∈ tables_1_5) : w ∈ lw_tbl := List.mem_append.mpr (Or.inr (List.mem_append.mpr (Or.inr (List.mem_append.mpr (Or.inr (List.mem_append.mpr (Or.inr (List.mem_append.mpr (Or.inr (List.mem_append.mpr (Or.inl h)))))))))))
theorem wt_6 {w : Cond} (h : w ∈ tables_1_6) : w ∈ lw_tbl := List.mem_append.mpr (Or.inr (List.mem_append.mpr (Or.inr (List.mem_append.mpr (Or.inr (List.mem_append.mpr (Or.inr (List.mem_append.mpr (Or.inr (List.mem_append.mpr (Or.inr (List.mem_append.mpr (Or.inl h)))))))))))))
theorem wt_7 {w : Cond} (h : w ∈ tables_1_7) : w ∈ lw_tbl := List.mem_append.mpr (Or.inr (List.mem_append.mpr (Or.inr (List.mem_append.mpr (Or.inr (List.mem_append.mpr (Or.inr (List.mem_append.mpr (Or.inr (List.mem_append.mpr (Or.inr (List.mem_append.mpr (Or.inr h)))))))))))))
theorem inX0 : ∀ w ∈ u_ws RX0 TX0 6, w ∈ gw_tbl := by
  have h1 : ∀ w ∈ u_ws RX0 TX0 6, w ∈ lw_tbl := by decide +kernel
  have h2 : (u_ws RX0 TX0 6).all goodWord = true := by decide +kernel
  exact fun w hw => gm (h1 w hw) (List.all_eq_true.mp h2 w hw)
theorem inX1 : ∀ w ∈ u_ws RX1 TX1 1, w ∈ gw_tbl := by
  have h1 : ∀ w ∈ u_ws RX1 TX1 1, w ∈ lw_tbl := by decide +kernel
  have h2 : (u_ws RX1 TX1 1).all goodWord = true := by decide +kernel
  exact fun w hw => gm (h1 w hw) (List.all_eq_true.mp h2 w hw)
theorem inX2 : ∀ w ∈ u_ws RX2 TX2 6, w ∈ gw_tbl := by
  have h1 : ∀ w ∈ u_ws RX2 TX2 6, w ∈ lw_tbl := by decide +kernel
  have h2 : (u_ws RX2 TX2 6).all goodWord = true := by decide +kernel
  exact fun w hw => gm (h1 w hw) (List.all_eq_true.mp h2 w hw)
theorem inX3 : ∀ w ∈ u_ws RX3 TX3 6, w ∈ gw_tbl := by
  have h1 : ∀ w ∈ u_ws RX3 TX3 6, w ∈ lw_tbl := by decide +kernel
  have h2 : (u_ws RX3 TX3 6).all goodWord = true := by decide +kernel
  exact fun w hw => gm (h1 w hw) (List.all_eq_true.mp h2 w hw)
theorem inX4 : ∀ w ∈ u_ws RX4 TX4 4, w ∈ gw_tbl := by
  have h1 : ∀ w ∈ u_ws RX4 TX4 4, w ∈ lw_tbl := by decide +kernel
  have h2 : (u_ws RX4 TX4 4).all goodWord = true := by decide +kernel
  exact fun w hw => gm (h1 w hw) (List.all_eq_true.mp h2 w hw)
theorem inX5 : ∀ w ∈ u_ws RX5 TX5 2, w ∈ gw_tbl := by
  have h1 : ∀ w ∈ u_ws RX5 TX5 2, w ∈ lw_tbl := by decide +kernel
  have h2 : (u_ws RX5 TX5 2).all goodWord = true := by decide +kernel
  exact fun w hw => gm (h1 w hw) (List.all_eq_true.mp h2 w hw)
theorem inX6 : ∀ w ∈ u_ws RX6 TX6 3, w ∈ gw_tbl := by
  have h1 : ∀ w ∈ u_ws RX6 TX6 3, w ∈ lw_tbl := by decide +kernel
  have h2 : (u_ws RX6 TX6 3).all goodWord = true := by decide +kernel
  exact fun w hw => gm (h1 w hw) (List.all_eq_true.mp h2 w hw)
theorem inX7 : ∀ w ∈ u_ws RX7 TX7 2, w ∈ gw_tbl := by
  have h1 : ∀ w ∈ u_ws RX7 TX7 2, w ∈ lw_tbl := by decide +kernel
  have h2 : (u_ws RX7 TX7 2).all goodWord = true := by decide +kernel
  exact fun w hw => gm (h1 w hw) (List.all_eq_true.mp h2 w hw)
theorem inX8 : ∀ w ∈ u_ws RX8 TX8 9, w ∈ gw_tbl := by
  have h1 : ∀ w ∈ u_ws RX8 TX8 9, w ∈ lw_tbl := by decide +kernel
  have h2 : (u_ws RX8 TX8 9).all goodWord = true := by decide +kernel
  exact fun w hw => gm (h1 w hw) (List.all_eq_true.mp h2 w hw)
theorem inX9 : ∀ w ∈ u_ws RX9 TX9 4, w ∈ gw_tbl := by
  have h1 : ∀ w ∈ u_ws RX9 TX9 4, w ∈ lw_tbl := by decide +kernel
  have h2 : (u_ws RX9 TX9 4).all goodWord = true := by decide +kernel
  exact fun w hw => gm (h1 w hw) (List.all_eq_true.mp h2 w hw)
theorem inX10 : ∀ w ∈ u_ws RX10 TX10 12, w ∈ gw_tbl := by
  have h1 : ∀ w ∈ u_ws RX10 TX10 12, w ∈ lw_tbl := by decide +kernel
  have h2 : (u_ws RX10 TX10 12).all goodWord = true := by decide +kernel
  exact fun w hw => gm (h1 w hw) (List.all_eq_true.mp h2 w hw)
theorem inX11 : ∀ w ∈ u_ws RX11 TX11 51, w ∈ gw_tbl := by
  have h1 : ∀ w ∈ u_ws RX11 TX11 51, w ∈ lw_tbl := by decide +kernel
  have h2 : (u_ws RX11 TX11 51).all goodWord = true := by decide +kernel
  exact fun w hw => gm (h1 w hw) (List.all_eq_true.mp h2 w hw)
theorem wd_97 : Cond.classLink RL 7 RX10 ∈ gw_tbl := gm (wt_1 (List.mem_of_getElem? (i := 21) rfl)) rfl
theorem wd_99 : Cond.methodLink RL 9 yX10_init ∈ gw_tbl := gm (wt_1 (List.mem_of_getElem? (i := 23) rfl)) rfl
theorem wd_102 : Cond.methodLink RX10 3 ⟨"java/lang/Object", "<init>", "()V"⟩ ∈ gw_tbl := gm (wt_1 (List.mem_of_getElem? (i := 26) rfl)) rfl
theorem wd_105 : Cond.classLink RX10 9 RX4 ∈ gw_tbl := gm (wt_1 (List.mem_of_getElem? (i := 29) rfl)) rfl
theorem wd_110 : Cond.methodLink RX4 3 ⟨"java/lang/Object", "<init>", "()V"⟩ ∈ gw_tbl := gm (wt_1 (List.mem_of_getElem? (i := 34) rfl)) rfl
theorem wd_111 : Cond.fieldLink RX4 9 "DonkeyBridge$Road" "kinds" "[I" ∈ gw_tbl := gm (wt_1 (List.mem_of_getElem? (i := 35) rfl)) rfl
theorem wd_112 : Cond.fieldLink RX4 15 "DonkeyBridge$Road" "numbers" "[I" ∈ gw_tbl := gm (wt_1 (List.mem_of_getElem? (i := 36) rfl)) rfl
theorem wd_113 : Cond.fieldLink RX4 18 "DonkeyBridge$Road" "things" "[I" ∈ gw_tbl := gm (wt_1 (List.mem_of_getElem? (i := 37) rfl)) rfl
theorem wd_114 : Cond.fieldLink RX4 21 "DonkeyBridge$Road" "size" "I" ∈ gw_tbl := gm (wt_1 (List.mem_of_getElem? (i := 38) rfl)) rfl
theorem wd_125 : Cond.classLink RX10 18 RX7 ∈ gw_tbl := gm (wt_1 (List.mem_of_getElem? (i := 49) rfl)) rfl
theorem wd_130 : Cond.methodLink RX7 3 ⟨"java/lang/Object", "<init>", "()V"⟩ ∈ gw_tbl := gm (wt_1 (List.mem_of_getElem? (i := 54) rfl)) rfl
theorem wd_131 : Cond.classLink RX7 9 RX5 ∈ gw_tbl := gm (wt_1 (List.mem_of_getElem? (i := 55) rfl)) rfl
theorem wd_133 : Cond.methodLink RX7 11 yX5_init ∈ gw_tbl := gm (wt_1 (List.mem_of_getElem? (i := 57) rfl)) rfl
theorem wd_136 : Cond.methodLink RX5 1 ⟨"java/lang/Object", "<init>", "()V"⟩ ∈ gw_tbl := gm (wt_1 (List.mem_of_getElem? (i := 60) rfl)) rfl
theorem wd_137 : Cond.methodLink RX5 7 yJ9_max_7cf53 ∈ gw_tbl := gm (wt_1 (List.mem_of_getElem? (i := 61) rfl)) rfl
theorem wd_140 : Cond.fieldLink RX5 13 "DonkeyBridge$Strip" "items" "[I" ∈ gw_tbl := gm (wt_1 (List.mem_of_getElem? (i := 64) rfl)) rfl
theorem wd_141 : Cond.fieldLink RX5 19 "DonkeyBridge$Strip" "size" "I" ∈ gw_tbl := gm (wt_1 (List.mem_of_getElem? (i := 65) rfl)) rfl
theorem wd_147 : Cond.fieldLink RX7 14 "DonkeyBridge$Text" "signs" "LDonkeyBridge$Strip;" ∈ gw_tbl := gm (wt_1 (List.mem_of_getElem? (i := 71) rfl)) rfl
theorem wd_148 : Cond.fieldLink RX7 31 "DonkeyBridge$Text" "pos" "I" ∈ gw_tbl := gm (wt_1 (List.mem_of_getElem? (i := 72) rfl)) rfl
theorem wd_154 : Cond.classLink RX10 25 RX2 ∈ gw_tbl := gm (wt_1 (List.mem_of_getElem? (i := 78) rfl)) rfl
theorem wd_160 : Cond.methodLink RX2 3 ⟨"java/lang/Object", "<init>", "()V"⟩ ∈ gw_tbl := gm (wt_1 (List.mem_of_getElem? (i := 84) rfl)) rfl
theorem wd_161 : Cond.fieldLink RX2 9 "DonkeyBridge$Law" "words" "[I" ∈ gw_tbl := gm (wt_1 (List.mem_of_getElem? (i := 85) rfl)) rfl
theorem wd_162 : Cond.fieldLink RX2 15 "DonkeyBridge$Law" "amounts" "[I" ∈ gw_tbl := gm (wt_1 (List.mem_of_getElem? (i := 86) rfl)) rfl
theorem wd_163 : Cond.fieldLink RX2 18 "DonkeyBridge$Law" "starts" "[I" ∈ gw_tbl := gm (wt_1 (List.mem_of_getElem? (i := 87) rfl)) rfl
theorem wd_164 : Cond.fieldLink RX2 24 "DonkeyBridge$Law" "clauses" "I" ∈ gw_tbl := gm (wt_1 (List.mem_of_getElem? (i := 88) rfl)) rfl
theorem wd_165 : Cond.fieldLink RX2 21 "DonkeyBridge$Law" "codes" "[I" ∈ gw_tbl := gm (wt_1 (List.mem_of_getElem? (i := 89) rfl)) rfl
theorem wd_166 : Cond.fieldLink RX2 28 "DonkeyBridge$Law" "codeCount" "I" ∈ gw_tbl := gm (wt_1 (List.mem_of_getElem? (i := 90) rfl)) rfl
theorem wd_180 : Cond.classLink RX10 36 RX9 ∈ gw_tbl := gm (wt_1 (List.mem_of_getElem? (i := 104) rfl)) rfl
theorem wd_182 : Cond.methodLink RX10 38 yX9_init ∈ gw_tbl := gm (wt_1 (List.mem_of_getElem? (i := 106) rfl)) rfl
theorem wd_185 : Cond.methodLink RX9 3 ⟨"java/lang/Object", "<init>", "()V"⟩ ∈ gw_tbl := gm (wt_1 (List.mem_of_getElem? (i := 109) rfl)) rfl
theorem wd_186 : Cond.fieldLink RX9 18 "DonkeyBridge$Walk" "road" "LDonkeyBridge$Road;" ∈ gw_tbl := gm (wt_1 (List.mem_of_getElem? (i := 110) rfl)) rfl
theorem wd_187 : Cond.fieldLink RX9 22 "DonkeyBridge$Walk" "law" "LDonkeyBridge$Law;" ∈ gw_tbl := gm (wt_1 (List.mem_of_getElem? (i := 111) rfl)) rfl
theorem wd_188 : Cond.fieldLink RX9 9 "DonkeyBridge$Walk" "facts" "[I" ∈ gw_tbl := gm (wt_1 (List.mem_of_getElem? (i := 112) rfl)) rfl
theorem wd_189 : Cond.fieldLink RX9 15 "DonkeyBridge$Walk" "less" "[I" ∈ gw_tbl := gm (wt_1 (List.mem_of_getElem? (i := 113) rfl)) rfl
theorem wd_199 : Cond.classLink RX10 45 RX3 ∈ gw_tbl := gm (wt_1 (List.mem_of_getElem? (i := 123) rfl)) rfl
theorem wd_204 : Cond.methodLink RX3 3 ⟨"java/lang/Object", "<init>", "()V"⟩ ∈ gw_tbl := gm (wt_1 (List.mem_of_getElem? (i := 128) rfl)) rfl
theorem wd_205 : Cond.classLink RX3 9 RX1 ∈ gw_tbl := gm (wt_1 (List.mem_of_getElem? (i := 129) rfl)) rfl
theorem wd_207 : Cond.methodLink RX3 11 yX1_init ∈ gw_tbl := gm (wt_1 (List.mem_of_getElem? (i := 131) rfl)) rfl
theorem wd_210 : Cond.methodLink RX1 3 ⟨"java/lang/Object", "<init>", "()V"⟩ ∈ gw_tbl := gm (wt_1 (List.mem_of_getElem? (i := 134) rfl)) rfl
theorem wd_211 : Cond.fieldLink RX1 9 "DonkeyBridge$Donkey" "MOST" "[I" ∈ gw_tbl := gm (wt_1 (List.mem_of_getElem? (i := 135) rfl)) rfl
theorem wd_213 : Cond.methodLink RX1 18 yJ7_fill_fda19 ∈ gw_tbl := gm (wt_1 (List.mem_of_getElem? (i := 137) rfl)) rfl
theorem wd_216 : Cond.methodLink RJ7 13 yJ7_rangeCheck_23922 ∈ gw_tbl := gm (wt_1 (List.mem_of_getElem? (i := 140) rfl)) rfl
theorem wd_219 : Cond.fieldLink RX1 15 "DonkeyBridge$Donkey" "numbers" "[I" ∈ gw_tbl := gm (wt_1 (List.mem_of_getElem? (i := 143) rfl)) rfl
theorem wd_223 : Cond.classLink RX3 18 RX5 ∈ gw_tbl := gm (wt_1 (List.mem_of_getElem? (i := 147) rfl)) rfl
theorem wd_224 : Cond.methodLink RX3 20 yX5_init ∈ gw_tbl := gm (wt_1 (List.mem_of_getElem? (i := 148) rfl)) rfl
theorem wd_225 : Cond.fieldLink RX3 12 "DonkeyBridge$Moment" "donkey" "LDonkeyBridge$Donkey;" ∈ gw_tbl := gm (wt_1 (List.mem_of_getElem? (i := 149) rfl)) rfl
theorem wd_226 : Cond.fieldLink RX8 45 "DonkeyBridge$Moment" "donkey" "LDonkeyBridge$Donkey;" ∈ gw_tbl := gm (wt_1 (List.mem_of_getElem? (i := 150) rfl)) rfl
theorem wd_227 : Cond.fieldLink RX10 107 "DonkeyBridge$Moment" "donkey" "LDonkeyBridge$Donkey;" ∈ gw_tbl := gm (wt_1 (List.mem_of_getElem? (i := 151) rfl)) rfl
theorem wd_228 : Cond.fieldLink RX3 23 "DonkeyBridge$Moment" "acts" "LDonkeyBridge$Strip;" ∈ gw_tbl := gm (wt_1 (List.mem_of_getElem? (i := 152) rfl)) rfl
theorem wd_229 : Cond.fieldLink RX8 66 "DonkeyBridge$Moment" "acts" "LDonkeyBridge$Strip;" ∈ gw_tbl := gm (wt_1 (List.mem_of_getElem? (i := 153) rfl)) rfl
theorem wd_230 : Cond.fieldLink RX10 171 "DonkeyBridge$Moment" "acts" "LDonkeyBridge$Strip;" ∈ gw_tbl := gm (wt_1 (List.mem_of_getElem? (i := 154) rfl)) rfl
theorem wd_231 : Cond.fieldLink RX3 27 "DonkeyBridge$Moment" "seen" "LDonkeyBridge$Strip;" ∈ gw_tbl := gm (wt_1 (List.mem_of_getElem? (i := 155) rfl)) rfl
theorem wd_232 : Cond.fieldLink RX8 94 "DonkeyBridge$Moment" "seen" "LDonkeyBridge$Strip;" ∈ gw_tbl := gm (wt_1 (List.mem_of_getElem? (i := 156) rfl)) rfl
theorem wd_233 : Cond.fieldLink RX10 236 "DonkeyBridge$Moment" "seen" "LDonkeyBridge$Strip;" ∈ gw_tbl := gm (wt_1 (List.mem_of_getElem? (i := 157) rfl)) rfl
theorem wd_234 : Cond.fieldLink RX3 30 "DonkeyBridge$Moment" "beasts" "LDonkeyBridge$Strip;" ∈ gw_tbl := gm (wt_1 (List.mem_of_getElem? (i := 158) rfl)) rfl
theorem wd_235 : Cond.fieldLink RX10 220 "DonkeyBridge$Moment" "beasts" "LDonkeyBridge$Strip;" ∈ gw_tbl := gm (wt_1 (List.mem_of_getElem? (i := 159) rfl)) rfl
theorem wd_236 : Cond.fieldLink RX3 33 "DonkeyBridge$Moment" "odds" "I" ∈ gw_tbl := gm (wt_1 (List.mem_of_getElem? (i := 160) rfl)) rfl
theorem wd_237 : Cond.fieldLink RX10 205 "DonkeyBridge$Moment" "odds" "I" ∈ gw_tbl := gm (wt_1 (List.mem_of_getElem? (i := 161) rfl)) rfl
theorem wd_238 : Cond.fieldLink RX8 154 "DonkeyBridge$Moment" "odds" "I" ∈ gw_tbl := gm (wt_1 (List.mem_of_getElem? (i := 162) rfl)) rfl
theorem wd_239 : Cond.fieldLink RX3 37 "DonkeyBridge$Moment" "held" "I" ∈ gw_tbl := gm (wt_1 (List.mem_of_getElem? (i := 163) rfl)) rfl
theorem wd_240 : Cond.fieldLink RX10 135 "DonkeyBridge$Moment" "held" "I" ∈ gw_tbl := gm (wt_1 (List.mem_of_getElem? (i := 164) rfl)) rfl
theorem wd_254 : Cond.classLink RX10 55 RX8 ∈ gw_tbl := gm (wt_1 (List.mem_of_getElem? (i := 178) rfl)) rfl
theorem wd_256 : Cond.methodLink RX10 57 yX8_init ∈ gw_tbl := gm (wt_1 (List.mem_of_getElem? (i := 180) rfl)) rfl
theorem wd_259 : Cond.methodLink RX8 3 ⟨"java/lang/Object", "<init>", "()V"⟩ ∈ gw_tbl := gm (wt_1 (List.mem_of_getElem? (i := 183) rfl)) rfl
theorem wd_260 : Cond.classLink RX8 9 RX1 ∈ gw_tbl := gm (wt_1 (List.mem_of_getElem? (i := 184) rfl)) rfl
theorem wd_262 : Cond.methodLink RX8 17 yX1_init ∈ gw_tbl := gm (wt_1 (List.mem_of_getElem? (i := 186) rfl)) rfl
theorem wd_263 : Cond.fieldLink RX8 29 "DonkeyBridge$Trial" "walk" "LDonkeyBridge$Walk;" ∈ gw_tbl := gm (wt_1 (List.mem_of_getElem? (i := 187) rfl)) rfl
theorem wd_264 : Cond.fieldLink RX8 33 "DonkeyBridge$Trial" "present" "LDonkeyBridge$Moment;" ∈ gw_tbl := gm (wt_1 (List.mem_of_getElem? (i := 188) rfl)) rfl
theorem wd_265 : Cond.fieldLink RX8 11 "DonkeyBridge$Trial" "stages" "[LDonkeyBridge$Donkey;" ∈ gw_tbl := gm (wt_1 (List.mem_of_getElem? (i := 189) rfl)) rfl
theorem wd_266 : Cond.fieldLink RX8 18 "DonkeyBridge$Trial" "spare" "LDonkeyBridge$Donkey;" ∈ gw_tbl := gm (wt_1 (List.mem_of_getElem? (i := 190) rfl)) rfl
theorem wd_267 : Cond.fieldLink RX8 22 "DonkeyBridge$Trial" "tried" "[I" ∈ gw_tbl := gm (wt_1 (List.mem_of_getElem? (i := 191) rfl)) rfl
theorem wd_268 : Cond.fieldLink RX8 26 "DonkeyBridge$Trial" "best" "[I" ∈ gw_tbl := gm (wt_1 (List.mem_of_getElem? (i := 192) rfl)) rfl
theorem wd_269 : Cond.fieldLink RX8 106 "DonkeyBridge$Trial" "bestSize" "I" ∈ gw_tbl := gm (wt_1 (List.mem_of_getElem? (i := 193) rfl)) rfl
theorem wd_270 : Cond.fieldLink RX8 116 "DonkeyBridge$Trial" "bestLearnt" "I" ∈ gw_tbl := gm (wt_1 (List.mem_of_getElem? (i := 194) rfl)) rfl
theorem wd_271 : Cond.fieldLink RX8 54 "DonkeyBridge$Trial" "goal" "I" ∈ gw_tbl := gm (wt_1 (List.mem_of_getElem? (i := 195) rfl)) rfl
theorem wd_291 : Cond.classLink RX10 64 RX0 ∈ gw_tbl := gm (wt_1 (List.mem_of_getElem? (i := 215) rfl)) rfl
theorem wd_293 : Cond.methodLink RX10 66 yX0_init ∈ gw_tbl := gm (wt_1 (List.mem_of_getElem? (i := 217) rfl)) rfl
theorem wd_296 : Cond.methodLink RX0 3 ⟨"java/lang/Object", "<init>", "()V"⟩ ∈ gw_tbl := gm (wt_1 (List.mem_of_getElem? (i := 220) rfl)) rfl
theorem wd_297 : Cond.classLink RX0 9 RX5 ∈ gw_tbl := gm (wt_1 (List.mem_of_getElem? (i := 221) rfl)) rfl
theorem wd_298 : Cond.methodLink RX0 13 yX5_init ∈ gw_tbl := gm (wt_1 (List.mem_of_getElem? (i := 222) rfl)) rfl
theorem wd_299 : Cond.fieldLink RX0 20 "DonkeyBridge$Bodies" "road" "LDonkeyBridge$Road;" ∈ gw_tbl := gm (wt_1 (List.mem_of_getElem? (i := 223) rfl)) rfl
theorem wd_300 : Cond.fieldLink RX0 16 "DonkeyBridge$Bodies" "numbers" "LDonkeyBridge$Strip;" ∈ gw_tbl := gm (wt_1 (List.mem_of_getElem? (i := 224) rfl)) rfl
theorem wd_301 : Cond.fieldLink RX0 24 "DonkeyBridge$Bodies" "ran" "I" ∈ gw_tbl := gm (wt_1 (List.mem_of_getElem? (i := 225) rfl)) rfl
theorem wd_302 : Cond.fieldLink RX0 44 "DonkeyBridge$Bodies" "kind" "I" ∈ gw_tbl := gm (wt_1 (List.mem_of_getElem? (i := 226) rfl)) rfl
theorem wd_303 : Cond.fieldLink RX0 50 "DonkeyBridge$Bodies" "v" "I" ∈ gw_tbl := gm (wt_1 (List.mem_of_getElem? (i := 227) rfl)) rfl
theorem wd_304 : Cond.fieldLink RX0 53 "DonkeyBridge$Bodies" "number" "I" ∈ gw_tbl := gm (wt_1 (List.mem_of_getElem? (i := 228) rfl)) rfl
theorem wd_318 : Cond.classLink RX10 73 RX6 ∈ gw_tbl := gm (wt_2 (List.mem_of_getElem? (i := 2) rfl)) rfl
theorem wd_324 : Cond.methodLink RX6 3 ⟨"java/lang/Object", "<init>", "()V"⟩ ∈ gw_tbl := gm (wt_2 (List.mem_of_getElem? (i := 8) rfl)) rfl
theorem wd_325 : Cond.fieldLink RX6 9 "DonkeyBridge$Tape" "items" "[J" ∈ gw_tbl := gm (wt_2 (List.mem_of_getElem? (i := 9) rfl)) rfl
theorem wd_326 : Cond.fieldLink RX6 15 "DonkeyBridge$Tape" "sort" "I" ∈ gw_tbl := gm (wt_2 (List.mem_of_getElem? (i := 10) rfl)) rfl
theorem wd_327 : Cond.fieldLink RX6 28 "DonkeyBridge$Tape" "size" "I" ∈ gw_tbl := gm (wt_2 (List.mem_of_getElem? (i := 11) rfl)) rfl
theorem wd_336 : Cond.fieldLink RX10 12 "DonkeyBridge" "road" "LDonkeyBridge$Road;" ∈ gw_tbl := gm (wt_2 (List.mem_of_getElem? (i := 20) rfl)) rfl
theorem wd_337 : Cond.fieldLink RX10 21 "DonkeyBridge" "text" "LDonkeyBridge$Text;" ∈ gw_tbl := gm (wt_2 (List.mem_of_getElem? (i := 21) rfl)) rfl
theorem wd_338 : Cond.fieldLink RX10 27 "DonkeyBridge" "laws" "[LDonkeyBridge$Law;" ∈ gw_tbl := gm (wt_2 (List.mem_of_getElem? (i := 22) rfl)) rfl
theorem wd_339 : Cond.fieldLink RX10 32 "DonkeyBridge" "noLaw" "LDonkeyBridge$Law;" ∈ gw_tbl := gm (wt_2 (List.mem_of_getElem? (i := 23) rfl)) rfl
theorem wd_340 : Cond.fieldLink RX10 124 "DonkeyBridge" "lawCount" "I" ∈ gw_tbl := gm (wt_2 (List.mem_of_getElem? (i := 24) rfl)) rfl
theorem wd_341 : Cond.fieldLink RX10 41 "DonkeyBridge" "walk" "LDonkeyBridge$Walk;" ∈ gw_tbl := gm (wt_2 (List.mem_of_getElem? (i := 25) rfl)) rfl
theorem wd_342 : Cond.fieldLink RX10 60 "DonkeyBridge" "trial" "LDonkeyBridge$Trial;" ∈ gw_tbl := gm (wt_2 (List.mem_of_getElem? (i := 26) rfl)) rfl
theorem wd_343 : Cond.fieldLink RX10 69 "DonkeyBridge" "bodies" "LDonkeyBridge$Bodies;" ∈ gw_tbl := gm (wt_2 (List.mem_of_getElem? (i := 27) rfl)) rfl
theorem wd_344 : Cond.fieldLink RX10 75 "DonkeyBridge" "tapes" "[LDonkeyBridge$Tape;" ∈ gw_tbl := gm (wt_2 (List.mem_of_getElem? (i := 28) rfl)) rfl
theorem wd_345 : Cond.fieldLink RX10 48 "DonkeyBridge" "present" "LDonkeyBridge$Moment;" ∈ gw_tbl := gm (wt_2 (List.mem_of_getElem? (i := 29) rfl)) rfl
theorem wd_346 : Cond.fieldLink RX10 52 "DonkeyBridge" "kept" "LDonkeyBridge$Moment;" ∈ gw_tbl := gm (wt_2 (List.mem_of_getElem? (i := 30) rfl)) rfl
theorem wd_347 : Cond.fieldLink RX10 260 "DonkeyBridge" "imageTaken" "Z" ∈ gw_tbl := gm (wt_2 (List.mem_of_getElem? (i := 31) rfl)) rfl
theorem wd_373 : Cond.methodLink RL 13 yX10_place ∈ gw_tbl := gm (wt_2 (List.mem_of_getElem? (i := 57) rfl)) rfl
theorem wd_377 : Cond.methodLink RX10 80 yX4_size ∈ gw_tbl := gm (wt_2 (List.mem_of_getElem? (i := 61) rfl)) rfl
theorem wd_381 : Cond.methodLink RX10 84 yX4_add ∈ gw_tbl := gm (wt_2 (List.mem_of_getElem? (i := 65) rfl)) rfl
theorem wd_385 : Cond.methodLink RL 18 yX10_of ∈ gw_tbl := gm (wt_2 (List.mem_of_getElem? (i := 69) rfl)) rfl
theorem wd_389 : Cond.methodLink RX10 88 yX4_has ∈ gw_tbl := gm (wt_2 (List.mem_of_getElem? (i := 73) rfl)) rfl
theorem wd_393 : Cond.methodLink RX10 92 yX4_kindOf ∈ gw_tbl := gm (wt_2 (List.mem_of_getElem? (i := 77) rfl)) rfl
theorem wd_397 : Cond.methodLink RX10 96 yX4_numberOf ∈ gw_tbl := gm (wt_2 (List.mem_of_getElem? (i := 81) rfl)) rfl
theorem wd_401 : Cond.methodLink RX10 99 yX4_thingOf ∈ gw_tbl := gm (wt_2 (List.mem_of_getElem? (i := 85) rfl)) rfl
theorem wd_405 : Cond.methodLink RL 23 yX10_set ∈ gw_tbl := gm (wt_2 (List.mem_of_getElem? (i := 89) rfl)) rfl
theorem wd_409 : Cond.methodLink RX10 102 yX1_mostOf ∈ gw_tbl := gm (wt_2 (List.mem_of_getElem? (i := 93) rfl)) rfl
theorem wd_412 : Cond.methodLink RX10 111 yX1_get ∈ gw_tbl := gm (wt_2 (List.mem_of_getElem? (i := 96) rfl)) rfl
theorem wd_416 : Cond.methodLink RX10 114 yX1_put ∈ gw_tbl := gm (wt_2 (List.mem_of_getElem? (i := 100) rfl)) rfl
theorem wd_420 : Cond.methodLink RL 27 yX10_now ∈ gw_tbl := gm (wt_2 (List.mem_of_getElem? (i := 104) rfl)) rfl
theorem wd_424 : Cond.methodLink RX10 118 yX1_tell ∈ gw_tbl := gm (wt_2 (List.mem_of_getElem? (i := 108) rfl)) rfl
theorem wd_428 : Cond.methodLink RX1 24 yX1_learnt ∈ gw_tbl := gm (wt_2 (List.mem_of_getElem? (i := 112) rfl)) rfl
theorem wd_432 : Cond.methodLink RX1 28 yX1_get ∈ gw_tbl := gm (wt_2 (List.mem_of_getElem? (i := 116) rfl)) rfl
theorem wd_433 : Cond.methodLink RL 32 yX10_feed ∈ gw_tbl := gm (wt_2 (List.mem_of_getElem? (i := 117) rfl)) rfl
theorem wd_437 : Cond.methodLink RX10 121 yX7_add ∈ gw_tbl := gm (wt_2 (List.mem_of_getElem? (i := 121) rfl)) rfl
theorem wd_441 : Cond.methodLink RX7 24 yX5_add ∈ gw_tbl := gm (wt_2 (List.mem_of_getElem? (i := 125) rfl)) rfl
theorem wd_445 : Cond.methodLink RX10 123 yX7_size ∈ gw_tbl := gm (wt_2 (List.mem_of_getElem? (i := 129) rfl)) rfl
theorem wd_449 : Cond.methodLink RX7 20 yX5_size ∈ gw_tbl := gm (wt_2 (List.mem_of_getElem? (i := 133) rfl)) rfl
theorem wd_453 : Cond.methodLink RL 36 yX10_law ∈ gw_tbl := gm (wt_2 (List.mem_of_getElem? (i := 137) rfl)) rfl
theorem wd_457 : Cond.methodLink RX10 128 yX7_readLaw ∈ gw_tbl := gm (wt_2 (List.mem_of_getElem? (i := 141) rfl)) rfl
theorem wd_461 : Cond.methodLink RX7 35 yX2_clear ∈ gw_tbl := gm (wt_2 (List.mem_of_getElem? (i := 145) rfl)) rfl
theorem wd_465 : Cond.methodLink RX7 38 yX7_readHead ∈ gw_tbl := gm (wt_2 (List.mem_of_getElem? (i := 149) rfl)) rfl
theorem wd_469 : Cond.methodLink RX7 54 yX7_readWord ∈ gw_tbl := gm (wt_2 (List.mem_of_getElem? (i := 153) rfl)) rfl
theorem wd_473 : Cond.methodLink RX7 64 yX7_wordOf ∈ gw_tbl := gm (wt_2 (List.mem_of_getElem? (i := 157) rfl)) rfl
theorem wd_483 : Cond.methodLink RX7 68 yJ0_length_8abf5 ∈ gw_tbl := gm (wt_2 (List.mem_of_getElem? (i := 167) rfl)) rfl
theorem wd_487 : Cond.methodLink RJ0 335 yJ0_coder_7d493 ∈ gw_tbl := gm (wt_2 (List.mem_of_getElem? (i := 171) rfl)) rfl
theorem wd_491 : Cond.fieldLink RJ0 38 "java/lang/String" "COMPACT_STRINGS" "Z" ∈ gw_tbl := gm (wt_2 (List.mem_of_getElem? (i := 175) rfl)) rfl
theorem wd_493 : Cond.methodLink RX7 50 yX5_get ∈ gw_tbl := gm (wt_2 (List.mem_of_getElem? (i := 177) rfl)) rfl
theorem wd_497 : Cond.methodLink RX7 73 yJ0_charAt_5068e ∈ gw_tbl := gm (wt_2 (List.mem_of_getElem? (i := 181) rfl)) rfl
theorem wd_501 : Cond.methodLink RJ0 492 yJ0_isLatin1_aae02 ∈ gw_tbl := gm (wt_2 (List.mem_of_getElem? (i := 185) rfl)) rfl
theorem wd_505 : Cond.methodLink RJ0 495 yJ1_charAt_3b067 ∈ gw_tbl := gm (wt_2 (List.mem_of_getElem? (i := 189) rfl)) rfl
theorem wd_508 : Cond.methodLink RJ1 9 yJ0_checkIndex_df160 ∈ gw_tbl := gm (wt_2 (List.mem_of_getElem? (i := 192) rfl)) rfl
theorem wd_511 : Cond.fieldLink RJ0 1053 "jdk/internal/util/Preconditions" "SIOOBE_FORMATTER" "Ljava/util/function/BiFunction;" ∈ gw_tbl := gm (wt_2 (List.mem_of_getElem? (i := 195) rfl)) rfl
theorem wd_513 : Cond.methodLink RJ0 1059 yJ3_checkIndex_8e157 ∈ gw_tbl := gm (wt_2 (List.mem_of_getElem? (i := 197) rfl)) rfl
theorem wd_516 : Cond.methodLink RJ0 498 yJ2_charAt_3b067 ∈ gw_tbl := gm (wt_2 (List.mem_of_getElem? (i := 200) rfl)) rfl
theorem wd_535 : Cond.methodLink RX7 77 yJ9_max_7cf53 ∈ gw_tbl := gm (wt_2 (List.mem_of_getElem? (i := 219) rfl)) rfl
theorem wd_536 : Cond.methodLink RX7 42 yX7_next ∈ gw_tbl := gm (wt_2 (List.mem_of_getElem? (i := 220) rfl)) rfl
theorem wd_540 : Cond.methodLink RX7 57 yX7_readNumber ∈ gw_tbl := gm (wt_2 (List.mem_of_getElem? (i := 224) rfl)) rfl
theorem wd_544 : Cond.methodLink RX7 60 yX2_beginClause ∈ gw_tbl := gm (wt_2 (List.mem_of_getElem? (i := 228) rfl)) rfl
theorem wd_548 : Cond.methodLink RX7 46 yX7_readEither ∈ gw_tbl := gm (wt_2 (List.mem_of_getElem? (i := 232) rfl)) rfl
theorem wd_552 : Cond.methodLink RX7 97 yX7_readBoth ∈ gw_tbl := gm (wt_2 (List.mem_of_getElem? (i := 236) rfl)) rfl
theorem wd_556 : Cond.methodLink RX7 103 yX7_readSingle ∈ gw_tbl := gm (wt_3 (List.mem_of_getElem? (i := 0) rfl)) rfl
theorem wd_560 : Cond.methodLink RX7 106 yX7_readTest ∈ gw_tbl := gm (wt_3 (List.mem_of_getElem? (i := 4) rfl)) rfl
theorem wd_565 : Cond.methodLink RX7 112 yX7_placeIn ∈ gw_tbl := gm (wt_3 (List.mem_of_getElem? (i := 9) rfl)) rfl
theorem wd_569 : Cond.methodLink RX7 122 yJ0_indexOf_0f7a4 ∈ gw_tbl := gm (wt_3 (List.mem_of_getElem? (i := 13) rfl)) rfl
theorem wd_573 : Cond.methodLink RJ0 633 yJ0_indexOf_7cf53 ∈ gw_tbl := gm (wt_3 (List.mem_of_getElem? (i := 17) rfl)) rfl
theorem wd_577 : Cond.methodLink RJ0 505 yJ0_length_8abf5 ∈ gw_tbl := gm (wt_3 (List.mem_of_getElem? (i := 21) rfl)) rfl
theorem wd_578 : Cond.methodLink RJ0 637 yJ1_indexOf_4cfef ∈ gw_tbl := gm (wt_3 (List.mem_of_getElem? (i := 22) rfl)) rfl
theorem wd_581 : Cond.methodLink RJ1 88 yJ1_canEncode_9a6ad ∈ gw_tbl := gm (wt_3 (List.mem_of_getElem? (i := 25) rfl)) rfl
theorem wd_584 : Cond.methodLink RJ1 92 yJ9_max_7cf53 ∈ gw_tbl := gm (wt_3 (List.mem_of_getElem? (i := 28) rfl)) rfl
theorem wd_585 : Cond.methodLink RJ1 38 yJ9_min_7cf53 ∈ gw_tbl := gm (wt_3 (List.mem_of_getElem? (i := 29) rfl)) rfl
theorem wd_588 : Cond.methodLink RJ1 95 yJ1_indexOfChar_4cfef ∈ gw_tbl := gm (wt_3 (List.mem_of_getElem? (i := 32) rfl)) rfl
theorem wd_591 : Cond.methodLink RJ0 640 yJ2_indexOf_4cfef ∈ gw_tbl := gm (wt_3 (List.mem_of_getElem? (i := 35) rfl)) rfl
theorem wd_606 : Cond.methodLink RJ0 1062 yJ3_checkFromToIndex_8c36e ∈ gw_tbl := gm (wt_3 (List.mem_of_getElem? (i := 50) rfl)) rfl
theorem wd_627 : Cond.methodLink RX7 118 yX2_codeOf ∈ gw_tbl := gm (wt_3 (List.mem_of_getElem? (i := 71) rfl)) rfl
theorem wd_630 : Cond.methodLink RX7 100 yX2_addCode ∈ gw_tbl := gm (wt_3 (List.mem_of_getElem? (i := 74) rfl)) rfl
theorem wd_634 : Cond.methodLink RX10 132 yX7_clear ∈ gw_tbl := gm (wt_3 (List.mem_of_getElem? (i := 78) rfl)) rfl
theorem wd_638 : Cond.methodLink RX7 28 yX5_clear ∈ gw_tbl := gm (wt_3 (List.mem_of_getElem? (i := 82) rfl)) rfl
theorem wd_642 : Cond.methodLink RX10 138 yX9_obey ∈ gw_tbl := gm (wt_3 (List.mem_of_getElem? (i := 86) rfl)) rfl
theorem wd_647 : Cond.methodLink RL 41 yX10_told ∈ gw_tbl := gm (wt_3 (List.mem_of_getElem? (i := 91) rfl)) rfl
theorem wd_651 : Cond.methodLink RX10 142 yX9_lastOf ∈ gw_tbl := gm (wt_3 (List.mem_of_getElem? (i := 95) rfl)) rfl
theorem wd_655 : Cond.methodLink RX9 41 yX2_last ∈ gw_tbl := gm (wt_3 (List.mem_of_getElem? (i := 99) rfl)) rfl
theorem wd_659 : Cond.methodLink RX10 145 yX10_isOver ∈ gw_tbl := gm (wt_3 (List.mem_of_getElem? (i := 103) rfl)) rfl
theorem wd_663 : Cond.methodLink RX10 297 yX9_isOver ∈ gw_tbl := gm (wt_3 (List.mem_of_getElem? (i := 107) rfl)) rfl
theorem wd_667 : Cond.methodLink RX9 26 yX1_get ∈ gw_tbl := gm (wt_3 (List.mem_of_getElem? (i := 111) rfl)) rfl
theorem wd_668 : Cond.methodLink RX9 32 yX4_has ∈ gw_tbl := gm (wt_3 (List.mem_of_getElem? (i := 112) rfl)) rfl
theorem wd_669 : Cond.methodLink RX10 149 yX9_togetherOf ∈ gw_tbl := gm (wt_3 (List.mem_of_getElem? (i := 113) rfl)) rfl
theorem wd_673 : Cond.methodLink RX9 52 yX9_lookAround ∈ gw_tbl := gm (wt_3 (List.mem_of_getElem? (i := 117) rfl)) rfl
theorem wd_677 : Cond.methodLink RX9 38 yX4_thingOf ∈ gw_tbl := gm (wt_3 (List.mem_of_getElem? (i := 121) rfl)) rfl
theorem wd_678 : Cond.methodLink RX9 60 yJ9_abs_0f7a4 ∈ gw_tbl := gm (wt_3 (List.mem_of_getElem? (i := 122) rfl)) rfl
theorem wd_681 : Cond.methodLink RX9 63 yJ9_min_7cf53 ∈ gw_tbl := gm (wt_3 (List.mem_of_getElem? (i := 125) rfl)) rfl
theorem wd_682 : Cond.methodLink RX9 66 yX4_kindOf ∈ gw_tbl := gm (wt_3 (List.mem_of_getElem? (i := 126) rfl)) rfl
theorem wd_683 : Cond.methodLink RX9 56 yX2_together ∈ gw_tbl := gm (wt_3 (List.mem_of_getElem? (i := 127) rfl)) rfl
theorem wd_687 : Cond.methodLink RX2 31 yX2_isTrue ∈ gw_tbl := gm (wt_3 (List.mem_of_getElem? (i := 131) rfl)) rfl
theorem wd_691 : Cond.methodLink RL 45 yX10_drive ∈ gw_tbl := gm (wt_3 (List.mem_of_getElem? (i := 135) rfl)) rfl
theorem wd_695 : Cond.methodLink RX10 153 yX10_isAct ∈ gw_tbl := gm (wt_3 (List.mem_of_getElem? (i := 139) rfl)) rfl
theorem wd_698 : Cond.constant RX10 156 (-100001) ∈ gw_tbl := gm (wt_3 (List.mem_of_getElem? (i := 142) rfl)) rfl
theorem wd_699 : Cond.constant RX10 157 (-100003) ∈ gw_tbl := gm (wt_3 (List.mem_of_getElem? (i := 143) rfl)) rfl
theorem wd_700 : Cond.methodLink RX10 158 yX9_weigh ∈ gw_tbl := gm (wt_3 (List.mem_of_getElem? (i := 144) rfl)) rfl
theorem wd_704 : Cond.methodLink RX9 69 yX9_fearThatCounts ∈ gw_tbl := gm (wt_3 (List.mem_of_getElem? (i := 148) rfl)) rfl
theorem wd_708 : Cond.methodLink RX9 73 yX4_numberOf ∈ gw_tbl := gm (wt_3 (List.mem_of_getElem? (i := 152) rfl)) rfl
theorem wd_709 : Cond.methodLink RX9 46 yJ9_max_7cf53 ∈ gw_tbl := gm (wt_3 (List.mem_of_getElem? (i := 153) rfl)) rfl
theorem wd_710 : Cond.methodLink RX9 76 yX1_sits ∈ gw_tbl := gm (wt_3 (List.mem_of_getElem? (i := 154) rfl)) rfl
theorem wd_714 : Cond.methodLink RX9 80 yX9_moreBy ∈ gw_tbl := gm (wt_3 (List.mem_of_getElem? (i := 158) rfl)) rfl
theorem wd_718 : Cond.methodLink RL 49 yX10_would ∈ gw_tbl := gm (wt_3 (List.mem_of_getElem? (i := 162) rfl)) rfl
theorem wd_722 : Cond.methodLink RX10 161 yX9_doing ∈ gw_tbl := gm (wt_3 (List.mem_of_getElem? (i := 166) rfl)) rfl
theorem wd_726 : Cond.methodLink RX9 86 yX9_isOver ∈ gw_tbl := gm (wt_3 (List.mem_of_getElem? (i := 170) rfl)) rfl
theorem wd_727 : Cond.methodLink RX9 83 yX9_weigh ∈ gw_tbl := gm (wt_3 (List.mem_of_getElem? (i := 171) rfl)) rfl
theorem wd_728 : Cond.methodLink RX9 90 yX9_doneBy ∈ gw_tbl := gm (wt_3 (List.mem_of_getElem? (i := 172) rfl)) rfl
theorem wd_731 : Cond.methodLink RL 53 yX10_go ∈ gw_tbl := gm (wt_3 (List.mem_of_getElem? (i := 175) rfl)) rfl
theorem wd_735 : Cond.methodLink RX10 164 yX9_halfMinutesOf ∈ gw_tbl := gm (wt_3 (List.mem_of_getElem? (i := 179) rfl)) rfl
theorem wd_739 : Cond.methodLink RX10 167 yX9_step ∈ gw_tbl := gm (wt_3 (List.mem_of_getElem? (i := 183) rfl)) rfl
theorem wd_743 : Cond.methodLink RX9 93 yX1_addTo ∈ gw_tbl := gm (wt_3 (List.mem_of_getElem? (i := 187) rfl)) rfl
theorem wd_747 : Cond.methodLink RX9 97 yX9_leave ∈ gw_tbl := gm (wt_3 (List.mem_of_getElem? (i := 191) rfl)) rfl
theorem wd_750 : Cond.methodLink RX9 111 yX1_put ∈ gw_tbl := gm (wt_3 (List.mem_of_getElem? (i := 194) rfl)) rfl
theorem wd_751 : Cond.methodLink RX9 101 yX9_follow ∈ gw_tbl := gm (wt_3 (List.mem_of_getElem? (i := 195) rfl)) rfl
theorem wd_755 : Cond.methodLink RX9 105 yX9_answer ∈ gw_tbl := gm (wt_3 (List.mem_of_getElem? (i := 199) rfl)) rfl
theorem wd_758 : Cond.methodLink RX9 108 yX9_halfMinutesOf ∈ gw_tbl := gm (wt_3 (List.mem_of_getElem? (i := 202) rfl)) rfl
theorem wd_759 : Cond.methodLink RL 57 yX10_row ∈ gw_tbl := gm (wt_3 (List.mem_of_getElem? (i := 203) rfl)) rfl
theorem wd_763 : Cond.methodLink RX10 175 yX10_addOrClear ∈ gw_tbl := gm (wt_3 (List.mem_of_getElem? (i := 207) rfl)) rfl
theorem wd_766 : Cond.methodLink RX10 300 yX5_clear ∈ gw_tbl := gm (wt_3 (List.mem_of_getElem? (i := 210) rfl)) rfl
theorem wd_767 : Cond.methodLink RX10 301 yX5_add ∈ gw_tbl := gm (wt_3 (List.mem_of_getElem? (i := 211) rfl)) rfl
theorem wd_768 : Cond.methodLink RX10 179 yX5_size ∈ gw_tbl := gm (wt_3 (List.mem_of_getElem? (i := 212) rfl)) rfl
theorem wd_769 : Cond.methodLink RL 61 yX10_hand ∈ gw_tbl := gm (wt_3 (List.mem_of_getElem? (i := 213) rfl)) rfl
theorem wd_773 : Cond.methodLink RX10 182 yX8_byHand ∈ gw_tbl := gm (wt_3 (List.mem_of_getElem? (i := 217) rfl)) rfl
theorem wd_777 : Cond.methodLink RX8 58 yX8_begin ∈ gw_tbl := gm (wt_3 (List.mem_of_getElem? (i := 221) rfl)) rfl
theorem wd_781 : Cond.methodLink RX8 37 yX8_stage ∈ gw_tbl := gm (wt_3 (List.mem_of_getElem? (i := 225) rfl)) rfl
theorem wd_785 : Cond.methodLink RX8 41 yX1_become ∈ gw_tbl := gm (wt_3 (List.mem_of_getElem? (i := 229) rfl)) rfl
theorem wd_789 : Cond.methodLink RX1 32 ⟨"java/lang/System", "arraycopy", "(Ljava/lang/Object;ILjava/lang/Object;II)V"⟩ ∈ gw_tbl := gm (wt_3 (List.mem_of_getElem? (i := 233) rfl)) rfl
theorem wd_792 : Cond.methodLink RX8 50 yX1_get ∈ gw_tbl := gm (wt_3 (List.mem_of_getElem? (i := 236) rfl)) rfl
theorem wd_793 : Cond.methodLink RX8 62 yX8_doRow ∈ gw_tbl := gm (wt_3 (List.mem_of_getElem? (i := 237) rfl)) rfl
theorem wd_797 : Cond.methodLink RX8 70 yX5_size ∈ gw_tbl := gm (wt_4 (List.mem_of_getElem? (i := 1) rfl)) rfl
theorem wd_798 : Cond.methodLink RX8 76 yX5_get ∈ gw_tbl := gm (wt_4 (List.mem_of_getElem? (i := 2) rfl)) rfl
theorem wd_799 : Cond.methodLink RX8 77 yX9_step ∈ gw_tbl := gm (wt_4 (List.mem_of_getElem? (i := 3) rfl)) rfl
theorem wd_800 : Cond.methodLink RL 65 yX10_soonest ∈ gw_tbl := gm (wt_4 (List.mem_of_getElem? (i := 4) rfl)) rfl
theorem wd_804 : Cond.methodLink RX10 186 yX8_findSoonest ∈ gw_tbl := gm (wt_4 (List.mem_of_getElem? (i := 8) rfl)) rfl
theorem wd_808 : Cond.methodLink RX8 109 yX8_trySooner ∈ gw_tbl := gm (wt_4 (List.mem_of_getElem? (i := 12) rfl)) rfl
theorem wd_812 : Cond.methodLink RX8 119 yX8_trySoonerWith ∈ gw_tbl := gm (wt_4 (List.mem_of_getElem? (i := 16) rfl)) rfl
theorem wd_816 : Cond.methodLink RX8 122 yX8_stageAfter ∈ gw_tbl := gm (wt_4 (List.mem_of_getElem? (i := 20) rfl)) rfl
theorem wd_820 : Cond.methodLink RX8 125 yX8_keepTried ∈ gw_tbl := gm (wt_4 (List.mem_of_getElem? (i := 24) rfl)) rfl
theorem wd_824 : Cond.methodLink RX8 138 ⟨"java/lang/System", "arraycopy", "(Ljava/lang/Object;ILjava/lang/Object;II)V"⟩ ∈ gw_tbl := gm (wt_4 (List.mem_of_getElem? (i := 28) rfl)) rfl
theorem wd_825 : Cond.methodLink RX10 189 yX8_found ∈ gw_tbl := gm (wt_4 (List.mem_of_getElem? (i := 29) rfl)) rfl
theorem wd_829 : Cond.methodLink RL 69 yX10_gentlest ∈ gw_tbl := gm (wt_4 (List.mem_of_getElem? (i := 33) rfl)) rfl
theorem wd_833 : Cond.methodLink RX10 192 yX8_findGentlest ∈ gw_tbl := gm (wt_4 (List.mem_of_getElem? (i := 37) rfl)) rfl
theorem wd_837 : Cond.methodLink RX8 113 yX8_tryGentler ∈ gw_tbl := gm (wt_4 (List.mem_of_getElem? (i := 41) rfl)) rfl
theorem wd_841 : Cond.methodLink RX8 128 yX8_keepGentler ∈ gw_tbl := gm (wt_4 (List.mem_of_getElem? (i := 45) rfl)) rfl
theorem wd_845 : Cond.methodLink RX8 135 yX1_learnt ∈ gw_tbl := gm (wt_4 (List.mem_of_getElem? (i := 49) rfl)) rfl
theorem wd_846 : Cond.methodLink RX8 131 yX8_tryGentlerWith ∈ gw_tbl := gm (wt_4 (List.mem_of_getElem? (i := 50) rfl)) rfl
theorem wd_850 : Cond.methodLink RL 73 yX10_why ∈ gw_tbl := gm (wt_4 (List.mem_of_getElem? (i := 54) rfl)) rfl
theorem wd_854 : Cond.methodLink RX10 195 yX9_mostAgainst ∈ gw_tbl := gm (wt_4 (List.mem_of_getElem? (i := 58) rfl)) rfl
theorem wd_858 : Cond.methodLink RL 77 yX10_waits ∈ gw_tbl := gm (wt_4 (List.mem_of_getElem? (i := 62) rfl)) rfl
theorem wd_862 : Cond.methodLink RX10 199 yX8_waiting ∈ gw_tbl := gm (wt_4 (List.mem_of_getElem? (i := 66) rfl)) rfl
theorem wd_866 : Cond.methodLink RL 81 yX10_round ∈ gw_tbl := gm (wt_4 (List.mem_of_getElem? (i := 70) rfl)) rfl
theorem wd_870 : Cond.methodLink RL 85 yX10_shiftLoad ∈ gw_tbl := gm (wt_4 (List.mem_of_getElem? (i := 74) rfl)) rfl
theorem wd_874 : Cond.methodLink RX10 202 yX8_bestShift ∈ gw_tbl := gm (wt_4 (List.mem_of_getElem? (i := 78) rfl)) rfl
theorem wd_878 : Cond.methodLink RX8 87 yX8_hurtWith ∈ gw_tbl := gm (wt_4 (List.mem_of_getElem? (i := 82) rfl)) rfl
theorem wd_882 : Cond.methodLink RX8 83 yX1_put ∈ gw_tbl := gm (wt_4 (List.mem_of_getElem? (i := 86) rfl)) rfl
theorem wd_883 : Cond.methodLink RX8 90 yX9_togetherOf ∈ gw_tbl := gm (wt_4 (List.mem_of_getElem? (i := 87) rfl)) rfl
theorem wd_884 : Cond.methodLink RL 89 yX10_wander ∈ gw_tbl := gm (wt_4 (List.mem_of_getElem? (i := 88) rfl)) rfl
theorem wd_888 : Cond.methodLink RL 93 yX10_sure ∈ gw_tbl := gm (wt_4 (List.mem_of_getElem? (i := 92) rfl)) rfl
theorem wd_892 : Cond.constantLong RX10 208 (-9223372036854775808) ∈ gw_tbl := gm (wt_4 (List.mem_of_getElem? (i := 96) rfl)) rfl
theorem wd_893 : Cond.methodLink RX10 210 yX8_chanceOf ∈ gw_tbl := gm (wt_4 (List.mem_of_getElem? (i := 97) rfl)) rfl
theorem wd_897 : Cond.methodLink RX8 144 yX8_waysFrom ∈ gw_tbl := gm (wt_4 (List.mem_of_getElem? (i := 101) rfl)) rfl
theorem wd_901 : Cond.methodLink RX8 157 yX8_waysWith ∈ gw_tbl := gm (wt_4 (List.mem_of_getElem? (i := 105) rfl)) rfl
theorem wd_905 : Cond.constantLong RX8 148 (10) ∈ gw_tbl := gm (wt_4 (List.mem_of_getElem? (i := 109) rfl)) rfl
theorem wd_906 : Cond.constantLong RX8 150 (2) ∈ gw_tbl := gm (wt_4 (List.mem_of_getElem? (i := 110) rfl)) rfl
theorem wd_907 : Cond.constantLong RX8 152 (5) ∈ gw_tbl := gm (wt_4 (List.mem_of_getElem? (i := 111) rfl)) rfl
theorem wd_908 : Cond.methodLink RL 98 yX10_days ∈ gw_tbl := gm (wt_4 (List.mem_of_getElem? (i := 112) rfl)) rfl
theorem wd_912 : Cond.methodLink RX10 214 yX8_afterDays ∈ gw_tbl := gm (wt_4 (List.mem_of_getElem? (i := 116) rfl)) rfl
theorem wd_916 : Cond.methodLink RX10 217 yX1_learnt ∈ gw_tbl := gm (wt_4 (List.mem_of_getElem? (i := 120) rfl)) rfl
theorem wd_917 : Cond.methodLink RL 102 yX10_beast ∈ gw_tbl := gm (wt_4 (List.mem_of_getElem? (i := 121) rfl)) rfl
theorem wd_921 : Cond.methodLink RL 106 yX10_string ∈ gw_tbl := gm (wt_4 (List.mem_of_getElem? (i := 125) rfl)) rfl
theorem wd_925 : Cond.methodLink RX10 223 yX5_placeOfLeast ∈ gw_tbl := gm (wt_4 (List.mem_of_getElem? (i := 129) rfl)) rfl
theorem wd_929 : Cond.methodLink RX5 23 yX5_get ∈ gw_tbl := gm (wt_4 (List.mem_of_getElem? (i := 133) rfl)) rfl
theorem wd_930 : Cond.methodLink RX10 226 yX9_fearThere ∈ gw_tbl := gm (wt_4 (List.mem_of_getElem? (i := 134) rfl)) rfl
theorem wd_934 : Cond.methodLink RX10 229 yX5_get ∈ gw_tbl := gm (wt_4 (List.mem_of_getElem? (i := 138) rfl)) rfl
theorem wd_935 : Cond.methodLink RX10 230 yJ9_max_7cf53 ∈ gw_tbl := gm (wt_4 (List.mem_of_getElem? (i := 139) rfl)) rfl
theorem wd_936 : Cond.methodLink RL 110 yX10_film ∈ gw_tbl := gm (wt_4 (List.mem_of_getElem? (i := 140) rfl)) rfl
theorem wd_940 : Cond.methodLink RL 114 yX10_off ∈ gw_tbl := gm (wt_4 (List.mem_of_getElem? (i := 144) rfl)) rfl
theorem wd_944 : Cond.methodLink RX10 239 yX8_firstOtherwise ∈ gw_tbl := gm (wt_4 (List.mem_of_getElem? (i := 148) rfl)) rfl
theorem wd_948 : Cond.methodLink RL 118 yX10_judge ∈ gw_tbl := gm (wt_4 (List.mem_of_getElem? (i := 152) rfl)) rfl
theorem wd_952 : Cond.methodLink RX10 242 yX10_tapeOf ∈ gw_tbl := gm (wt_4 (List.mem_of_getElem? (i := 156) rfl)) rfl
theorem wd_956 : Cond.methodLink RX10 246 yX6_holdsSomething ∈ gw_tbl := gm (wt_4 (List.mem_of_getElem? (i := 160) rfl)) rfl
theorem wd_960 : Cond.methodLink RX10 249 yX6_sort ∈ gw_tbl := gm (wt_4 (List.mem_of_getElem? (i := 164) rfl)) rfl
theorem wd_964 : Cond.methodLink RX10 252 yX8_firstMistold ∈ gw_tbl := gm (wt_4 (List.mem_of_getElem? (i := 168) rfl)) rfl
theorem wd_968 : Cond.methodLink RX8 97 yX6_has ∈ gw_tbl := gm (wt_4 (List.mem_of_getElem? (i := 172) rfl)) rfl
theorem wd_972 : Cond.methodLink RX8 103 yX6_get ∈ gw_tbl := gm (wt_4 (List.mem_of_getElem? (i := 176) rfl)) rfl
theorem wd_976 : Cond.methodLink RX6 37 yX6_has ∈ gw_tbl := gm (wt_4 (List.mem_of_getElem? (i := 180) rfl)) rfl
theorem wd_977 : Cond.methodLink RL 122 yX10_image ∈ gw_tbl := gm (wt_4 (List.mem_of_getElem? (i := 181) rfl)) rfl
theorem wd_981 : Cond.methodLink RX10 256 yX3_become ∈ gw_tbl := gm (wt_4 (List.mem_of_getElem? (i := 185) rfl)) rfl
theorem wd_985 : Cond.methodLink RX3 40 yX1_become ∈ gw_tbl := gm (wt_4 (List.mem_of_getElem? (i := 189) rfl)) rfl
theorem wd_986 : Cond.methodLink RX3 44 yX5_become ∈ gw_tbl := gm (wt_4 (List.mem_of_getElem? (i := 190) rfl)) rfl
theorem wd_990 : Cond.methodLink RX5 27 yX5_clear ∈ gw_tbl := gm (wt_4 (List.mem_of_getElem? (i := 194) rfl)) rfl
theorem wd_991 : Cond.methodLink RX5 30 yX5_size ∈ gw_tbl := gm (wt_4 (List.mem_of_getElem? (i := 195) rfl)) rfl
theorem wd_992 : Cond.methodLink RX5 33 yX5_add ∈ gw_tbl := gm (wt_4 (List.mem_of_getElem? (i := 196) rfl)) rfl
theorem wd_993 : Cond.methodLink RL 126 yX10_undo ∈ gw_tbl := gm (wt_4 (List.mem_of_getElem? (i := 197) rfl)) rfl
theorem wd_997 : Cond.methodLink RX10 264 yX10_heldLaw ∈ gw_tbl := gm (wt_4 (List.mem_of_getElem? (i := 201) rfl)) rfl
theorem wd_1001 : Cond.methodLink RL 130 yX10_part ∈ gw_tbl := gm (wt_4 (List.mem_of_getElem? (i := 205) rfl)) rfl
theorem wd_1005 : Cond.methodLink RX10 268 yX0_ask ∈ gw_tbl := gm (wt_4 (List.mem_of_getElem? (i := 209) rfl)) rfl
theorem wd_1009 : Cond.methodLink RX0 32 yX5_clear ∈ gw_tbl := gm (wt_4 (List.mem_of_getElem? (i := 213) rfl)) rfl
theorem wd_1010 : Cond.methodLink RX0 35 yX4_has ∈ gw_tbl := gm (wt_4 (List.mem_of_getElem? (i := 214) rfl)) rfl
theorem wd_1011 : Cond.methodLink RX0 41 yX4_kindOf ∈ gw_tbl := gm (wt_4 (List.mem_of_getElem? (i := 215) rfl)) rfl
theorem wd_1012 : Cond.methodLink RX0 47 yX4_numberOf ∈ gw_tbl := gm (wt_4 (List.mem_of_getElem? (i := 216) rfl)) rfl
theorem wd_1013 : Cond.methodLink RX0 56 yX0_run ∈ gw_tbl := gm (wt_4 (List.mem_of_getElem? (i := 217) rfl)) rfl
theorem wd_1017 : Cond.methodLink RX0 67 yX0_bodyOf ∈ gw_tbl := gm (wt_4 (List.mem_of_getElem? (i := 221) rfl)) rfl
theorem wd_1020 : Cond.fieldLink RX0 60 "DonkeyBridge$Bodies" "BODIES" "[I" ∈ gw_tbl := gm (wt_4 (List.mem_of_getElem? (i := 224) rfl)) rfl
theorem wd_1022 : Cond.methodLink RX0 64 yX4_aboveOf ∈ gw_tbl := gm (wt_4 (List.mem_of_getElem? (i := 226) rfl)) rfl
theorem wd_1025 : Cond.fieldLink RX4 25 "DonkeyBridge$Road" "ABOVE" "[I" ∈ gw_tbl := gm (wt_4 (List.mem_of_getElem? (i := 229) rfl)) rfl
theorem wd_1027 : Cond.methodLink RX0 71 yX5_add ∈ gw_tbl := gm (wt_4 (List.mem_of_getElem? (i := 231) rfl)) rfl
theorem wd_1028 : Cond.methodLink RX0 74 yX0_answer ∈ gw_tbl := gm (wt_4 (List.mem_of_getElem? (i := 232) rfl)) rfl
theorem wd_1032 : Cond.methodLink RL 134 yX10_trace ∈ gw_tbl := gm (wt_4 (List.mem_of_getElem? (i := 236) rfl)) rfl
theorem wd_1036 : Cond.methodLink RX10 271 yX0_kept ∈ gw_tbl := gm (wt_5 (List.mem_of_getElem? (i := 0) rfl)) rfl
theorem wd_1040 : Cond.methodLink RX0 28 yX5_get ∈ gw_tbl := gm (wt_5 (List.mem_of_getElem? (i := 4) rfl)) rfl
theorem wd_1041 : Cond.methodLink RL 138 yX10_taken ∈ gw_tbl := gm (wt_5 (List.mem_of_getElem? (i := 5) rfl)) rfl
theorem wd_1045 : Cond.methodLink RX10 273 yX4_isUnder ∈ gw_tbl := gm (wt_5 (List.mem_of_getElem? (i := 9) rfl)) rfl
theorem wd_1048 : Cond.methodLink RX4 28 yX4_aboveOf ∈ gw_tbl := gm (wt_5 (List.mem_of_getElem? (i := 12) rfl)) rfl
theorem wd_1049 : Cond.methodLink RL 142 yX10_count ∈ gw_tbl := gm (wt_5 (List.mem_of_getElem? (i := 13) rfl)) rfl
theorem wd_1053 : Cond.methodLink RX10 277 yX0_ran ∈ gw_tbl := gm (wt_5 (List.mem_of_getElem? (i := 17) rfl)) rfl
theorem wd_1057 : Cond.methodLink RL 146 yX10_tape ∈ gw_tbl := gm (wt_5 (List.mem_of_getElem? (i := 21) rfl)) rfl
theorem wd_1061 : Cond.methodLink RX10 280 yX6_renew ∈ gw_tbl := gm (wt_5 (List.mem_of_getElem? (i := 25) rfl)) rfl
theorem wd_1065 : Cond.methodLink RX6 19 yJ9_min_7cf53 ∈ gw_tbl := gm (wt_5 (List.mem_of_getElem? (i := 29) rfl)) rfl
theorem wd_1066 : Cond.methodLink RX6 25 yJ9_max_7cf53 ∈ gw_tbl := gm (wt_5 (List.mem_of_getElem? (i := 30) rfl)) rfl
theorem wd_1067 : Cond.methodLink RX6 31 yJ7_fill_d0a16 ∈ gw_tbl := gm (wt_5 (List.mem_of_getElem? (i := 31) rfl)) rfl
theorem wd_1070 : Cond.methodLink RL 152 yX10_item ∈ gw_tbl := gm (wt_5 (List.mem_of_getElem? (i := 34) rfl)) rfl
theorem wd_1074 : Cond.methodLink RX10 283 yX6_has ∈ gw_tbl := gm (wt_5 (List.mem_of_getElem? (i := 38) rfl)) rfl
theorem wd_1075 : Cond.methodLink RX10 284 yX6_put ∈ gw_tbl := gm (wt_5 (List.mem_of_getElem? (i := 39) rfl)) rfl
theorem wd_1079 : Cond.methodLink RX6 41 yX6_cut ∈ gw_tbl := gm (wt_5 (List.mem_of_getElem? (i := 43) rfl)) rfl
theorem wd_1083 : Cond.methodLink RL 157 yX10_read ∈ gw_tbl := gm (wt_5 (List.mem_of_getElem? (i := 47) rfl)) rfl
theorem wd_1087 : Cond.methodLink RX10 287 yX6_get ∈ gw_tbl := gm (wt_5 (List.mem_of_getElem? (i := 51) rfl)) rfl
theorem wd_1088 : Cond.methodLink RL 161 yX10_shift ∈ gw_tbl := gm (wt_5 (List.mem_of_getElem? (i := 52) rfl)) rfl
theorem wd_1092 : Cond.methodLink RX10 290 yX6_spans ∈ gw_tbl := gm (wt_5 (List.mem_of_getElem? (i := 56) rfl)) rfl
theorem wd_1096 : Cond.methodLink RX10 293 yX6_copyIn ∈ gw_tbl := gm (wt_5 (List.mem_of_getElem? (i := 60) rfl)) rfl
theorem wd_1100 : Cond.methodLink RX6 45 yX6_spans ∈ gw_tbl := gm (wt_5 (List.mem_of_getElem? (i := 64) rfl)) rfl
theorem wd_1101 : Cond.methodLink RX6 49 ⟨"java/lang/System", "arraycopy", "(Ljava/lang/Object;ILjava/lang/Object;II)V"⟩ ∈ gw_tbl := gm (wt_5 (List.mem_of_getElem? (i := 65) rfl)) rfl
theorem wd_1102 : Cond.classLink RL 10 RX11 ∈ gw_tbl := gm (wt_5 (List.mem_of_getElem? (i := 66) rfl)) rfl
theorem wd_1104 : Cond.methodLink RL 12 yX11_init ∈ gw_tbl := gm (wt_5 (List.mem_of_getElem? (i := 68) rfl)) rfl
theorem wd_1107 : Cond.methodLink RX11 3 ⟨"java/lang/Object", "<init>", "()V"⟩ ∈ gw_tbl := gm (wt_5 (List.mem_of_getElem? (i := 71) rfl)) rfl
theorem wd_1108 : Cond.fieldLink RX11 109 "DonkeyBridgeModel" "places" "I" ∈ gw_tbl := gm (wt_5 (List.mem_of_getElem? (i := 72) rfl)) rfl
theorem wd_1109 : Cond.fieldLink RX11 9 "DonkeyBridgeModel" "kind" "[I" ∈ gw_tbl := gm (wt_5 (List.mem_of_getElem? (i := 73) rfl)) rfl
theorem wd_1110 : Cond.fieldLink RX11 15 "DonkeyBridgeModel" "number" "[I" ∈ gw_tbl := gm (wt_5 (List.mem_of_getElem? (i := 74) rfl)) rfl
theorem wd_1111 : Cond.fieldLink RX11 18 "DonkeyBridgeModel" "thing" "[I" ∈ gw_tbl := gm (wt_5 (List.mem_of_getElem? (i := 75) rfl)) rfl
theorem wd_1112 : Cond.fieldLink RX11 21 "DonkeyBridgeModel" "is" "[I" ∈ gw_tbl := gm (wt_5 (List.mem_of_getElem? (i := 76) rfl)) rfl
theorem wd_1113 : Cond.fieldLink RX11 24 "DonkeyBridgeModel" "tape" "[B" ∈ gw_tbl := gm (wt_5 (List.mem_of_getElem? (i := 77) rfl)) rfl
theorem wd_1114 : Cond.fieldLink RX11 131 "DonkeyBridgeModel" "taped" "I" ∈ gw_tbl := gm (wt_5 (List.mem_of_getElem? (i := 78) rfl)) rfl
theorem wd_1115 : Cond.fieldLink RX11 150 "DonkeyBridgeModel" "laws" "I" ∈ gw_tbl := gm (wt_5 (List.mem_of_getElem? (i := 79) rfl)) rfl
theorem wd_1116 : Cond.fieldLink RX11 28 "DonkeyBridgeModel" "holds" "I" ∈ gw_tbl := gm (wt_5 (List.mem_of_getElem? (i := 80) rfl)) rfl
theorem wd_1117 : Cond.fieldLink RX11 32 "DonkeyBridgeModel" "clauseMany" "[I" ∈ gw_tbl := gm (wt_5 (List.mem_of_getElem? (i := 81) rfl)) rfl
theorem wd_1118 : Cond.fieldLink RX11 35 "DonkeyBridgeModel" "clauseIs" "[I" ∈ gw_tbl := gm (wt_5 (List.mem_of_getElem? (i := 82) rfl)) rfl
theorem wd_1119 : Cond.fieldLink RX11 38 "DonkeyBridgeModel" "clauseN" "[I" ∈ gw_tbl := gm (wt_5 (List.mem_of_getElem? (i := 83) rfl)) rfl
theorem wd_1120 : Cond.fieldLink RX11 41 "DonkeyBridgeModel" "clauseFrom" "[I" ∈ gw_tbl := gm (wt_5 (List.mem_of_getElem? (i := 84) rfl)) rfl
theorem wd_1121 : Cond.fieldLink RX11 44 "DonkeyBridgeModel" "clauseTo" "[I" ∈ gw_tbl := gm (wt_5 (List.mem_of_getElem? (i := 85) rfl)) rfl
theorem wd_1122 : Cond.fieldLink RX11 47 "DonkeyBridgeModel" "step" "[I" ∈ gw_tbl := gm (wt_5 (List.mem_of_getElem? (i := 86) rfl)) rfl
theorem wd_1123 : Cond.fieldLink RX11 50 "DonkeyBridgeModel" "letter" "[I" ∈ gw_tbl := gm (wt_5 (List.mem_of_getElem? (i := 87) rfl)) rfl
theorem wd_1124 : Cond.fieldLink RX11 53 "DonkeyBridgeModel" "sign" "[I" ∈ gw_tbl := gm (wt_5 (List.mem_of_getElem? (i := 88) rfl)) rfl
theorem wd_1125 : Cond.fieldLink RX11 56 "DonkeyBridgeModel" "value" "[I" ∈ gw_tbl := gm (wt_5 (List.mem_of_getElem? (i := 89) rfl)) rfl
theorem wd_1126 : Cond.fieldLink RX11 137 "DonkeyBridgeModel" "here" "I" ∈ gw_tbl := gm (wt_5 (List.mem_of_getElem? (i := 90) rfl)) rfl
theorem wd_1127 : Cond.fieldLink RX11 134 "DonkeyBridgeModel" "fault" "I" ∈ gw_tbl := gm (wt_5 (List.mem_of_getElem? (i := 91) rfl)) rfl
theorem wd_1128 : Cond.fieldLink RX11 153 "DonkeyBridgeModel" "laid" "I" ∈ gw_tbl := gm (wt_5 (List.mem_of_getElem? (i := 92) rfl)) rfl
theorem wd_1129 : Cond.fieldLink RX11 59 "DonkeyBridgeModel" "words" "[I" ∈ gw_tbl := gm (wt_5 (List.mem_of_getElem? (i := 93) rfl)) rfl
theorem wd_1130 : Cond.fieldLink RX11 62 "DonkeyBridgeModel" "pile" "[Z" ∈ gw_tbl := gm (wt_5 (List.mem_of_getElem? (i := 94) rfl)) rfl
theorem wd_1131 : Cond.fieldLink RX11 212 "DonkeyBridgeModel" "moreLead" "I" ∈ gw_tbl := gm (wt_5 (List.mem_of_getElem? (i := 95) rfl)) rfl
theorem wd_1132 : Cond.fieldLink RX11 218 "DonkeyBridgeModel" "wandered" "I" ∈ gw_tbl := gm (wt_5 (List.mem_of_getElem? (i := 96) rfl)) rfl
theorem wd_1133 : Cond.fieldLink RX11 246 "DonkeyBridgeModel" "rowMany" "I" ∈ gw_tbl := gm (wt_5 (List.mem_of_getElem? (i := 97) rfl)) rfl
theorem wd_1134 : Cond.fieldLink RX11 66 "DonkeyBridgeModel" "row" "[I" ∈ gw_tbl := gm (wt_5 (List.mem_of_getElem? (i := 98) rfl)) rfl
theorem wd_1135 : Cond.fieldLink RX11 69 "DonkeyBridgeModel" "was" "[I" ∈ gw_tbl := gm (wt_5 (List.mem_of_getElem? (i := 99) rfl)) rfl
theorem wd_1136 : Cond.fieldLink RX11 259 "DonkeyBridgeModel" "learntThen" "I" ∈ gw_tbl := gm (wt_5 (List.mem_of_getElem? (i := 100) rfl)) rfl
theorem wd_1137 : Cond.fieldLink RX11 271 "DonkeyBridgeModel" "odds" "I" ∈ gw_tbl := gm (wt_5 (List.mem_of_getElem? (i := 101) rfl)) rfl
theorem wd_1138 : Cond.fieldLink RX11 282 "DonkeyBridgeModel" "beasts" "I" ∈ gw_tbl := gm (wt_5 (List.mem_of_getElem? (i := 102) rfl)) rfl
theorem wd_1139 : Cond.fieldLink RX11 72 "DonkeyBridgeModel" "beastFear" "[I" ∈ gw_tbl := gm (wt_5 (List.mem_of_getElem? (i := 103) rfl)) rfl
theorem wd_1140 : Cond.fieldLink RX11 285 "DonkeyBridgeModel" "filmed" "I" ∈ gw_tbl := gm (wt_5 (List.mem_of_getElem? (i := 104) rfl)) rfl
theorem wd_1141 : Cond.fieldLink RX11 75 "DonkeyBridgeModel" "film" "[I" ∈ gw_tbl := gm (wt_5 (List.mem_of_getElem? (i := 105) rfl)) rfl
theorem wd_1142 : Cond.fieldLink RX11 78 "DonkeyBridgeModel" "tapeSort" "[I" ∈ gw_tbl := gm (wt_5 (List.mem_of_getElem? (i := 106) rfl)) rfl
theorem wd_1143 : Cond.fieldLink RX11 81 "DonkeyBridgeModel" "tapeSize" "[I" ∈ gw_tbl := gm (wt_5 (List.mem_of_getElem? (i := 107) rfl)) rfl
theorem wd_1144 : Cond.fieldLink RX11 84 "DonkeyBridgeModel" "items" "[J" ∈ gw_tbl := gm (wt_5 (List.mem_of_getElem? (i := 108) rfl)) rfl
theorem wd_1145 : Cond.fieldLink RX11 88 "DonkeyBridgeModel" "moving" "[J" ∈ gw_tbl := gm (wt_5 (List.mem_of_getElem? (i := 109) rfl)) rfl
theorem wd_1146 : Cond.fieldLink RX11 291 "DonkeyBridgeModel" "hasImage" "Z" ∈ gw_tbl := gm (wt_5 (List.mem_of_getElem? (i := 110) rfl)) rfl
theorem wd_1147 : Cond.fieldLink RX11 295 "DonkeyBridgeModel" "keptHolds" "I" ∈ gw_tbl := gm (wt_5 (List.mem_of_getElem? (i := 111) rfl)) rfl
theorem wd_1148 : Cond.fieldLink RX11 298 "DonkeyBridgeModel" "keptOdds" "I" ∈ gw_tbl := gm (wt_5 (List.mem_of_getElem? (i := 112) rfl)) rfl
theorem wd_1149 : Cond.fieldLink RX11 301 "DonkeyBridgeModel" "keptRows" "I" ∈ gw_tbl := gm (wt_5 (List.mem_of_getElem? (i := 113) rfl)) rfl
theorem wd_1150 : Cond.fieldLink RX11 304 "DonkeyBridgeModel" "keptFilmed" "I" ∈ gw_tbl := gm (wt_5 (List.mem_of_getElem? (i := 114) rfl)) rfl
theorem wd_1151 : Cond.fieldLink RX11 307 "DonkeyBridgeModel" "keptBeasts" "I" ∈ gw_tbl := gm (wt_5 (List.mem_of_getElem? (i := 115) rfl)) rfl
theorem wd_1152 : Cond.fieldLink RX11 91 "DonkeyBridgeModel" "keptIs" "[I" ∈ gw_tbl := gm (wt_5 (List.mem_of_getElem? (i := 116) rfl)) rfl
theorem wd_1153 : Cond.fieldLink RX11 94 "DonkeyBridgeModel" "keptRow" "[I" ∈ gw_tbl := gm (wt_5 (List.mem_of_getElem? (i := 117) rfl)) rfl
theorem wd_1154 : Cond.fieldLink RX11 97 "DonkeyBridgeModel" "keptFilm" "[I" ∈ gw_tbl := gm (wt_5 (List.mem_of_getElem? (i := 118) rfl)) rfl
theorem wd_1155 : Cond.fieldLink RX11 100 "DonkeyBridgeModel" "keptFear" "[I" ∈ gw_tbl := gm (wt_5 (List.mem_of_getElem? (i := 119) rfl)) rfl
theorem wd_1156 : Cond.fieldLink RX11 310 "DonkeyBridgeModel" "traces" "I" ∈ gw_tbl := gm (wt_5 (List.mem_of_getElem? (i := 120) rfl)) rfl
theorem wd_1157 : Cond.fieldLink RX11 103 "DonkeyBridgeModel" "traced" "[I" ∈ gw_tbl := gm (wt_5 (List.mem_of_getElem? (i := 121) rfl)) rfl
theorem wd_1262 : Cond.methodLink RL 17 yX11_place ∈ gw_tbl := gm (wt_5 (List.mem_of_getElem? (i := 226) rfl)) rfl
theorem wd_1266 : Cond.methodLink RX11 112 yX11_in ∈ gw_tbl := gm (wt_5 (List.mem_of_getElem? (i := 230) rfl)) rfl
theorem wd_1269 : Cond.methodLink RL 22 yX11_of ∈ gw_tbl := gm (wt_5 (List.mem_of_getElem? (i := 233) rfl)) rfl
theorem wd_1273 : Cond.methodLink RX11 116 yX11_isPlace ∈ gw_tbl := gm (wt_5 (List.mem_of_getElem? (i := 237) rfl)) rfl
theorem wd_1277 : Cond.methodLink RL 26 yX11_set ∈ gw_tbl := gm (wt_6 (List.mem_of_getElem? (i := 1) rfl)) rfl
theorem wd_1281 : Cond.methodLink RX11 120 yX11_mostOf ∈ gw_tbl := gm (wt_6 (List.mem_of_getElem? (i := 5) rfl)) rfl
theorem wd_1285 : Cond.methodLink RL 31 yX11_now ∈ gw_tbl := gm (wt_6 (List.mem_of_getElem? (i := 9) rfl)) rfl
theorem wd_1289 : Cond.methodLink RX11 128 yX11_nowOf ∈ gw_tbl := gm (wt_6 (List.mem_of_getElem? (i := 13) rfl)) rfl
theorem wd_1293 : Cond.methodLink RX11 124 yX11_learnt ∈ gw_tbl := gm (wt_6 (List.mem_of_getElem? (i := 17) rfl)) rfl
theorem wd_1297 : Cond.methodLink RL 35 yX11_feed ∈ gw_tbl := gm (wt_6 (List.mem_of_getElem? (i := 21) rfl)) rfl
theorem wd_1301 : Cond.methodLink RL 40 yX11_law ∈ gw_tbl := gm (wt_6 (List.mem_of_getElem? (i := 25) rfl)) rfl
theorem wd_1305 : Cond.methodLink RX11 181 yX11_clause ∈ gw_tbl := gm (wt_6 (List.mem_of_getElem? (i := 29) rfl)) rfl
theorem wd_1309 : Cond.methodLink RX11 178 yX11_readWord ∈ gw_tbl := gm (wt_6 (List.mem_of_getElem? (i := 33) rfl)) rfl
theorem wd_1313 : Cond.methodLink RX11 143 yX11_faulty ∈ gw_tbl := gm (wt_6 (List.mem_of_getElem? (i := 37) rfl)) rfl
theorem wd_1317 : Cond.methodLink RX11 175 yX11_readNumber ∈ gw_tbl := gm (wt_6 (List.mem_of_getElem? (i := 41) rfl)) rfl
theorem wd_1321 : Cond.methodLink RX11 146 yX11_isDigit ∈ gw_tbl := gm (wt_6 (List.mem_of_getElem? (i := 45) rfl)) rfl
theorem wd_1325 : Cond.methodLink RX11 169 yX11_takes ∈ gw_tbl := gm (wt_6 (List.mem_of_getElem? (i := 49) rfl)) rfl
theorem wd_1329 : Cond.methodLink RX11 140 yX11_isHere ∈ gw_tbl := gm (wt_6 (List.mem_of_getElem? (i := 53) rfl)) rfl
theorem wd_1333 : Cond.methodLink RX11 160 yX11_either ∈ gw_tbl := gm (wt_6 (List.mem_of_getElem? (i := 57) rfl)) rfl
theorem wd_1337 : Cond.methodLink RX11 156 yX11_both ∈ gw_tbl := gm (wt_6 (List.mem_of_getElem? (i := 61) rfl)) rfl
theorem wd_1341 : Cond.methodLink RX11 166 yX11_one ∈ gw_tbl := gm (wt_6 (List.mem_of_getElem? (i := 65) rfl)) rfl
theorem wd_1345 : Cond.methodLink RX11 163 yX11_lay ∈ gw_tbl := gm (wt_6 (List.mem_of_getElem? (i := 69) rfl)) rfl
theorem wd_1349 : Cond.methodLink RX11 172 yX11_isLetter ∈ gw_tbl := gm (wt_6 (List.mem_of_getElem? (i := 73) rfl)) rfl
theorem wd_1353 : Cond.methodLink RL 44 yX11_told ∈ gw_tbl := gm (wt_6 (List.mem_of_getElem? (i := 77) rfl)) rfl
theorem wd_1357 : Cond.methodLink RX11 200 yX11_lastOf ∈ gw_tbl := gm (wt_6 (List.mem_of_getElem? (i := 81) rfl)) rfl
theorem wd_1361 : Cond.methodLink RX11 203 yX11_isOver ∈ gw_tbl := gm (wt_6 (List.mem_of_getElem? (i := 85) rfl)) rfl
theorem wd_1365 : Cond.methodLink RX11 206 yX11_sumOf ∈ gw_tbl := gm (wt_6 (List.mem_of_getElem? (i := 89) rfl)) rfl
theorem wd_1369 : Cond.methodLink RX11 197 yX11_isSo ∈ gw_tbl := gm (wt_6 (List.mem_of_getElem? (i := 93) rfl)) rfl
theorem wd_1373 : Cond.methodLink RX11 191 yX11_factOf ∈ gw_tbl := gm (wt_6 (List.mem_of_getElem? (i := 97) rfl)) rfl
theorem wd_1377 : Cond.methodLink RX11 184 yX11_sizeOf ∈ gw_tbl := gm (wt_6 (List.mem_of_getElem? (i := 101) rfl)) rfl
theorem wd_1380 : Cond.methodLink RX11 187 yX11_held ∈ gw_tbl := gm (wt_6 (List.mem_of_getElem? (i := 104) rfl)) rfl
theorem wd_1383 : Cond.methodLink RX11 194 yX11_test ∈ gw_tbl := gm (wt_6 (List.mem_of_getElem? (i := 107) rfl)) rfl
theorem wd_1386 : Cond.methodLink RL 48 yX11_drive ∈ gw_tbl := gm (wt_6 (List.mem_of_getElem? (i := 110) rfl)) rfl
theorem wd_1390 : Cond.methodLink RX11 221 yX11_isAct ∈ gw_tbl := gm (wt_6 (List.mem_of_getElem? (i := 114) rfl)) rfl
theorem wd_1393 : Cond.constant RX11 224 (-100001) ∈ gw_tbl := gm (wt_6 (List.mem_of_getElem? (i := 117) rfl)) rfl
theorem wd_1394 : Cond.constant RX11 225 (-100003) ∈ gw_tbl := gm (wt_6 (List.mem_of_getElem? (i := 118) rfl)) rfl
theorem wd_1395 : Cond.methodLink RX11 226 yX11_driveBy ∈ gw_tbl := gm (wt_6 (List.mem_of_getElem? (i := 119) rfl)) rfl
theorem wd_1399 : Cond.methodLink RX11 215 yX11_lessBy ∈ gw_tbl := gm (wt_6 (List.mem_of_getElem? (i := 123) rfl)) rfl
theorem wd_1403 : Cond.methodLink RX11 209 yX11_fearAs ∈ gw_tbl := gm (wt_6 (List.mem_of_getElem? (i := 127) rfl)) rfl
theorem wd_1407 : Cond.methodLink RL 52 yX11_would ∈ gw_tbl := gm (wt_6 (List.mem_of_getElem? (i := 131) rfl)) rfl
theorem wd_1411 : Cond.methodLink RX11 229 yX11_wouldBy ∈ gw_tbl := gm (wt_6 (List.mem_of_getElem? (i := 135) rfl)) rfl
theorem wd_1415 : Cond.methodLink RL 56 yX11_go ∈ gw_tbl := gm (wt_6 (List.mem_of_getElem? (i := 139) rfl)) rfl
theorem wd_1419 : Cond.methodLink RX11 232 yX11_fordHalves ∈ gw_tbl := gm (wt_6 (List.mem_of_getElem? (i := 143) rfl)) rfl
theorem wd_1423 : Cond.methodLink RX11 243 yX11_does ∈ gw_tbl := gm (wt_6 (List.mem_of_getElem? (i := 147) rfl)) rfl
theorem wd_1427 : Cond.methodLink RX11 235 yX11_more ∈ gw_tbl := gm (wt_6 (List.mem_of_getElem? (i := 151) rfl)) rfl
theorem wd_1431 : Cond.methodLink RX11 239 yX11_driven ∈ gw_tbl := gm (wt_6 (List.mem_of_getElem? (i := 155) rfl)) rfl
theorem wd_1435 : Cond.methodLink RL 60 yX11_row ∈ gw_tbl := gm (wt_6 (List.mem_of_getElem? (i := 159) rfl)) rfl
theorem wd_1439 : Cond.methodLink RL 64 yX11_hand ∈ gw_tbl := gm (wt_6 (List.mem_of_getElem? (i := 163) rfl)) rfl
theorem wd_1443 : Cond.methodLink RX11 249 yX11_keepNow ∈ gw_tbl := gm (wt_6 (List.mem_of_getElem? (i := 167) rfl)) rfl
theorem wd_1447 : Cond.methodLink RX11 252 yX11_layBack ∈ gw_tbl := gm (wt_6 (List.mem_of_getElem? (i := 171) rfl)) rfl
theorem wd_1451 : Cond.methodLink RL 68 yX11_soonest ∈ gw_tbl := gm (wt_6 (List.mem_of_getElem? (i := 175) rfl)) rfl
theorem wd_1455 : Cond.methodLink RX11 262 yX11_rowsOf ∈ gw_tbl := gm (wt_6 (List.mem_of_getElem? (i := 179) rfl)) rfl
theorem wd_1458 : Cond.methodLink RX11 265 yX11_atBehind ∈ gw_tbl := gm (wt_6 (List.mem_of_getElem? (i := 182) rfl)) rfl
theorem wd_1462 : Cond.methodLink RX11 255 yX11_actOf ∈ gw_tbl := gm (wt_6 (List.mem_of_getElem? (i := 186) rfl)) rfl
theorem wd_1465 : Cond.methodLink RL 72 yX11_gentlest ∈ gw_tbl := gm (wt_6 (List.mem_of_getElem? (i := 189) rfl)) rfl
theorem wd_1469 : Cond.methodLink RL 76 yX11_why ∈ gw_tbl := gm (wt_6 (List.mem_of_getElem? (i := 193) rfl)) rfl
theorem wd_1473 : Cond.methodLink RL 80 yX11_waits ∈ gw_tbl := gm (wt_6 (List.mem_of_getElem? (i := 197) rfl)) rfl
theorem wd_1477 : Cond.methodLink RX11 268 yX11_waitsFor ∈ gw_tbl := gm (wt_6 (List.mem_of_getElem? (i := 201) rfl)) rfl
theorem wd_1481 : Cond.methodLink RL 84 yX11_round ∈ gw_tbl := gm (wt_6 (List.mem_of_getElem? (i := 205) rfl)) rfl
theorem wd_1485 : Cond.methodLink RL 88 yX11_shiftLoad ∈ gw_tbl := gm (wt_6 (List.mem_of_getElem? (i := 209) rfl)) rfl
theorem wd_1489 : Cond.methodLink RL 92 yX11_wander ∈ gw_tbl := gm (wt_6 (List.mem_of_getElem? (i := 213) rfl)) rfl
theorem wd_1493 : Cond.methodLink RL 97 yX11_sure ∈ gw_tbl := gm (wt_6 (List.mem_of_getElem? (i := 217) rfl)) rfl
theorem wd_1497 : Cond.constantLong RX11 274 (-9223372036854775808) ∈ gw_tbl := gm (wt_6 (List.mem_of_getElem? (i := 221) rfl)) rfl
theorem wd_1498 : Cond.constantLong RX11 276 (10) ∈ gw_tbl := gm (wt_6 (List.mem_of_getElem? (i := 222) rfl)) rfl
theorem wd_1499 : Cond.methodLink RX11 278 yX11_lowest ∈ gw_tbl := gm (wt_6 (List.mem_of_getElem? (i := 223) rfl)) rfl
theorem wd_1502 : Cond.methodLink RL 101 yX11_days ∈ gw_tbl := gm (wt_6 (List.mem_of_getElem? (i := 226) rfl)) rfl
theorem wd_1506 : Cond.methodLink RL 105 yX11_beast ∈ gw_tbl := gm (wt_6 (List.mem_of_getElem? (i := 230) rfl)) rfl
theorem wd_1510 : Cond.methodLink RL 109 yX11_string ∈ gw_tbl := gm (wt_6 (List.mem_of_getElem? (i := 234) rfl)) rfl
theorem wd_1514 : Cond.methodLink RL 113 yX11_film ∈ gw_tbl := gm (wt_6 (List.mem_of_getElem? (i := 238) rfl)) rfl
theorem wd_1518 : Cond.methodLink RL 117 yX11_off ∈ gw_tbl := gm (wt_7 (List.mem_of_getElem? (i := 2) rfl)) rfl
theorem wd_1522 : Cond.methodLink RL 121 yX11_judge ∈ gw_tbl := gm (wt_7 (List.mem_of_getElem? (i := 6) rfl)) rfl
theorem wd_1526 : Cond.methodLink RX11 288 yX11_isTape ∈ gw_tbl := gm (wt_7 (List.mem_of_getElem? (i := 10) rfl)) rfl
theorem wd_1529 : Cond.methodLink RL 125 yX11_image ∈ gw_tbl := gm (wt_7 (List.mem_of_getElem? (i := 13) rfl)) rfl
theorem wd_1533 : Cond.methodLink RL 129 yX11_undo ∈ gw_tbl := gm (wt_7 (List.mem_of_getElem? (i := 17) rfl)) rfl
theorem wd_1537 : Cond.methodLink RL 133 yX11_part ∈ gw_tbl := gm (wt_7 (List.mem_of_getElem? (i := 21) rfl)) rfl
theorem wd_1541 : Cond.methodLink RX11 319 yX11_holding ∈ gw_tbl := gm (wt_7 (List.mem_of_getElem? (i := 25) rfl)) rfl
theorem wd_1545 : Cond.methodLink RX11 313 yX11_ran ∈ gw_tbl := gm (wt_7 (List.mem_of_getElem? (i := 29) rfl)) rfl
theorem wd_1549 : Cond.methodLink RX11 316 yX11_plainHolds ∈ gw_tbl := gm (wt_7 (List.mem_of_getElem? (i := 33) rfl)) rfl
theorem wd_1553 : Cond.methodLink RX11 331 yX11_chooses ∈ gw_tbl := gm (wt_7 (List.mem_of_getElem? (i := 37) rfl)) rfl
theorem wd_1557 : Cond.methodLink RX11 325 yX11_fearedChooses ∈ gw_tbl := gm (wt_7 (List.mem_of_getElem? (i := 41) rfl)) rfl
theorem wd_1561 : Cond.methodLink RX11 322 yX11_plainChooses ∈ gw_tbl := gm (wt_7 (List.mem_of_getElem? (i := 45) rfl)) rfl
theorem wd_1565 : Cond.methodLink RX11 328 yX11_calledChooses ∈ gw_tbl := gm (wt_7 (List.mem_of_getElem? (i := 49) rfl)) rfl
theorem wd_1569 : Cond.methodLink RX11 340 yX11_telling ∈ gw_tbl := gm (wt_7 (List.mem_of_getElem? (i := 53) rfl)) rfl
theorem wd_1573 : Cond.methodLink RX11 334 yX11_plainTells ∈ gw_tbl := gm (wt_7 (List.mem_of_getElem? (i := 57) rfl)) rfl
theorem wd_1577 : Cond.methodLink RX11 337 yX11_spoiltTells ∈ gw_tbl := gm (wt_7 (List.mem_of_getElem? (i := 61) rfl)) rfl
theorem wd_1581 : Cond.methodLink RL 137 yX11_trace ∈ gw_tbl := gm (wt_7 (List.mem_of_getElem? (i := 65) rfl)) rfl
theorem wd_1585 : Cond.methodLink RL 141 yX11_taken ∈ gw_tbl := gm (wt_7 (List.mem_of_getElem? (i := 69) rfl)) rfl
theorem wd_1589 : Cond.methodLink RX11 343 yX11_isUnder ∈ gw_tbl := gm (wt_7 (List.mem_of_getElem? (i := 73) rfl)) rfl
theorem wd_1592 : Cond.methodLink RL 145 yX11_count ∈ gw_tbl := gm (wt_7 (List.mem_of_getElem? (i := 76) rfl)) rfl
theorem wd_1596 : Cond.methodLink RL 149 yX11_tape ∈ gw_tbl := gm (wt_7 (List.mem_of_getElem? (i := 80) rfl)) rfl
theorem wd_1600 : Cond.methodLink RL 156 yX11_item ∈ gw_tbl := gm (wt_7 (List.mem_of_getElem? (i := 84) rfl)) rfl
theorem wd_1604 : Cond.methodLink RX11 347 yX11_as ∈ gw_tbl := gm (wt_7 (List.mem_of_getElem? (i := 88) rfl)) rfl
theorem wd_1607 : Cond.methodLink RL 160 yX11_read ∈ gw_tbl := gm (wt_7 (List.mem_of_getElem? (i := 91) rfl)) rfl
theorem wd_1611 : Cond.methodLink RL 165 yX11_shift ∈ gw_tbl := gm (wt_7 (List.mem_of_getElem? (i := 95) rfl)) rfl
theorem wd_1615 : Cond.constantLong RL 150 (4294967295) ∈ gw_tbl := gm (wt_7 (List.mem_of_getElem? (i := 99) rfl)) rfl
theorem wd_1616 : Cond.fieldLink RJ0 9 "java/lang/String" "value" "[B" ∈ gw_tbl := gm (wt_7 (List.mem_of_getElem? (i := 100) rfl)) rfl
theorem wd_1617 : Cond.fieldLink RJ0 15 "java/lang/String" "coder" "B" ∈ gw_tbl := gm (wt_7 (List.mem_of_getElem? (i := 101) rfl)) rfl
theorem wmX0_init : wmI yX0_init cX0_init 2 1 := ⟨gm (wt_1 (List.mem_of_getElem? (i := 219) rfl)) rfl, gm (wt_1 (List.mem_of_getElem? (i := 218) rfl)) rfl, gm (wt_1 (List.mem_of_getElem? (i := 12) rfl)) rfl, by decide +kernel⟩
theorem wmX0_ran : wmV yX0_ran cX0_ran 1 (some .int) 0 := ⟨gm (wt_5 (List.mem_of_getElem? (i := 20) rfl)) rfl, gm (wt_5 (List.mem_of_getElem? (i := 18) rfl)) rfl, gm (wt_5 (List.mem_of_getElem? (i := 19) rfl)) rfl, gm (wt_1 (List.mem_of_getElem? (i := 12) rfl)) rfl, by decide +kernel⟩
theorem wmX0_kept : wmV yX0_kept cX0_kept 2 (some .int) 1 := ⟨gm (wt_5 (List.mem_of_getElem? (i := 3) rfl)) rfl, gm (wt_5 (List.mem_of_getElem? (i := 1) rfl)) rfl, gm (wt_5 (List.mem_of_getElem? (i := 2) rfl)) rfl, gm (wt_1 (List.mem_of_getElem? (i := 12) rfl)) rfl, by decide +kernel⟩
theorem wmX0_ask : wmV yX0_ask cX0_ask 4 (some .int) 3 := ⟨gm (wt_4 (List.mem_of_getElem? (i := 212) rfl)) rfl, gm (wt_4 (List.mem_of_getElem? (i := 210) rfl)) rfl, gm (wt_4 (List.mem_of_getElem? (i := 211) rfl)) rfl, gm (wt_1 (List.mem_of_getElem? (i := 12) rfl)) rfl, by decide +kernel⟩
theorem wmX0_bodyOf : wmS yX0_bodyOf cX0_bodyOf 5 (some .int) 2 := ⟨gm (wt_4 (List.mem_of_getElem? (i := 223) rfl)) rfl, gm (wt_4 (List.mem_of_getElem? (i := 222) rfl)) rfl, gm (wt_1 (List.mem_of_getElem? (i := 12) rfl)) rfl, by decide +kernel⟩
theorem wmX0_run : wmV yX0_run cX0_run 6 (some .int) 4 := ⟨gm (wt_4 (List.mem_of_getElem? (i := 220) rfl)) rfl, gm (wt_4 (List.mem_of_getElem? (i := 219) rfl)) rfl, gm (wt_0 (List.mem_of_getElem? (i := 30) rfl)) rfl, gm (wt_1 (List.mem_of_getElem? (i := 12) rfl)) rfl, by decide +kernel⟩
theorem wmX0_answer : wmV yX0_answer cX0_answer 4 (some .int) 3 := ⟨gm (wt_4 (List.mem_of_getElem? (i := 235) rfl)) rfl, gm (wt_4 (List.mem_of_getElem? (i := 234) rfl)) rfl, gm (wt_0 (List.mem_of_getElem? (i := 31) rfl)) rfl, gm (wt_1 (List.mem_of_getElem? (i := 12) rfl)) rfl, by decide +kernel⟩
theorem wmX1_init : wmI yX1_init cX1_init 1 0 := ⟨gm (wt_1 (List.mem_of_getElem? (i := 133) rfl)) rfl, gm (wt_1 (List.mem_of_getElem? (i := 132) rfl)) rfl, gm (wt_1 (List.mem_of_getElem? (i := 9) rfl)) rfl, by decide +kernel⟩
theorem wmX1_mostOf : wmS yX1_mostOf cX1_mostOf 1 (some .int) 1 := ⟨gm (wt_2 (List.mem_of_getElem? (i := 95) rfl)) rfl, gm (wt_2 (List.mem_of_getElem? (i := 94) rfl)) rfl, gm (wt_1 (List.mem_of_getElem? (i := 9) rfl)) rfl, by decide +kernel⟩
theorem wmX1_get : wmV yX1_get cX1_get 2 (some .int) 1 := ⟨gm (wt_2 (List.mem_of_getElem? (i := 99) rfl)) rfl, gm (wt_2 (List.mem_of_getElem? (i := 97) rfl)) rfl, gm (wt_2 (List.mem_of_getElem? (i := 98) rfl)) rfl, gm (wt_1 (List.mem_of_getElem? (i := 9) rfl)) rfl, by decide +kernel⟩
theorem wmX1_tell : wmV yX1_tell cX1_tell 2 (some .int) 1 := ⟨gm (wt_2 (List.mem_of_getElem? (i := 111) rfl)) rfl, gm (wt_2 (List.mem_of_getElem? (i := 109) rfl)) rfl, gm (wt_2 (List.mem_of_getElem? (i := 110) rfl)) rfl, gm (wt_1 (List.mem_of_getElem? (i := 9) rfl)) rfl, by decide +kernel⟩
theorem wmX1_put : wmV yX1_put cX1_put 3 none 2 := ⟨gm (wt_2 (List.mem_of_getElem? (i := 103) rfl)) rfl, gm (wt_2 (List.mem_of_getElem? (i := 101) rfl)) rfl, gm (wt_2 (List.mem_of_getElem? (i := 102) rfl)) rfl, gm (wt_1 (List.mem_of_getElem? (i := 9) rfl)) rfl, by decide +kernel⟩
theorem wmX1_addTo : wmV yX1_addTo cX1_addTo 4 none 2 := ⟨gm (wt_3 (List.mem_of_getElem? (i := 190) rfl)) rfl, gm (wt_3 (List.mem_of_getElem? (i := 188) rfl)) rfl, gm (wt_3 (List.mem_of_getElem? (i := 189) rfl)) rfl, gm (wt_1 (List.mem_of_getElem? (i := 9) rfl)) rfl, by decide +kernel⟩
theorem wmX1_sits : wmV yX1_sits cX1_sits 1 (some .boolean) 0 := ⟨gm (wt_3 (List.mem_of_getElem? (i := 157) rfl)) rfl, gm (wt_3 (List.mem_of_getElem? (i := 155) rfl)) rfl, gm (wt_3 (List.mem_of_getElem? (i := 156) rfl)) rfl, gm (wt_1 (List.mem_of_getElem? (i := 9) rfl)) rfl, by decide +kernel⟩
theorem wmX1_learnt : wmV yX1_learnt cX1_learnt 3 (some .int) 0 := ⟨gm (wt_2 (List.mem_of_getElem? (i := 115) rfl)) rfl, gm (wt_2 (List.mem_of_getElem? (i := 113) rfl)) rfl, gm (wt_2 (List.mem_of_getElem? (i := 114) rfl)) rfl, gm (wt_1 (List.mem_of_getElem? (i := 9) rfl)) rfl, by decide +kernel⟩
theorem wmX1_become : wmV yX1_become cX1_become 2 none 1 := ⟨gm (wt_3 (List.mem_of_getElem? (i := 232) rfl)) rfl, gm (wt_3 (List.mem_of_getElem? (i := 230) rfl)) rfl, gm (wt_3 (List.mem_of_getElem? (i := 231) rfl)) rfl, gm (wt_1 (List.mem_of_getElem? (i := 9) rfl)) rfl, by decide +kernel⟩
theorem wmX2_init : wmI yX2_init cX2_init 1 0 := ⟨gm (wt_1 (List.mem_of_getElem? (i := 83) rfl)) rfl, gm (wt_1 (List.mem_of_getElem? (i := 82) rfl)) rfl, gm (wt_1 (List.mem_of_getElem? (i := 6) rfl)) rfl, by decide +kernel⟩
theorem wmX2_clear : wmV yX2_clear cX2_clear 1 none 0 := ⟨gm (wt_2 (List.mem_of_getElem? (i := 148) rfl)) rfl, gm (wt_2 (List.mem_of_getElem? (i := 146) rfl)) rfl, gm (wt_2 (List.mem_of_getElem? (i := 147) rfl)) rfl, gm (wt_1 (List.mem_of_getElem? (i := 6) rfl)) rfl, by decide +kernel⟩
theorem wmX2_beginClause : wmV yX2_beginClause cX2_beginClause 3 none 2 := ⟨gm (wt_2 (List.mem_of_getElem? (i := 231) rfl)) rfl, gm (wt_2 (List.mem_of_getElem? (i := 229) rfl)) rfl, gm (wt_2 (List.mem_of_getElem? (i := 230) rfl)) rfl, gm (wt_1 (List.mem_of_getElem? (i := 6) rfl)) rfl, by decide +kernel⟩
theorem wmX2_addCode : wmV yX2_addCode cX2_addCode 2 none 1 := ⟨gm (wt_3 (List.mem_of_getElem? (i := 77) rfl)) rfl, gm (wt_3 (List.mem_of_getElem? (i := 75) rfl)) rfl, gm (wt_3 (List.mem_of_getElem? (i := 76) rfl)) rfl, gm (wt_1 (List.mem_of_getElem? (i := 6) rfl)) rfl, by decide +kernel⟩
theorem wmX2_codeOf : wmS yX2_codeOf cX2_codeOf 3 (some .int) 3 := ⟨gm (wt_3 (List.mem_of_getElem? (i := 73) rfl)) rfl, gm (wt_3 (List.mem_of_getElem? (i := 72) rfl)) rfl, gm (wt_1 (List.mem_of_getElem? (i := 6) rfl)) rfl, by decide +kernel⟩
theorem wmX2_together : wmV yX2_together cX2_together 5 (some .int) 2 := ⟨gm (wt_3 (List.mem_of_getElem? (i := 130) rfl)) rfl, gm (wt_3 (List.mem_of_getElem? (i := 128) rfl)) rfl, gm (wt_3 (List.mem_of_getElem? (i := 129) rfl)) rfl, gm (wt_1 (List.mem_of_getElem? (i := 6) rfl)) rfl, by decide +kernel⟩
theorem wmX2_last : wmV yX2_last cX2_last 4 (some .int) 1 := ⟨gm (wt_3 (List.mem_of_getElem? (i := 102) rfl)) rfl, gm (wt_3 (List.mem_of_getElem? (i := 100) rfl)) rfl, gm (wt_3 (List.mem_of_getElem? (i := 101) rfl)) rfl, gm (wt_1 (List.mem_of_getElem? (i := 6) rfl)) rfl, by decide +kernel⟩
theorem wmX2_isTrue : wmV yX2_isTrue cX2_isTrue 13 (some .boolean) 2 := ⟨gm (wt_3 (List.mem_of_getElem? (i := 134) rfl)) rfl, gm (wt_3 (List.mem_of_getElem? (i := 133) rfl)) rfl, gm (wt_0 (List.mem_of_getElem? (i := 11) rfl)) rfl, gm (wt_1 (List.mem_of_getElem? (i := 6) rfl)) rfl, by decide +kernel⟩
theorem wmX3_init : wmI yX3_init cX3_init 1 0 := ⟨gm (wt_1 (List.mem_of_getElem? (i := 127) rfl)) rfl, gm (wt_1 (List.mem_of_getElem? (i := 126) rfl)) rfl, gm (wt_1 (List.mem_of_getElem? (i := 8) rfl)) rfl, by decide +kernel⟩
theorem wmX3_become : wmV yX3_become cX3_become 2 none 1 := ⟨gm (wt_4 (List.mem_of_getElem? (i := 188) rfl)) rfl, gm (wt_4 (List.mem_of_getElem? (i := 186) rfl)) rfl, gm (wt_4 (List.mem_of_getElem? (i := 187) rfl)) rfl, gm (wt_1 (List.mem_of_getElem? (i := 8) rfl)) rfl, by decide +kernel⟩
theorem wmX4_init : wmI yX4_init cX4_init 1 0 := ⟨gm (wt_1 (List.mem_of_getElem? (i := 33) rfl)) rfl, gm (wt_1 (List.mem_of_getElem? (i := 32) rfl)) rfl, gm (wt_1 (List.mem_of_getElem? (i := 2) rfl)) rfl, by decide +kernel⟩
theorem wmX4_size : wmV yX4_size cX4_size 1 (some .int) 0 := ⟨gm (wt_2 (List.mem_of_getElem? (i := 64) rfl)) rfl, gm (wt_2 (List.mem_of_getElem? (i := 62) rfl)) rfl, gm (wt_2 (List.mem_of_getElem? (i := 63) rfl)) rfl, gm (wt_1 (List.mem_of_getElem? (i := 2) rfl)) rfl, by decide +kernel⟩
theorem wmX4_has : wmV yX4_has cX4_has 2 (some .boolean) 1 := ⟨gm (wt_2 (List.mem_of_getElem? (i := 76) rfl)) rfl, gm (wt_2 (List.mem_of_getElem? (i := 74) rfl)) rfl, gm (wt_2 (List.mem_of_getElem? (i := 75) rfl)) rfl, gm (wt_1 (List.mem_of_getElem? (i := 2) rfl)) rfl, by decide +kernel⟩
theorem wmX4_kindOf : wmV yX4_kindOf cX4_kindOf 2 (some .int) 1 := ⟨gm (wt_2 (List.mem_of_getElem? (i := 80) rfl)) rfl, gm (wt_2 (List.mem_of_getElem? (i := 78) rfl)) rfl, gm (wt_2 (List.mem_of_getElem? (i := 79) rfl)) rfl, gm (wt_1 (List.mem_of_getElem? (i := 2) rfl)) rfl, by decide +kernel⟩
theorem wmX4_numberOf : wmV yX4_numberOf cX4_numberOf 2 (some .int) 1 := ⟨gm (wt_2 (List.mem_of_getElem? (i := 84) rfl)) rfl, gm (wt_2 (List.mem_of_getElem? (i := 82) rfl)) rfl, gm (wt_2 (List.mem_of_getElem? (i := 83) rfl)) rfl, gm (wt_1 (List.mem_of_getElem? (i := 2) rfl)) rfl, by decide +kernel⟩
theorem wmX4_thingOf : wmV yX4_thingOf cX4_thingOf 2 (some .int) 1 := ⟨gm (wt_2 (List.mem_of_getElem? (i := 88) rfl)) rfl, gm (wt_2 (List.mem_of_getElem? (i := 86) rfl)) rfl, gm (wt_2 (List.mem_of_getElem? (i := 87) rfl)) rfl, gm (wt_1 (List.mem_of_getElem? (i := 2) rfl)) rfl, by decide +kernel⟩
theorem wmX4_add : wmV yX4_add cX4_add 4 (some .int) 3 := ⟨gm (wt_2 (List.mem_of_getElem? (i := 68) rfl)) rfl, gm (wt_2 (List.mem_of_getElem? (i := 66) rfl)) rfl, gm (wt_2 (List.mem_of_getElem? (i := 67) rfl)) rfl, gm (wt_1 (List.mem_of_getElem? (i := 2) rfl)) rfl, by decide +kernel⟩
theorem wmX4_aboveOf : wmS yX4_aboveOf cX4_aboveOf 1 (some .int) 1 := ⟨gm (wt_4 (List.mem_of_getElem? (i := 228) rfl)) rfl, gm (wt_4 (List.mem_of_getElem? (i := 227) rfl)) rfl, gm (wt_1 (List.mem_of_getElem? (i := 2) rfl)) rfl, by decide +kernel⟩
theorem wmX4_isUnder : wmS yX4_isUnder cX4_isUnder 4 (some .boolean) 2 := ⟨gm (wt_5 (List.mem_of_getElem? (i := 11) rfl)) rfl, gm (wt_5 (List.mem_of_getElem? (i := 10) rfl)) rfl, gm (wt_1 (List.mem_of_getElem? (i := 2) rfl)) rfl, by decide +kernel⟩
theorem wmX5_init : wmI yX5_init cX5_init 2 1 := ⟨gm (wt_1 (List.mem_of_getElem? (i := 59) rfl)) rfl, gm (wt_1 (List.mem_of_getElem? (i := 58) rfl)) rfl, gm (wt_1 (List.mem_of_getElem? (i := 4) rfl)) rfl, by decide +kernel⟩
theorem wmX5_size : wmV yX5_size cX5_size 1 (some .int) 0 := ⟨gm (wt_2 (List.mem_of_getElem? (i := 136) rfl)) rfl, gm (wt_2 (List.mem_of_getElem? (i := 134) rfl)) rfl, gm (wt_2 (List.mem_of_getElem? (i := 135) rfl)) rfl, gm (wt_1 (List.mem_of_getElem? (i := 4) rfl)) rfl, by decide +kernel⟩
theorem wmX5_get : wmV yX5_get cX5_get 2 (some .int) 1 := ⟨gm (wt_2 (List.mem_of_getElem? (i := 180) rfl)) rfl, gm (wt_2 (List.mem_of_getElem? (i := 178) rfl)) rfl, gm (wt_2 (List.mem_of_getElem? (i := 179) rfl)) rfl, gm (wt_1 (List.mem_of_getElem? (i := 4) rfl)) rfl, by decide +kernel⟩
theorem wmX5_add : wmV yX5_add cX5_add 2 (some .boolean) 1 := ⟨gm (wt_2 (List.mem_of_getElem? (i := 128) rfl)) rfl, gm (wt_2 (List.mem_of_getElem? (i := 126) rfl)) rfl, gm (wt_2 (List.mem_of_getElem? (i := 127) rfl)) rfl, gm (wt_1 (List.mem_of_getElem? (i := 4) rfl)) rfl, by decide +kernel⟩
theorem wmX5_clear : wmV yX5_clear cX5_clear 1 none 0 := ⟨gm (wt_3 (List.mem_of_getElem? (i := 85) rfl)) rfl, gm (wt_3 (List.mem_of_getElem? (i := 83) rfl)) rfl, gm (wt_3 (List.mem_of_getElem? (i := 84) rfl)) rfl, gm (wt_1 (List.mem_of_getElem? (i := 4) rfl)) rfl, by decide +kernel⟩
theorem wmX5_placeOfLeast : wmV yX5_placeOfLeast cX5_placeOfLeast 3 (some .int) 0 := ⟨gm (wt_4 (List.mem_of_getElem? (i := 132) rfl)) rfl, gm (wt_4 (List.mem_of_getElem? (i := 130) rfl)) rfl, gm (wt_4 (List.mem_of_getElem? (i := 131) rfl)) rfl, gm (wt_1 (List.mem_of_getElem? (i := 4) rfl)) rfl, by decide +kernel⟩
theorem wmX5_become : wmV yX5_become cX5_become 3 none 1 := ⟨gm (wt_4 (List.mem_of_getElem? (i := 193) rfl)) rfl, gm (wt_4 (List.mem_of_getElem? (i := 191) rfl)) rfl, gm (wt_4 (List.mem_of_getElem? (i := 192) rfl)) rfl, gm (wt_1 (List.mem_of_getElem? (i := 4) rfl)) rfl, by decide +kernel⟩
theorem wmX6_init : wmI yX6_init cX6_init 1 0 := ⟨gm (wt_2 (List.mem_of_getElem? (i := 7) rfl)) rfl, gm (wt_2 (List.mem_of_getElem? (i := 6) rfl)) rfl, gm (wt_1 (List.mem_of_getElem? (i := 13) rfl)) rfl, by decide +kernel⟩
theorem wmX6_sort : wmV yX6_sort cX6_sort 1 (some .int) 0 := ⟨gm (wt_4 (List.mem_of_getElem? (i := 167) rfl)) rfl, gm (wt_4 (List.mem_of_getElem? (i := 165) rfl)) rfl, gm (wt_4 (List.mem_of_getElem? (i := 166) rfl)) rfl, gm (wt_1 (List.mem_of_getElem? (i := 13) rfl)) rfl, by decide +kernel⟩
theorem wmX6_holdsSomething : wmV yX6_holdsSomething cX6_holdsSomething 1 (some .boolean) 0 := ⟨gm (wt_4 (List.mem_of_getElem? (i := 163) rfl)) rfl, gm (wt_4 (List.mem_of_getElem? (i := 161) rfl)) rfl, gm (wt_4 (List.mem_of_getElem? (i := 162) rfl)) rfl, gm (wt_1 (List.mem_of_getElem? (i := 13) rfl)) rfl, by decide +kernel⟩
theorem wmX6_renew : wmV yX6_renew cX6_renew 3 none 2 := ⟨gm (wt_5 (List.mem_of_getElem? (i := 28) rfl)) rfl, gm (wt_5 (List.mem_of_getElem? (i := 26) rfl)) rfl, gm (wt_5 (List.mem_of_getElem? (i := 27) rfl)) rfl, gm (wt_1 (List.mem_of_getElem? (i := 13) rfl)) rfl, by decide +kernel⟩
theorem wmX6_has : wmV yX6_has cX6_has 2 (some .boolean) 1 := ⟨gm (wt_4 (List.mem_of_getElem? (i := 175) rfl)) rfl, gm (wt_4 (List.mem_of_getElem? (i := 173) rfl)) rfl, gm (wt_4 (List.mem_of_getElem? (i := 174) rfl)) rfl, gm (wt_1 (List.mem_of_getElem? (i := 13) rfl)) rfl, by decide +kernel⟩
theorem wmX6_spans : wmV yX6_spans cX6_spans 3 (some .boolean) 2 := ⟨gm (wt_5 (List.mem_of_getElem? (i := 59) rfl)) rfl, gm (wt_5 (List.mem_of_getElem? (i := 57) rfl)) rfl, gm (wt_5 (List.mem_of_getElem? (i := 58) rfl)) rfl, gm (wt_1 (List.mem_of_getElem? (i := 13) rfl)) rfl, by decide +kernel⟩
theorem wmX6_get : wmV yX6_get cX6_get 2 (some .long) 1 := ⟨gm (wt_4 (List.mem_of_getElem? (i := 179) rfl)) rfl, gm (wt_4 (List.mem_of_getElem? (i := 177) rfl)) rfl, gm (wt_4 (List.mem_of_getElem? (i := 178) rfl)) rfl, gm (wt_1 (List.mem_of_getElem? (i := 13) rfl)) rfl, by decide +kernel⟩
theorem wmX6_put : wmV yX6_put cX6_put 4 none 2 := ⟨gm (wt_5 (List.mem_of_getElem? (i := 42) rfl)) rfl, gm (wt_5 (List.mem_of_getElem? (i := 40) rfl)) rfl, gm (wt_5 (List.mem_of_getElem? (i := 41) rfl)) rfl, gm (wt_1 (List.mem_of_getElem? (i := 13) rfl)) rfl, by decide +kernel⟩
theorem wmX6_cut : wmV yX6_cut cX6_cut 3 (some .long) 1 := ⟨gm (wt_5 (List.mem_of_getElem? (i := 46) rfl)) rfl, gm (wt_5 (List.mem_of_getElem? (i := 45) rfl)) rfl, gm (wt_0 (List.mem_of_getElem? (i := 32) rfl)) rfl, gm (wt_1 (List.mem_of_getElem? (i := 13) rfl)) rfl, by decide +kernel⟩
theorem wmX6_copyIn : wmV yX6_copyIn cX6_copyIn 5 none 4 := ⟨gm (wt_5 (List.mem_of_getElem? (i := 63) rfl)) rfl, gm (wt_5 (List.mem_of_getElem? (i := 61) rfl)) rfl, gm (wt_5 (List.mem_of_getElem? (i := 62) rfl)) rfl, gm (wt_1 (List.mem_of_getElem? (i := 13) rfl)) rfl, by decide +kernel⟩
theorem wmX7_init : wmI yX7_init cX7_init 1 0 := ⟨gm (wt_1 (List.mem_of_getElem? (i := 53) rfl)) rfl, gm (wt_1 (List.mem_of_getElem? (i := 52) rfl)) rfl, gm (wt_1 (List.mem_of_getElem? (i := 3) rfl)) rfl, by decide +kernel⟩
theorem wmX7_size : wmV yX7_size cX7_size 1 (some .int) 0 := ⟨gm (wt_2 (List.mem_of_getElem? (i := 132) rfl)) rfl, gm (wt_2 (List.mem_of_getElem? (i := 130) rfl)) rfl, gm (wt_2 (List.mem_of_getElem? (i := 131) rfl)) rfl, gm (wt_1 (List.mem_of_getElem? (i := 3) rfl)) rfl, by decide +kernel⟩
theorem wmX7_add : wmV yX7_add cX7_add 2 (some .boolean) 1 := ⟨gm (wt_2 (List.mem_of_getElem? (i := 124) rfl)) rfl, gm (wt_2 (List.mem_of_getElem? (i := 122) rfl)) rfl, gm (wt_2 (List.mem_of_getElem? (i := 123) rfl)) rfl, gm (wt_1 (List.mem_of_getElem? (i := 3) rfl)) rfl, by decide +kernel⟩
theorem wmX7_clear : wmV yX7_clear cX7_clear 1 none 0 := ⟨gm (wt_3 (List.mem_of_getElem? (i := 81) rfl)) rfl, gm (wt_3 (List.mem_of_getElem? (i := 79) rfl)) rfl, gm (wt_3 (List.mem_of_getElem? (i := 80) rfl)) rfl, gm (wt_1 (List.mem_of_getElem? (i := 3) rfl)) rfl, by decide +kernel⟩
theorem wmX7_readLaw : wmV yX7_readLaw cX7_readLaw 5 (some .int) 1 := ⟨gm (wt_2 (List.mem_of_getElem? (i := 144) rfl)) rfl, gm (wt_2 (List.mem_of_getElem? (i := 142) rfl)) rfl, gm (wt_2 (List.mem_of_getElem? (i := 143) rfl)) rfl, gm (wt_1 (List.mem_of_getElem? (i := 3) rfl)) rfl, by decide +kernel⟩
theorem wmX7_next : wmV yX7_next cX7_next 2 (some .boolean) 1 := ⟨gm (wt_2 (List.mem_of_getElem? (i := 223) rfl)) rfl, gm (wt_2 (List.mem_of_getElem? (i := 222) rfl)) rfl, gm (wt_0 (List.mem_of_getElem? (i := 2) rfl)) rfl, gm (wt_1 (List.mem_of_getElem? (i := 3) rfl)) rfl, by decide +kernel⟩
theorem wmX7_readHead : wmV yX7_readHead cX7_readHead 4 (some .int) 1 := ⟨gm (wt_2 (List.mem_of_getElem? (i := 152) rfl)) rfl, gm (wt_2 (List.mem_of_getElem? (i := 151) rfl)) rfl, gm (wt_0 (List.mem_of_getElem? (i := 0) rfl)) rfl, gm (wt_1 (List.mem_of_getElem? (i := 3) rfl)) rfl, by decide +kernel⟩
theorem wmX7_readWord : wmV yX7_readWord cX7_readWord 5 (some .int) 0 := ⟨gm (wt_2 (List.mem_of_getElem? (i := 156) rfl)) rfl, gm (wt_2 (List.mem_of_getElem? (i := 155) rfl)) rfl, gm (wt_0 (List.mem_of_getElem? (i := 1) rfl)) rfl, gm (wt_1 (List.mem_of_getElem? (i := 3) rfl)) rfl, by decide +kernel⟩
theorem wmX7_wordOf : wmS yX7_wordOf cX7_wordOf 1 (some (.object "java/lang/String")) 1 := ⟨gm (wt_2 (List.mem_of_getElem? (i := 159) rfl)) rfl, gm (wt_2 (List.mem_of_getElem? (i := 158) rfl)) rfl, gm (wt_1 (List.mem_of_getElem? (i := 3) rfl)) rfl, by decide +kernel⟩
theorem wmX7_readNumber : wmV yX7_readNumber cX7_readNumber 4 (some .int) 0 := ⟨gm (wt_2 (List.mem_of_getElem? (i := 227) rfl)) rfl, gm (wt_2 (List.mem_of_getElem? (i := 226) rfl)) rfl, gm (wt_0 (List.mem_of_getElem? (i := 3) rfl)) rfl, gm (wt_1 (List.mem_of_getElem? (i := 3) rfl)) rfl, by decide +kernel⟩
theorem wmX7_readEither : wmV yX7_readEither cX7_readEither 5 (some .boolean) 2 := ⟨gm (wt_2 (List.mem_of_getElem? (i := 235) rfl)) rfl, gm (wt_2 (List.mem_of_getElem? (i := 234) rfl)) rfl, gm (wt_0 (List.mem_of_getElem? (i := 4) rfl)) rfl, gm (wt_1 (List.mem_of_getElem? (i := 3) rfl)) rfl, by decide +kernel⟩
theorem wmX7_readBoth : wmV yX7_readBoth cX7_readBoth 5 (some .boolean) 2 := ⟨gm (wt_2 (List.mem_of_getElem? (i := 239) rfl)) rfl, gm (wt_2 (List.mem_of_getElem? (i := 238) rfl)) rfl, gm (wt_0 (List.mem_of_getElem? (i := 5) rfl)) rfl, gm (wt_1 (List.mem_of_getElem? (i := 3) rfl)) rfl, by decide +kernel⟩
theorem wmX7_readSingle : wmV yX7_readSingle cX7_readSingle 7 (some .boolean) 2 := ⟨gm (wt_3 (List.mem_of_getElem? (i := 3) rfl)) rfl, gm (wt_3 (List.mem_of_getElem? (i := 2) rfl)) rfl, gm (wt_0 (List.mem_of_getElem? (i := 6) rfl)) rfl, gm (wt_1 (List.mem_of_getElem? (i := 3) rfl)) rfl, by decide +kernel⟩
theorem wmX7_readTest : wmV yX7_readTest cX7_readTest 5 (some .boolean) 1 := ⟨gm (wt_3 (List.mem_of_getElem? (i := 7) rfl)) rfl, gm (wt_3 (List.mem_of_getElem? (i := 6) rfl)) rfl, gm (wt_0 (List.mem_of_getElem? (i := 7) rfl)) rfl, gm (wt_1 (List.mem_of_getElem? (i := 3) rfl)) rfl, by decide +kernel⟩
theorem wmX7_placeIn : wmV yX7_placeIn cX7_placeIn 3 (some .int) 1 := ⟨gm (wt_3 (List.mem_of_getElem? (i := 12) rfl)) rfl, gm (wt_3 (List.mem_of_getElem? (i := 11) rfl)) rfl, gm (wt_0 (List.mem_of_getElem? (i := 8) rfl)) rfl, gm (wt_1 (List.mem_of_getElem? (i := 3) rfl)) rfl, by decide +kernel⟩
theorem wmX8_init : wmI yX8_init cX8_init 4 2 := ⟨gm (wt_1 (List.mem_of_getElem? (i := 182) rfl)) rfl, gm (wt_1 (List.mem_of_getElem? (i := 181) rfl)) rfl, gm (wt_1 (List.mem_of_getElem? (i := 11) rfl)) rfl, by decide +kernel⟩
theorem wmX8_stage : wmV yX8_stage cX8_stage 3 (some (.object "DonkeyBridge$Donkey")) 1 := ⟨gm (wt_3 (List.mem_of_getElem? (i := 228) rfl)) rfl, gm (wt_3 (List.mem_of_getElem? (i := 227) rfl)) rfl, gm (wt_0 (List.mem_of_getElem? (i := 16) rfl)) rfl, gm (wt_1 (List.mem_of_getElem? (i := 11) rfl)) rfl, by decide +kernel⟩
theorem wmX8_stageAfter : wmV yX8_stageAfter cX8_stageAfter 3 (some (.object "DonkeyBridge$Donkey")) 1 := ⟨gm (wt_4 (List.mem_of_getElem? (i := 23) rfl)) rfl, gm (wt_4 (List.mem_of_getElem? (i := 22) rfl)) rfl, gm (wt_0 (List.mem_of_getElem? (i := 20) rfl)) rfl, gm (wt_1 (List.mem_of_getElem? (i := 11) rfl)) rfl, by decide +kernel⟩
theorem wmX8_begin : wmV yX8_begin cX8_begin 2 (some (.object "DonkeyBridge$Donkey")) 0 := ⟨gm (wt_3 (List.mem_of_getElem? (i := 224) rfl)) rfl, gm (wt_3 (List.mem_of_getElem? (i := 223) rfl)) rfl, gm (wt_0 (List.mem_of_getElem? (i := 15) rfl)) rfl, gm (wt_1 (List.mem_of_getElem? (i := 11) rfl)) rfl, by decide +kernel⟩
theorem wmX8_byHand : wmV yX8_byHand cX8_byHand 3 (some (.object "DonkeyBridge$Donkey")) 1 := ⟨gm (wt_3 (List.mem_of_getElem? (i := 220) rfl)) rfl, gm (wt_3 (List.mem_of_getElem? (i := 218) rfl)) rfl, gm (wt_3 (List.mem_of_getElem? (i := 219) rfl)) rfl, gm (wt_1 (List.mem_of_getElem? (i := 11) rfl)) rfl, by decide +kernel⟩
theorem wmX8_doRow : wmV yX8_doRow cX8_doRow 4 none 2 := ⟨gm (wt_4 (List.mem_of_getElem? (i := 0) rfl)) rfl, gm (wt_3 (List.mem_of_getElem? (i := 239) rfl)) rfl, gm (wt_0 (List.mem_of_getElem? (i := 17) rfl)) rfl, gm (wt_1 (List.mem_of_getElem? (i := 11) rfl)) rfl, by decide +kernel⟩
theorem wmX8_afterDays : wmV yX8_afterDays cX8_afterDays 4 (some (.object "DonkeyBridge$Donkey")) 1 := ⟨gm (wt_4 (List.mem_of_getElem? (i := 119) rfl)) rfl, gm (wt_4 (List.mem_of_getElem? (i := 117) rfl)) rfl, gm (wt_4 (List.mem_of_getElem? (i := 118) rfl)) rfl, gm (wt_1 (List.mem_of_getElem? (i := 11) rfl)) rfl, by decide +kernel⟩
theorem wmX8_waiting : wmV yX8_waiting cX8_waiting 3 (some .int) 0 := ⟨gm (wt_4 (List.mem_of_getElem? (i := 69) rfl)) rfl, gm (wt_4 (List.mem_of_getElem? (i := 67) rfl)) rfl, gm (wt_4 (List.mem_of_getElem? (i := 68) rfl)) rfl, gm (wt_1 (List.mem_of_getElem? (i := 11) rfl)) rfl, by decide +kernel⟩
theorem wmX8_bestShift : wmV yX8_bestShift cX8_bestShift 6 (some .int) 0 := ⟨gm (wt_4 (List.mem_of_getElem? (i := 81) rfl)) rfl, gm (wt_4 (List.mem_of_getElem? (i := 79) rfl)) rfl, gm (wt_4 (List.mem_of_getElem? (i := 80) rfl)) rfl, gm (wt_1 (List.mem_of_getElem? (i := 11) rfl)) rfl, by decide +kernel⟩
theorem wmX8_hurtWith : wmV yX8_hurtWith cX8_hurtWith 5 (some .int) 1 := ⟨gm (wt_4 (List.mem_of_getElem? (i := 85) rfl)) rfl, gm (wt_4 (List.mem_of_getElem? (i := 84) rfl)) rfl, gm (wt_0 (List.mem_of_getElem? (i := 25) rfl)) rfl, gm (wt_1 (List.mem_of_getElem? (i := 11) rfl)) rfl, by decide +kernel⟩
theorem wmX8_firstOtherwise : wmV yX8_firstOtherwise cX8_firstOtherwise 3 (some .int) 0 := ⟨gm (wt_4 (List.mem_of_getElem? (i := 151) rfl)) rfl, gm (wt_4 (List.mem_of_getElem? (i := 149) rfl)) rfl, gm (wt_4 (List.mem_of_getElem? (i := 150) rfl)) rfl, gm (wt_1 (List.mem_of_getElem? (i := 11) rfl)) rfl, by decide +kernel⟩
theorem wmX8_firstMistold : wmV yX8_firstMistold cX8_firstMistold 5 (some .int) 2 := ⟨gm (wt_4 (List.mem_of_getElem? (i := 171) rfl)) rfl, gm (wt_4 (List.mem_of_getElem? (i := 169) rfl)) rfl, gm (wt_4 (List.mem_of_getElem? (i := 170) rfl)) rfl, gm (wt_1 (List.mem_of_getElem? (i := 11) rfl)) rfl, by decide +kernel⟩
theorem wmX8_findSoonest : wmV yX8_findSoonest cX8_findSoonest 2 (some .int) 1 := ⟨gm (wt_4 (List.mem_of_getElem? (i := 11) rfl)) rfl, gm (wt_4 (List.mem_of_getElem? (i := 9) rfl)) rfl, gm (wt_4 (List.mem_of_getElem? (i := 10) rfl)) rfl, gm (wt_1 (List.mem_of_getElem? (i := 11) rfl)) rfl, by decide +kernel⟩
theorem wmX8_findGentlest : wmV yX8_findGentlest cX8_findGentlest 2 (some .int) 1 := ⟨gm (wt_4 (List.mem_of_getElem? (i := 40) rfl)) rfl, gm (wt_4 (List.mem_of_getElem? (i := 38) rfl)) rfl, gm (wt_4 (List.mem_of_getElem? (i := 39) rfl)) rfl, gm (wt_1 (List.mem_of_getElem? (i := 11) rfl)) rfl, by decide +kernel⟩
theorem wmX8_found : wmV yX8_found cX8_found 2 (some .int) 1 := ⟨gm (wt_4 (List.mem_of_getElem? (i := 32) rfl)) rfl, gm (wt_4 (List.mem_of_getElem? (i := 30) rfl)) rfl, gm (wt_4 (List.mem_of_getElem? (i := 31) rfl)) rfl, gm (wt_1 (List.mem_of_getElem? (i := 11) rfl)) rfl, by decide +kernel⟩
theorem wmX8_trySooner : wmV yX8_trySooner cX8_trySooner 3 none 1 := ⟨gm (wt_4 (List.mem_of_getElem? (i := 15) rfl)) rfl, gm (wt_4 (List.mem_of_getElem? (i := 14) rfl)) rfl, gm (wt_0 (List.mem_of_getElem? (i := 18) rfl)) rfl, gm (wt_1 (List.mem_of_getElem? (i := 11) rfl)) rfl, by decide +kernel⟩
theorem wmX8_trySoonerWith : wmV yX8_trySoonerWith cX8_trySoonerWith 4 none 2 := ⟨gm (wt_4 (List.mem_of_getElem? (i := 19) rfl)) rfl, gm (wt_4 (List.mem_of_getElem? (i := 18) rfl)) rfl, gm (wt_0 (List.mem_of_getElem? (i := 19) rfl)) rfl, gm (wt_1 (List.mem_of_getElem? (i := 11) rfl)) rfl, by decide +kernel⟩
theorem wmX8_tryGentler : wmV yX8_tryGentler cX8_tryGentler 4 none 2 := ⟨gm (wt_4 (List.mem_of_getElem? (i := 44) rfl)) rfl, gm (wt_4 (List.mem_of_getElem? (i := 43) rfl)) rfl, gm (wt_0 (List.mem_of_getElem? (i := 22) rfl)) rfl, gm (wt_1 (List.mem_of_getElem? (i := 11) rfl)) rfl, by decide +kernel⟩
theorem wmX8_tryGentlerWith : wmV yX8_tryGentlerWith cX8_tryGentlerWith 4 none 3 := ⟨gm (wt_4 (List.mem_of_getElem? (i := 53) rfl)) rfl, gm (wt_4 (List.mem_of_getElem? (i := 52) rfl)) rfl, gm (wt_0 (List.mem_of_getElem? (i := 24) rfl)) rfl, gm (wt_1 (List.mem_of_getElem? (i := 11) rfl)) rfl, by decide +kernel⟩
theorem wmX8_keepGentler : wmV yX8_keepGentler cX8_keepGentler 4 none 2 := ⟨gm (wt_4 (List.mem_of_getElem? (i := 48) rfl)) rfl, gm (wt_4 (List.mem_of_getElem? (i := 47) rfl)) rfl, gm (wt_0 (List.mem_of_getElem? (i := 23) rfl)) rfl, gm (wt_1 (List.mem_of_getElem? (i := 11) rfl)) rfl, by decide +kernel⟩
theorem wmX8_keepTried : wmV yX8_keepTried cX8_keepTried 2 none 1 := ⟨gm (wt_4 (List.mem_of_getElem? (i := 27) rfl)) rfl, gm (wt_4 (List.mem_of_getElem? (i := 26) rfl)) rfl, gm (wt_0 (List.mem_of_getElem? (i := 21) rfl)) rfl, gm (wt_1 (List.mem_of_getElem? (i := 11) rfl)) rfl, by decide +kernel⟩
theorem wmX8_chanceOf : wmV yX8_chanceOf cX8_chanceOf 8 (some .long) 2 := ⟨gm (wt_4 (List.mem_of_getElem? (i := 100) rfl)) rfl, gm (wt_4 (List.mem_of_getElem? (i := 98) rfl)) rfl, gm (wt_4 (List.mem_of_getElem? (i := 99) rfl)) rfl, gm (wt_1 (List.mem_of_getElem? (i := 11) rfl)) rfl, by decide +kernel⟩
theorem wmX8_waysFrom : wmV yX8_waysFrom cX8_waysFrom 4 (some .long) 2 := ⟨gm (wt_4 (List.mem_of_getElem? (i := 104) rfl)) rfl, gm (wt_4 (List.mem_of_getElem? (i := 103) rfl)) rfl, gm (wt_0 (List.mem_of_getElem? (i := 26) rfl)) rfl, gm (wt_1 (List.mem_of_getElem? (i := 11) rfl)) rfl, by decide +kernel⟩
theorem wmX8_waysWith : wmV yX8_waysWith cX8_waysWith 4 (some .long) 3 := ⟨gm (wt_4 (List.mem_of_getElem? (i := 108) rfl)) rfl, gm (wt_4 (List.mem_of_getElem? (i := 107) rfl)) rfl, gm (wt_0 (List.mem_of_getElem? (i := 27) rfl)) rfl, gm (wt_1 (List.mem_of_getElem? (i := 11) rfl)) rfl, by decide +kernel⟩
theorem wmX9_init : wmI yX9_init cX9_init 3 2 := ⟨gm (wt_1 (List.mem_of_getElem? (i := 108) rfl)) rfl, gm (wt_1 (List.mem_of_getElem? (i := 107) rfl)) rfl, gm (wt_1 (List.mem_of_getElem? (i := 7) rfl)) rfl, by decide +kernel⟩
theorem wmX9_obey : wmV yX9_obey cX9_obey 2 none 1 := ⟨gm (wt_3 (List.mem_of_getElem? (i := 89) rfl)) rfl, gm (wt_3 (List.mem_of_getElem? (i := 87) rfl)) rfl, gm (wt_3 (List.mem_of_getElem? (i := 88) rfl)) rfl, gm (wt_1 (List.mem_of_getElem? (i := 7) rfl)) rfl, by decide +kernel⟩
theorem wmX9_isOver : wmV yX9_isOver cX9_isOver 2 (some .boolean) 1 := ⟨gm (wt_3 (List.mem_of_getElem? (i := 110) rfl)) rfl, gm (wt_3 (List.mem_of_getElem? (i := 108) rfl)) rfl, gm (wt_3 (List.mem_of_getElem? (i := 109) rfl)) rfl, gm (wt_1 (List.mem_of_getElem? (i := 7) rfl)) rfl, by decide +kernel⟩
theorem wmX9_fearThere : wmV yX9_fearThere cX9_fearThere 2 (some .int) 1 := ⟨gm (wt_4 (List.mem_of_getElem? (i := 137) rfl)) rfl, gm (wt_4 (List.mem_of_getElem? (i := 135) rfl)) rfl, gm (wt_4 (List.mem_of_getElem? (i := 136) rfl)) rfl, gm (wt_1 (List.mem_of_getElem? (i := 7) rfl)) rfl, by decide +kernel⟩
theorem wmX9_lastOf : wmV yX9_lastOf cX9_lastOf 2 (some .int) 1 := ⟨gm (wt_3 (List.mem_of_getElem? (i := 98) rfl)) rfl, gm (wt_3 (List.mem_of_getElem? (i := 96) rfl)) rfl, gm (wt_3 (List.mem_of_getElem? (i := 97) rfl)) rfl, gm (wt_1 (List.mem_of_getElem? (i := 7) rfl)) rfl, by decide +kernel⟩
theorem wmX9_halfMinutesOf : wmV yX9_halfMinutesOf cX9_halfMinutesOf 2 (some .int) 1 := ⟨gm (wt_3 (List.mem_of_getElem? (i := 182) rfl)) rfl, gm (wt_3 (List.mem_of_getElem? (i := 180) rfl)) rfl, gm (wt_3 (List.mem_of_getElem? (i := 181) rfl)) rfl, gm (wt_1 (List.mem_of_getElem? (i := 7) rfl)) rfl, by decide +kernel⟩
theorem wmX9_togetherOf : wmV yX9_togetherOf cX9_togetherOf 3 (some .int) 2 := ⟨gm (wt_3 (List.mem_of_getElem? (i := 116) rfl)) rfl, gm (wt_3 (List.mem_of_getElem? (i := 114) rfl)) rfl, gm (wt_3 (List.mem_of_getElem? (i := 115) rfl)) rfl, gm (wt_1 (List.mem_of_getElem? (i := 7) rfl)) rfl, by decide +kernel⟩
theorem wmX9_lookAround : wmV yX9_lookAround cX9_lookAround 5 none 1 := ⟨gm (wt_3 (List.mem_of_getElem? (i := 120) rfl)) rfl, gm (wt_3 (List.mem_of_getElem? (i := 119) rfl)) rfl, gm (wt_0 (List.mem_of_getElem? (i := 10) rfl)) rfl, gm (wt_1 (List.mem_of_getElem? (i := 7) rfl)) rfl, by decide +kernel⟩
theorem wmX9_weigh : wmV yX9_weigh cX9_weigh 9 (some .int) 2 := ⟨gm (wt_3 (List.mem_of_getElem? (i := 147) rfl)) rfl, gm (wt_3 (List.mem_of_getElem? (i := 145) rfl)) rfl, gm (wt_3 (List.mem_of_getElem? (i := 146) rfl)) rfl, gm (wt_1 (List.mem_of_getElem? (i := 7) rfl)) rfl, by decide +kernel⟩
theorem wmX9_moreBy : wmV yX9_moreBy cX9_moreBy 3 (some .int) 2 := ⟨gm (wt_3 (List.mem_of_getElem? (i := 161) rfl)) rfl, gm (wt_3 (List.mem_of_getElem? (i := 160) rfl)) rfl, gm (wt_0 (List.mem_of_getElem? (i := 13) rfl)) rfl, gm (wt_1 (List.mem_of_getElem? (i := 7) rfl)) rfl, by decide +kernel⟩
theorem wmX9_fearThatCounts : wmV yX9_fearThatCounts cX9_fearThatCounts 6 (some .int) 2 := ⟨gm (wt_3 (List.mem_of_getElem? (i := 151) rfl)) rfl, gm (wt_3 (List.mem_of_getElem? (i := 150) rfl)) rfl, gm (wt_0 (List.mem_of_getElem? (i := 12) rfl)) rfl, gm (wt_1 (List.mem_of_getElem? (i := 7) rfl)) rfl, by decide +kernel⟩
theorem wmX9_mostAgainst : wmV yX9_mostAgainst cX9_mostAgainst 4 (some .int) 1 := ⟨gm (wt_4 (List.mem_of_getElem? (i := 61) rfl)) rfl, gm (wt_4 (List.mem_of_getElem? (i := 59) rfl)) rfl, gm (wt_4 (List.mem_of_getElem? (i := 60) rfl)) rfl, gm (wt_1 (List.mem_of_getElem? (i := 7) rfl)) rfl, by decide +kernel⟩
theorem wmX9_doing : wmV yX9_doing cX9_doing 3 (some .int) 2 := ⟨gm (wt_3 (List.mem_of_getElem? (i := 169) rfl)) rfl, gm (wt_3 (List.mem_of_getElem? (i := 167) rfl)) rfl, gm (wt_3 (List.mem_of_getElem? (i := 168) rfl)) rfl, gm (wt_1 (List.mem_of_getElem? (i := 7) rfl)) rfl, by decide +kernel⟩
theorem wmX9_doneBy : wmS yX9_doneBy cX9_doneBy 1 (some .int) 1 := ⟨gm (wt_3 (List.mem_of_getElem? (i := 174) rfl)) rfl, gm (wt_3 (List.mem_of_getElem? (i := 173) rfl)) rfl, gm (wt_1 (List.mem_of_getElem? (i := 7) rfl)) rfl, by decide +kernel⟩
theorem wmX9_step : wmV yX9_step cX9_step 6 (some .int) 3 := ⟨gm (wt_3 (List.mem_of_getElem? (i := 186) rfl)) rfl, gm (wt_3 (List.mem_of_getElem? (i := 184) rfl)) rfl, gm (wt_3 (List.mem_of_getElem? (i := 185) rfl)) rfl, gm (wt_1 (List.mem_of_getElem? (i := 7) rfl)) rfl, by decide +kernel⟩
theorem wmX9_leave : wmS yX9_leave cX9_leave 2 none 2 := ⟨gm (wt_3 (List.mem_of_getElem? (i := 193) rfl)) rfl, gm (wt_3 (List.mem_of_getElem? (i := 192) rfl)) rfl, gm (wt_1 (List.mem_of_getElem? (i := 7) rfl)) rfl, by decide +kernel⟩
theorem wmX9_follow : wmV yX9_follow cX9_follow 5 none 4 := ⟨gm (wt_3 (List.mem_of_getElem? (i := 198) rfl)) rfl, gm (wt_3 (List.mem_of_getElem? (i := 197) rfl)) rfl, gm (wt_0 (List.mem_of_getElem? (i := 14) rfl)) rfl, gm (wt_1 (List.mem_of_getElem? (i := 7) rfl)) rfl, by decide +kernel⟩
theorem wmX9_answer : wmS yX9_answer cX9_answer 5 none 4 := ⟨gm (wt_3 (List.mem_of_getElem? (i := 201) rfl)) rfl, gm (wt_3 (List.mem_of_getElem? (i := 200) rfl)) rfl, gm (wt_1 (List.mem_of_getElem? (i := 7) rfl)) rfl, by decide +kernel⟩
theorem wmX10_init : wmI yX10_init cX10_init 2 0 := ⟨gm (wt_1 (List.mem_of_getElem? (i := 25) rfl)) rfl, gm (wt_1 (List.mem_of_getElem? (i := 24) rfl)) rfl, gm (wt_1 (List.mem_of_getElem? (i := 1) rfl)) rfl, by decide +kernel⟩
theorem wmX10_place : wmV yX10_place cX10_place 4 (some .int) 3 := ⟨gm (wt_2 (List.mem_of_getElem? (i := 60) rfl)) rfl, gm (wt_2 (List.mem_of_getElem? (i := 58) rfl)) rfl, gm (wt_2 (List.mem_of_getElem? (i := 59) rfl)) rfl, gm (wt_1 (List.mem_of_getElem? (i := 1) rfl)) rfl, by decide +kernel⟩
theorem wmX10_of : wmV yX10_of cX10_of 3 (some .int) 2 := ⟨gm (wt_2 (List.mem_of_getElem? (i := 72) rfl)) rfl, gm (wt_2 (List.mem_of_getElem? (i := 70) rfl)) rfl, gm (wt_2 (List.mem_of_getElem? (i := 71) rfl)) rfl, gm (wt_1 (List.mem_of_getElem? (i := 1) rfl)) rfl, by decide +kernel⟩
theorem wmX10_set : wmV yX10_set cX10_set 5 (some .int) 2 := ⟨gm (wt_2 (List.mem_of_getElem? (i := 92) rfl)) rfl, gm (wt_2 (List.mem_of_getElem? (i := 90) rfl)) rfl, gm (wt_2 (List.mem_of_getElem? (i := 91) rfl)) rfl, gm (wt_1 (List.mem_of_getElem? (i := 1) rfl)) rfl, by decide +kernel⟩
theorem wmX10_now : wmV yX10_now cX10_now 2 (some .int) 1 := ⟨gm (wt_2 (List.mem_of_getElem? (i := 107) rfl)) rfl, gm (wt_2 (List.mem_of_getElem? (i := 105) rfl)) rfl, gm (wt_2 (List.mem_of_getElem? (i := 106) rfl)) rfl, gm (wt_1 (List.mem_of_getElem? (i := 1) rfl)) rfl, by decide +kernel⟩
theorem wmX10_feed : wmV yX10_feed cX10_feed 2 (some .int) 1 := ⟨gm (wt_2 (List.mem_of_getElem? (i := 120) rfl)) rfl, gm (wt_2 (List.mem_of_getElem? (i := 118) rfl)) rfl, gm (wt_2 (List.mem_of_getElem? (i := 119) rfl)) rfl, gm (wt_1 (List.mem_of_getElem? (i := 1) rfl)) rfl, by decide +kernel⟩
theorem wmX10_law : wmV yX10_law cX10_law 3 (some .int) 0 := ⟨gm (wt_2 (List.mem_of_getElem? (i := 140) rfl)) rfl, gm (wt_2 (List.mem_of_getElem? (i := 138) rfl)) rfl, gm (wt_2 (List.mem_of_getElem? (i := 139) rfl)) rfl, gm (wt_1 (List.mem_of_getElem? (i := 1) rfl)) rfl, by decide +kernel⟩
theorem wmX10_told : wmV yX10_told cX10_told 2 (some .int) 1 := ⟨gm (wt_3 (List.mem_of_getElem? (i := 94) rfl)) rfl, gm (wt_3 (List.mem_of_getElem? (i := 92) rfl)) rfl, gm (wt_3 (List.mem_of_getElem? (i := 93) rfl)) rfl, gm (wt_1 (List.mem_of_getElem? (i := 1) rfl)) rfl, by decide +kernel⟩
theorem wmX10_drive : wmV yX10_drive cX10_drive 2 (some .int) 1 := ⟨gm (wt_3 (List.mem_of_getElem? (i := 138) rfl)) rfl, gm (wt_3 (List.mem_of_getElem? (i := 136) rfl)) rfl, gm (wt_3 (List.mem_of_getElem? (i := 137) rfl)) rfl, gm (wt_1 (List.mem_of_getElem? (i := 1) rfl)) rfl, by decide +kernel⟩
theorem wmX10_would : wmV yX10_would cX10_would 2 (some .int) 1 := ⟨gm (wt_3 (List.mem_of_getElem? (i := 165) rfl)) rfl, gm (wt_3 (List.mem_of_getElem? (i := 163) rfl)) rfl, gm (wt_3 (List.mem_of_getElem? (i := 164) rfl)) rfl, gm (wt_1 (List.mem_of_getElem? (i := 1) rfl)) rfl, by decide +kernel⟩
theorem wmX10_go : wmV yX10_go cX10_go 2 (some .int) 1 := ⟨gm (wt_3 (List.mem_of_getElem? (i := 178) rfl)) rfl, gm (wt_3 (List.mem_of_getElem? (i := 176) rfl)) rfl, gm (wt_3 (List.mem_of_getElem? (i := 177) rfl)) rfl, gm (wt_1 (List.mem_of_getElem? (i := 1) rfl)) rfl, by decide +kernel⟩
theorem wmX10_row : wmV yX10_row cX10_row 2 (some .int) 1 := ⟨gm (wt_3 (List.mem_of_getElem? (i := 206) rfl)) rfl, gm (wt_3 (List.mem_of_getElem? (i := 204) rfl)) rfl, gm (wt_3 (List.mem_of_getElem? (i := 205) rfl)) rfl, gm (wt_1 (List.mem_of_getElem? (i := 1) rfl)) rfl, by decide +kernel⟩
theorem wmX10_hand : wmV yX10_hand cX10_hand 3 (some .int) 2 := ⟨gm (wt_3 (List.mem_of_getElem? (i := 216) rfl)) rfl, gm (wt_3 (List.mem_of_getElem? (i := 214) rfl)) rfl, gm (wt_3 (List.mem_of_getElem? (i := 215) rfl)) rfl, gm (wt_1 (List.mem_of_getElem? (i := 1) rfl)) rfl, by decide +kernel⟩
theorem wmX10_soonest : wmV yX10_soonest cX10_soonest 4 (some .int) 2 := ⟨gm (wt_4 (List.mem_of_getElem? (i := 7) rfl)) rfl, gm (wt_4 (List.mem_of_getElem? (i := 5) rfl)) rfl, gm (wt_4 (List.mem_of_getElem? (i := 6) rfl)) rfl, gm (wt_1 (List.mem_of_getElem? (i := 1) rfl)) rfl, by decide +kernel⟩
theorem wmX10_gentlest : wmV yX10_gentlest cX10_gentlest 4 (some .int) 2 := ⟨gm (wt_4 (List.mem_of_getElem? (i := 36) rfl)) rfl, gm (wt_4 (List.mem_of_getElem? (i := 34) rfl)) rfl, gm (wt_4 (List.mem_of_getElem? (i := 35) rfl)) rfl, gm (wt_1 (List.mem_of_getElem? (i := 1) rfl)) rfl, by decide +kernel⟩
theorem wmX10_why : wmV yX10_why cX10_why 1 (some .int) 0 := ⟨gm (wt_4 (List.mem_of_getElem? (i := 57) rfl)) rfl, gm (wt_4 (List.mem_of_getElem? (i := 55) rfl)) rfl, gm (wt_4 (List.mem_of_getElem? (i := 56) rfl)) rfl, gm (wt_1 (List.mem_of_getElem? (i := 1) rfl)) rfl, by decide +kernel⟩
theorem wmX10_waits : wmV yX10_waits cX10_waits 1 (some .int) 0 := ⟨gm (wt_4 (List.mem_of_getElem? (i := 65) rfl)) rfl, gm (wt_4 (List.mem_of_getElem? (i := 63) rfl)) rfl, gm (wt_4 (List.mem_of_getElem? (i := 64) rfl)) rfl, gm (wt_1 (List.mem_of_getElem? (i := 1) rfl)) rfl, by decide +kernel⟩
theorem wmX10_round : wmV yX10_round cX10_round 2 (some .int) 0 := ⟨gm (wt_4 (List.mem_of_getElem? (i := 73) rfl)) rfl, gm (wt_4 (List.mem_of_getElem? (i := 71) rfl)) rfl, gm (wt_4 (List.mem_of_getElem? (i := 72) rfl)) rfl, gm (wt_1 (List.mem_of_getElem? (i := 1) rfl)) rfl, by decide +kernel⟩
theorem wmX10_shiftLoad : wmV yX10_shiftLoad cX10_shiftLoad 1 (some .int) 0 := ⟨gm (wt_4 (List.mem_of_getElem? (i := 77) rfl)) rfl, gm (wt_4 (List.mem_of_getElem? (i := 75) rfl)) rfl, gm (wt_4 (List.mem_of_getElem? (i := 76) rfl)) rfl, gm (wt_1 (List.mem_of_getElem? (i := 1) rfl)) rfl, by decide +kernel⟩
theorem wmX10_wander : wmV yX10_wander cX10_wander 3 (some .int) 1 := ⟨gm (wt_4 (List.mem_of_getElem? (i := 91) rfl)) rfl, gm (wt_4 (List.mem_of_getElem? (i := 89) rfl)) rfl, gm (wt_4 (List.mem_of_getElem? (i := 90) rfl)) rfl, gm (wt_1 (List.mem_of_getElem? (i := 1) rfl)) rfl, by decide +kernel⟩
theorem wmX10_sure : wmV yX10_sure cX10_sure 3 (some .long) 2 := ⟨gm (wt_4 (List.mem_of_getElem? (i := 95) rfl)) rfl, gm (wt_4 (List.mem_of_getElem? (i := 93) rfl)) rfl, gm (wt_4 (List.mem_of_getElem? (i := 94) rfl)) rfl, gm (wt_1 (List.mem_of_getElem? (i := 1) rfl)) rfl, by decide +kernel⟩
theorem wmX10_days : wmV yX10_days cX10_days 4 (some .int) 2 := ⟨gm (wt_4 (List.mem_of_getElem? (i := 115) rfl)) rfl, gm (wt_4 (List.mem_of_getElem? (i := 113) rfl)) rfl, gm (wt_4 (List.mem_of_getElem? (i := 114) rfl)) rfl, gm (wt_1 (List.mem_of_getElem? (i := 1) rfl)) rfl, by decide +kernel⟩
theorem wmX10_beast : wmV yX10_beast cX10_beast 2 (some .int) 1 := ⟨gm (wt_4 (List.mem_of_getElem? (i := 124) rfl)) rfl, gm (wt_4 (List.mem_of_getElem? (i := 122) rfl)) rfl, gm (wt_4 (List.mem_of_getElem? (i := 123) rfl)) rfl, gm (wt_1 (List.mem_of_getElem? (i := 1) rfl)) rfl, by decide +kernel⟩
theorem wmX10_string : wmV yX10_string cX10_string 5 (some .int) 1 := ⟨gm (wt_4 (List.mem_of_getElem? (i := 128) rfl)) rfl, gm (wt_4 (List.mem_of_getElem? (i := 126) rfl)) rfl, gm (wt_4 (List.mem_of_getElem? (i := 127) rfl)) rfl, gm (wt_1 (List.mem_of_getElem? (i := 1) rfl)) rfl, by decide +kernel⟩
theorem wmX10_film : wmV yX10_film cX10_film 2 (some .int) 1 := ⟨gm (wt_4 (List.mem_of_getElem? (i := 143) rfl)) rfl, gm (wt_4 (List.mem_of_getElem? (i := 141) rfl)) rfl, gm (wt_4 (List.mem_of_getElem? (i := 142) rfl)) rfl, gm (wt_1 (List.mem_of_getElem? (i := 1) rfl)) rfl, by decide +kernel⟩
theorem wmX10_off : wmV yX10_off cX10_off 1 (some .int) 0 := ⟨gm (wt_4 (List.mem_of_getElem? (i := 147) rfl)) rfl, gm (wt_4 (List.mem_of_getElem? (i := 145) rfl)) rfl, gm (wt_4 (List.mem_of_getElem? (i := 146) rfl)) rfl, gm (wt_1 (List.mem_of_getElem? (i := 1) rfl)) rfl, by decide +kernel⟩
theorem wmX10_judge : wmV yX10_judge cX10_judge 4 (some .int) 2 := ⟨gm (wt_4 (List.mem_of_getElem? (i := 155) rfl)) rfl, gm (wt_4 (List.mem_of_getElem? (i := 153) rfl)) rfl, gm (wt_4 (List.mem_of_getElem? (i := 154) rfl)) rfl, gm (wt_1 (List.mem_of_getElem? (i := 1) rfl)) rfl, by decide +kernel⟩
theorem wmX10_image : wmV yX10_image cX10_image 1 (some .int) 0 := ⟨gm (wt_4 (List.mem_of_getElem? (i := 184) rfl)) rfl, gm (wt_4 (List.mem_of_getElem? (i := 182) rfl)) rfl, gm (wt_4 (List.mem_of_getElem? (i := 183) rfl)) rfl, gm (wt_1 (List.mem_of_getElem? (i := 1) rfl)) rfl, by decide +kernel⟩
theorem wmX10_undo : wmV yX10_undo cX10_undo 1 (some .int) 0 := ⟨gm (wt_4 (List.mem_of_getElem? (i := 200) rfl)) rfl, gm (wt_4 (List.mem_of_getElem? (i := 198) rfl)) rfl, gm (wt_4 (List.mem_of_getElem? (i := 199) rfl)) rfl, gm (wt_1 (List.mem_of_getElem? (i := 1) rfl)) rfl, by decide +kernel⟩
theorem wmX10_part : wmV yX10_part cX10_part 4 (some .int) 3 := ⟨gm (wt_4 (List.mem_of_getElem? (i := 208) rfl)) rfl, gm (wt_4 (List.mem_of_getElem? (i := 206) rfl)) rfl, gm (wt_4 (List.mem_of_getElem? (i := 207) rfl)) rfl, gm (wt_1 (List.mem_of_getElem? (i := 1) rfl)) rfl, by decide +kernel⟩
theorem wmX10_trace : wmV yX10_trace cX10_trace 2 (some .int) 1 := ⟨gm (wt_4 (List.mem_of_getElem? (i := 239) rfl)) rfl, gm (wt_4 (List.mem_of_getElem? (i := 237) rfl)) rfl, gm (wt_4 (List.mem_of_getElem? (i := 238) rfl)) rfl, gm (wt_1 (List.mem_of_getElem? (i := 1) rfl)) rfl, by decide +kernel⟩
theorem wmX10_taken : wmV yX10_taken cX10_taken 4 (some .int) 2 := ⟨gm (wt_5 (List.mem_of_getElem? (i := 8) rfl)) rfl, gm (wt_5 (List.mem_of_getElem? (i := 6) rfl)) rfl, gm (wt_5 (List.mem_of_getElem? (i := 7) rfl)) rfl, gm (wt_1 (List.mem_of_getElem? (i := 1) rfl)) rfl, by decide +kernel⟩
theorem wmX10_count : wmV yX10_count cX10_count 2 (some .int) 1 := ⟨gm (wt_5 (List.mem_of_getElem? (i := 16) rfl)) rfl, gm (wt_5 (List.mem_of_getElem? (i := 14) rfl)) rfl, gm (wt_5 (List.mem_of_getElem? (i := 15) rfl)) rfl, gm (wt_1 (List.mem_of_getElem? (i := 1) rfl)) rfl, by decide +kernel⟩
theorem wmX10_tape : wmV yX10_tape cX10_tape 5 (some .int) 3 := ⟨gm (wt_5 (List.mem_of_getElem? (i := 24) rfl)) rfl, gm (wt_5 (List.mem_of_getElem? (i := 22) rfl)) rfl, gm (wt_5 (List.mem_of_getElem? (i := 23) rfl)) rfl, gm (wt_1 (List.mem_of_getElem? (i := 1) rfl)) rfl, by decide +kernel⟩
theorem wmX10_item : wmV yX10_item cX10_item 6 (some .int) 3 := ⟨gm (wt_5 (List.mem_of_getElem? (i := 37) rfl)) rfl, gm (wt_5 (List.mem_of_getElem? (i := 35) rfl)) rfl, gm (wt_5 (List.mem_of_getElem? (i := 36) rfl)) rfl, gm (wt_1 (List.mem_of_getElem? (i := 1) rfl)) rfl, by decide +kernel⟩
theorem wmX10_read : wmV yX10_read cX10_read 4 (some .long) 2 := ⟨gm (wt_5 (List.mem_of_getElem? (i := 50) rfl)) rfl, gm (wt_5 (List.mem_of_getElem? (i := 48) rfl)) rfl, gm (wt_5 (List.mem_of_getElem? (i := 49) rfl)) rfl, gm (wt_1 (List.mem_of_getElem? (i := 1) rfl)) rfl, by decide +kernel⟩
theorem wmX10_shift : wmV yX10_shift cX10_shift 8 (some .int) 5 := ⟨gm (wt_5 (List.mem_of_getElem? (i := 55) rfl)) rfl, gm (wt_5 (List.mem_of_getElem? (i := 53) rfl)) rfl, gm (wt_5 (List.mem_of_getElem? (i := 54) rfl)) rfl, gm (wt_1 (List.mem_of_getElem? (i := 1) rfl)) rfl, by decide +kernel⟩
theorem wmX10_isAct : wmS yX10_isAct cX10_isAct 1 (some .boolean) 1 := ⟨gm (wt_3 (List.mem_of_getElem? (i := 141) rfl)) rfl, gm (wt_3 (List.mem_of_getElem? (i := 140) rfl)) rfl, gm (wt_1 (List.mem_of_getElem? (i := 1) rfl)) rfl, by decide +kernel⟩
theorem wmX10_isOver : wmV yX10_isOver cX10_isOver 1 (some .boolean) 0 := ⟨gm (wt_3 (List.mem_of_getElem? (i := 106) rfl)) rfl, gm (wt_3 (List.mem_of_getElem? (i := 105) rfl)) rfl, gm (wt_0 (List.mem_of_getElem? (i := 9) rfl)) rfl, gm (wt_1 (List.mem_of_getElem? (i := 1) rfl)) rfl, by decide +kernel⟩
theorem wmX10_heldLaw : wmV yX10_heldLaw cX10_heldLaw 3 (some (.object "DonkeyBridge$Law")) 0 := ⟨gm (wt_4 (List.mem_of_getElem? (i := 204) rfl)) rfl, gm (wt_4 (List.mem_of_getElem? (i := 203) rfl)) rfl, gm (wt_0 (List.mem_of_getElem? (i := 29) rfl)) rfl, gm (wt_1 (List.mem_of_getElem? (i := 1) rfl)) rfl, by decide +kernel⟩
theorem wmX10_tapeOf : wmV yX10_tapeOf cX10_tapeOf 2 (some (.object "DonkeyBridge$Tape")) 1 := ⟨gm (wt_4 (List.mem_of_getElem? (i := 159) rfl)) rfl, gm (wt_4 (List.mem_of_getElem? (i := 158) rfl)) rfl, gm (wt_0 (List.mem_of_getElem? (i := 28) rfl)) rfl, gm (wt_1 (List.mem_of_getElem? (i := 1) rfl)) rfl, by decide +kernel⟩
theorem wmX10_addOrClear : wmS yX10_addOrClear cX10_addOrClear 2 (some .int) 2 := ⟨gm (wt_3 (List.mem_of_getElem? (i := 209) rfl)) rfl, gm (wt_3 (List.mem_of_getElem? (i := 208) rfl)) rfl, gm (wt_1 (List.mem_of_getElem? (i := 1) rfl)) rfl, by decide +kernel⟩
theorem wmX11_init : wmI yX11_init cX11_init 1 0 := ⟨gm (wt_5 (List.mem_of_getElem? (i := 70) rfl)) rfl, gm (wt_5 (List.mem_of_getElem? (i := 69) rfl)) rfl, gm (wt_1 (List.mem_of_getElem? (i := 14) rfl)) rfl, by decide +kernel⟩
theorem wmX11_in : wmS yX11_in cX11_in 3 (some .boolean) 3 := ⟨gm (wt_5 (List.mem_of_getElem? (i := 232) rfl)) rfl, gm (wt_5 (List.mem_of_getElem? (i := 231) rfl)) rfl, gm (wt_1 (List.mem_of_getElem? (i := 14) rfl)) rfl, by decide +kernel⟩
theorem wmX11_sizeOf : wmS yX11_sizeOf cX11_sizeOf 1 (some .int) 1 := ⟨gm (wt_6 (List.mem_of_getElem? (i := 103) rfl)) rfl, gm (wt_6 (List.mem_of_getElem? (i := 102) rfl)) rfl, gm (wt_1 (List.mem_of_getElem? (i := 14) rfl)) rfl, by decide +kernel⟩
theorem wmX11_held : wmS yX11_held cX11_held 2 (some .int) 2 := ⟨gm (wt_6 (List.mem_of_getElem? (i := 106) rfl)) rfl, gm (wt_6 (List.mem_of_getElem? (i := 105) rfl)) rfl, gm (wt_1 (List.mem_of_getElem? (i := 14) rfl)) rfl, by decide +kernel⟩
theorem wmX11_isPlace : wmV yX11_isPlace cX11_isPlace 2 (some .boolean) 1 := ⟨gm (wt_6 (List.mem_of_getElem? (i := 0) rfl)) rfl, gm (wt_5 (List.mem_of_getElem? (i := 239) rfl)) rfl, gm (wt_0 (List.mem_of_getElem? (i := 33) rfl)) rfl, gm (wt_1 (List.mem_of_getElem? (i := 14) rfl)) rfl, by decide +kernel⟩
theorem wmX11_place : wmV yX11_place cX11_place 4 (some .int) 3 := ⟨gm (wt_5 (List.mem_of_getElem? (i := 229) rfl)) rfl, gm (wt_5 (List.mem_of_getElem? (i := 227) rfl)) rfl, gm (wt_5 (List.mem_of_getElem? (i := 228) rfl)) rfl, gm (wt_1 (List.mem_of_getElem? (i := 14) rfl)) rfl, by decide +kernel⟩
theorem wmX11_of : wmV yX11_of cX11_of 3 (some .int) 2 := ⟨gm (wt_5 (List.mem_of_getElem? (i := 236) rfl)) rfl, gm (wt_5 (List.mem_of_getElem? (i := 234) rfl)) rfl, gm (wt_5 (List.mem_of_getElem? (i := 235) rfl)) rfl, gm (wt_1 (List.mem_of_getElem? (i := 14) rfl)) rfl, by decide +kernel⟩
theorem wmX11_isOver : wmV yX11_isOver cX11_isOver 1 (some .boolean) 0 := ⟨gm (wt_6 (List.mem_of_getElem? (i := 88) rfl)) rfl, gm (wt_6 (List.mem_of_getElem? (i := 87) rfl)) rfl, gm (wt_0 (List.mem_of_getElem? (i := 50) rfl)) rfl, gm (wt_1 (List.mem_of_getElem? (i := 14) rfl)) rfl, by decide +kernel⟩
theorem wmX11_mostOf : wmV yX11_mostOf cX11_mostOf 2 (some .int) 1 := ⟨gm (wt_6 (List.mem_of_getElem? (i := 8) rfl)) rfl, gm (wt_6 (List.mem_of_getElem? (i := 7) rfl)) rfl, gm (wt_0 (List.mem_of_getElem? (i := 34) rfl)) rfl, gm (wt_1 (List.mem_of_getElem? (i := 14) rfl)) rfl, by decide +kernel⟩
theorem wmX11_set : wmV yX11_set cX11_set 4 (some .int) 2 := ⟨gm (wt_6 (List.mem_of_getElem? (i := 4) rfl)) rfl, gm (wt_6 (List.mem_of_getElem? (i := 2) rfl)) rfl, gm (wt_6 (List.mem_of_getElem? (i := 3) rfl)) rfl, gm (wt_1 (List.mem_of_getElem? (i := 14) rfl)) rfl, by decide +kernel⟩
theorem wmX11_learnt : wmV yX11_learnt cX11_learnt 3 (some .int) 0 := ⟨gm (wt_6 (List.mem_of_getElem? (i := 20) rfl)) rfl, gm (wt_6 (List.mem_of_getElem? (i := 19) rfl)) rfl, gm (wt_0 (List.mem_of_getElem? (i := 36) rfl)) rfl, gm (wt_1 (List.mem_of_getElem? (i := 14) rfl)) rfl, by decide +kernel⟩
theorem wmX11_nowOf : wmV yX11_nowOf cX11_nowOf 2 (some .int) 1 := ⟨gm (wt_6 (List.mem_of_getElem? (i := 16) rfl)) rfl, gm (wt_6 (List.mem_of_getElem? (i := 15) rfl)) rfl, gm (wt_0 (List.mem_of_getElem? (i := 35) rfl)) rfl, gm (wt_1 (List.mem_of_getElem? (i := 14) rfl)) rfl, by decide +kernel⟩
theorem wmX11_now : wmV yX11_now cX11_now 2 (some .int) 1 := ⟨gm (wt_6 (List.mem_of_getElem? (i := 12) rfl)) rfl, gm (wt_6 (List.mem_of_getElem? (i := 10) rfl)) rfl, gm (wt_6 (List.mem_of_getElem? (i := 11) rfl)) rfl, gm (wt_1 (List.mem_of_getElem? (i := 14) rfl)) rfl, by decide +kernel⟩
theorem wmX11_feed : wmV yX11_feed cX11_feed 2 (some .int) 1 := ⟨gm (wt_6 (List.mem_of_getElem? (i := 24) rfl)) rfl, gm (wt_6 (List.mem_of_getElem? (i := 22) rfl)) rfl, gm (wt_6 (List.mem_of_getElem? (i := 23) rfl)) rfl, gm (wt_1 (List.mem_of_getElem? (i := 14) rfl)) rfl, by decide +kernel⟩
theorem wmX11_isHere : wmV yX11_isHere cX11_isHere 2 (some .boolean) 1 := ⟨gm (wt_6 (List.mem_of_getElem? (i := 56) rfl)) rfl, gm (wt_6 (List.mem_of_getElem? (i := 55) rfl)) rfl, gm (wt_0 (List.mem_of_getElem? (i := 43) rfl)) rfl, gm (wt_1 (List.mem_of_getElem? (i := 14) rfl)) rfl, by decide +kernel⟩
theorem wmX11_faulty : wmV yX11_faulty cX11_faulty 1 none 0 := ⟨gm (wt_6 (List.mem_of_getElem? (i := 40) rfl)) rfl, gm (wt_6 (List.mem_of_getElem? (i := 39) rfl)) rfl, gm (wt_0 (List.mem_of_getElem? (i := 39) rfl)) rfl, gm (wt_1 (List.mem_of_getElem? (i := 14) rfl)) rfl, by decide +kernel⟩
theorem wmX11_takes : wmV yX11_takes cX11_takes 2 none 1 := ⟨gm (wt_6 (List.mem_of_getElem? (i := 52) rfl)) rfl, gm (wt_6 (List.mem_of_getElem? (i := 51) rfl)) rfl, gm (wt_0 (List.mem_of_getElem? (i := 42) rfl)) rfl, gm (wt_1 (List.mem_of_getElem? (i := 14) rfl)) rfl, by decide +kernel⟩
theorem wmX11_isDigit : wmV yX11_isDigit cX11_isDigit 1 (some .boolean) 0 := ⟨gm (wt_6 (List.mem_of_getElem? (i := 48) rfl)) rfl, gm (wt_6 (List.mem_of_getElem? (i := 47) rfl)) rfl, gm (wt_0 (List.mem_of_getElem? (i := 41) rfl)) rfl, gm (wt_1 (List.mem_of_getElem? (i := 14) rfl)) rfl, by decide +kernel⟩
theorem wmX11_readNumber : wmV yX11_readNumber cX11_readNumber 2 (some .int) 0 := ⟨gm (wt_6 (List.mem_of_getElem? (i := 44) rfl)) rfl, gm (wt_6 (List.mem_of_getElem? (i := 43) rfl)) rfl, gm (wt_0 (List.mem_of_getElem? (i := 40) rfl)) rfl, gm (wt_1 (List.mem_of_getElem? (i := 14) rfl)) rfl, by decide +kernel⟩
theorem wmX11_lay : wmV yX11_lay cX11_lay 2 none 1 := ⟨gm (wt_6 (List.mem_of_getElem? (i := 72) rfl)) rfl, gm (wt_6 (List.mem_of_getElem? (i := 71) rfl)) rfl, gm (wt_0 (List.mem_of_getElem? (i := 47) rfl)) rfl, gm (wt_1 (List.mem_of_getElem? (i := 14) rfl)) rfl, by decide +kernel⟩
theorem wmX11_either : wmV yX11_either cX11_either 2 none 1 := ⟨gm (wt_6 (List.mem_of_getElem? (i := 60) rfl)) rfl, gm (wt_6 (List.mem_of_getElem? (i := 59) rfl)) rfl, gm (wt_0 (List.mem_of_getElem? (i := 44) rfl)) rfl, gm (wt_1 (List.mem_of_getElem? (i := 14) rfl)) rfl, by decide +kernel⟩
theorem wmX11_both : wmV yX11_both cX11_both 2 none 1 := ⟨gm (wt_6 (List.mem_of_getElem? (i := 64) rfl)) rfl, gm (wt_6 (List.mem_of_getElem? (i := 63) rfl)) rfl, gm (wt_0 (List.mem_of_getElem? (i := 45) rfl)) rfl, gm (wt_1 (List.mem_of_getElem? (i := 14) rfl)) rfl, by decide +kernel⟩
theorem wmX11_isLetter : wmV yX11_isLetter cX11_isLetter 2 (some .boolean) 0 := ⟨gm (wt_6 (List.mem_of_getElem? (i := 76) rfl)) rfl, gm (wt_6 (List.mem_of_getElem? (i := 75) rfl)) rfl, gm (wt_0 (List.mem_of_getElem? (i := 48) rfl)) rfl, gm (wt_1 (List.mem_of_getElem? (i := 14) rfl)) rfl, by decide +kernel⟩
theorem wmX11_one : wmV yX11_one cX11_one 3 none 1 := ⟨gm (wt_6 (List.mem_of_getElem? (i := 68) rfl)) rfl, gm (wt_6 (List.mem_of_getElem? (i := 67) rfl)) rfl, gm (wt_0 (List.mem_of_getElem? (i := 46) rfl)) rfl, gm (wt_1 (List.mem_of_getElem? (i := 14) rfl)) rfl, by decide +kernel⟩
theorem wmX11_readWord : wmV yX11_readWord cX11_readWord 7 (some .int) 0 := ⟨gm (wt_6 (List.mem_of_getElem? (i := 36) rfl)) rfl, gm (wt_6 (List.mem_of_getElem? (i := 35) rfl)) rfl, gm (wt_0 (List.mem_of_getElem? (i := 38) rfl)) rfl, gm (wt_1 (List.mem_of_getElem? (i := 14) rfl)) rfl, by decide +kernel⟩
theorem wmX11_clause : wmV yX11_clause cX11_clause 2 none 0 := ⟨gm (wt_6 (List.mem_of_getElem? (i := 32) rfl)) rfl, gm (wt_6 (List.mem_of_getElem? (i := 31) rfl)) rfl, gm (wt_0 (List.mem_of_getElem? (i := 37) rfl)) rfl, gm (wt_1 (List.mem_of_getElem? (i := 14) rfl)) rfl, by decide +kernel⟩
theorem wmX11_law : wmV yX11_law cX11_law 1 (some .int) 0 := ⟨gm (wt_6 (List.mem_of_getElem? (i := 28) rfl)) rfl, gm (wt_6 (List.mem_of_getElem? (i := 26) rfl)) rfl, gm (wt_6 (List.mem_of_getElem? (i := 27) rfl)) rfl, gm (wt_1 (List.mem_of_getElem? (i := 14) rfl)) rfl, by decide +kernel⟩
theorem wmX11_factOf : wmV yX11_factOf cX11_factOf 2 (some .int) 1 := ⟨gm (wt_6 (List.mem_of_getElem? (i := 100) rfl)) rfl, gm (wt_6 (List.mem_of_getElem? (i := 99) rfl)) rfl, gm (wt_0 (List.mem_of_getElem? (i := 53) rfl)) rfl, gm (wt_1 (List.mem_of_getElem? (i := 14) rfl)) rfl, by decide +kernel⟩
theorem wmX11_test : wmS yX11_test cX11_test 3 (some .boolean) 3 := ⟨gm (wt_6 (List.mem_of_getElem? (i := 109) rfl)) rfl, gm (wt_6 (List.mem_of_getElem? (i := 108) rfl)) rfl, gm (wt_1 (List.mem_of_getElem? (i := 14) rfl)) rfl, by decide +kernel⟩
theorem wmX11_isSo : wmV yX11_isSo cX11_isSo 4 (some .boolean) 1 := ⟨gm (wt_6 (List.mem_of_getElem? (i := 96) rfl)) rfl, gm (wt_6 (List.mem_of_getElem? (i := 95) rfl)) rfl, gm (wt_0 (List.mem_of_getElem? (i := 52) rfl)) rfl, gm (wt_1 (List.mem_of_getElem? (i := 14) rfl)) rfl, by decide +kernel⟩
theorem wmX11_sumOf : wmV yX11_sumOf cX11_sumOf 4 (some .int) 1 := ⟨gm (wt_6 (List.mem_of_getElem? (i := 92) rfl)) rfl, gm (wt_6 (List.mem_of_getElem? (i := 91) rfl)) rfl, gm (wt_0 (List.mem_of_getElem? (i := 51) rfl)) rfl, gm (wt_1 (List.mem_of_getElem? (i := 14) rfl)) rfl, by decide +kernel⟩
theorem wmX11_lastOf : wmV yX11_lastOf cX11_lastOf 4 (some .int) 1 := ⟨gm (wt_6 (List.mem_of_getElem? (i := 84) rfl)) rfl, gm (wt_6 (List.mem_of_getElem? (i := 83) rfl)) rfl, gm (wt_0 (List.mem_of_getElem? (i := 49) rfl)) rfl, gm (wt_1 (List.mem_of_getElem? (i := 14) rfl)) rfl, by decide +kernel⟩
theorem wmX11_fordHalves : wmV yX11_fordHalves cX11_fordHalves 1 (some .int) 0 := ⟨gm (wt_6 (List.mem_of_getElem? (i := 146) rfl)) rfl, gm (wt_6 (List.mem_of_getElem? (i := 145) rfl)) rfl, gm (wt_0 (List.mem_of_getElem? (i := 58) rfl)) rfl, gm (wt_1 (List.mem_of_getElem? (i := 14) rfl)) rfl, by decide +kernel⟩
theorem wmX11_told : wmV yX11_told cX11_told 2 (some .int) 1 := ⟨gm (wt_6 (List.mem_of_getElem? (i := 80) rfl)) rfl, gm (wt_6 (List.mem_of_getElem? (i := 78) rfl)) rfl, gm (wt_6 (List.mem_of_getElem? (i := 79) rfl)) rfl, gm (wt_1 (List.mem_of_getElem? (i := 14) rfl)) rfl, by decide +kernel⟩
theorem wmX11_fearAs : wmV yX11_fearAs cX11_fearAs 5 (some .int) 1 := ⟨gm (wt_6 (List.mem_of_getElem? (i := 130) rfl)) rfl, gm (wt_6 (List.mem_of_getElem? (i := 129) rfl)) rfl, gm (wt_0 (List.mem_of_getElem? (i := 56) rfl)) rfl, gm (wt_1 (List.mem_of_getElem? (i := 14) rfl)) rfl, by decide +kernel⟩
theorem wmX11_lessBy : wmV yX11_lessBy cX11_lessBy 4 (some .int) 2 := ⟨gm (wt_6 (List.mem_of_getElem? (i := 126) rfl)) rfl, gm (wt_6 (List.mem_of_getElem? (i := 125) rfl)) rfl, gm (wt_0 (List.mem_of_getElem? (i := 55) rfl)) rfl, gm (wt_1 (List.mem_of_getElem? (i := 14) rfl)) rfl, by decide +kernel⟩
theorem wmX11_driveBy : wmV yX11_driveBy cX11_driveBy 4 (some .int) 1 := ⟨gm (wt_6 (List.mem_of_getElem? (i := 122) rfl)) rfl, gm (wt_6 (List.mem_of_getElem? (i := 121) rfl)) rfl, gm (wt_0 (List.mem_of_getElem? (i := 54) rfl)) rfl, gm (wt_1 (List.mem_of_getElem? (i := 14) rfl)) rfl, by decide +kernel⟩
theorem wmX11_isAct : wmS yX11_isAct cX11_isAct 1 (some .boolean) 1 := ⟨gm (wt_6 (List.mem_of_getElem? (i := 116) rfl)) rfl, gm (wt_6 (List.mem_of_getElem? (i := 115) rfl)) rfl, gm (wt_1 (List.mem_of_getElem? (i := 14) rfl)) rfl, by decide +kernel⟩
theorem wmX11_drive : wmV yX11_drive cX11_drive 2 (some .int) 1 := ⟨gm (wt_6 (List.mem_of_getElem? (i := 113) rfl)) rfl, gm (wt_6 (List.mem_of_getElem? (i := 111) rfl)) rfl, gm (wt_6 (List.mem_of_getElem? (i := 112) rfl)) rfl, gm (wt_1 (List.mem_of_getElem? (i := 14) rfl)) rfl, by decide +kernel⟩
theorem wmX11_wouldBy : wmV yX11_wouldBy cX11_wouldBy 3 (some .int) 1 := ⟨gm (wt_6 (List.mem_of_getElem? (i := 138) rfl)) rfl, gm (wt_6 (List.mem_of_getElem? (i := 137) rfl)) rfl, gm (wt_0 (List.mem_of_getElem? (i := 57) rfl)) rfl, gm (wt_1 (List.mem_of_getElem? (i := 14) rfl)) rfl, by decide +kernel⟩
theorem wmX11_would : wmV yX11_would cX11_would 2 (some .int) 1 := ⟨gm (wt_6 (List.mem_of_getElem? (i := 134) rfl)) rfl, gm (wt_6 (List.mem_of_getElem? (i := 132) rfl)) rfl, gm (wt_6 (List.mem_of_getElem? (i := 133) rfl)) rfl, gm (wt_1 (List.mem_of_getElem? (i := 14) rfl)) rfl, by decide +kernel⟩
theorem wmX11_more : wmV yX11_more cX11_more 3 none 2 := ⟨gm (wt_6 (List.mem_of_getElem? (i := 154) rfl)) rfl, gm (wt_6 (List.mem_of_getElem? (i := 153) rfl)) rfl, gm (wt_0 (List.mem_of_getElem? (i := 60) rfl)) rfl, gm (wt_1 (List.mem_of_getElem? (i := 14) rfl)) rfl, by decide +kernel⟩
theorem wmX11_does : wmV yX11_does cX11_does 5 (some .int) 1 := ⟨gm (wt_6 (List.mem_of_getElem? (i := 150) rfl)) rfl, gm (wt_6 (List.mem_of_getElem? (i := 149) rfl)) rfl, gm (wt_0 (List.mem_of_getElem? (i := 59) rfl)) rfl, gm (wt_1 (List.mem_of_getElem? (i := 14) rfl)) rfl, by decide +kernel⟩
theorem wmX11_driven : wmV yX11_driven cX11_driven 4 none 3 := ⟨gm (wt_6 (List.mem_of_getElem? (i := 158) rfl)) rfl, gm (wt_6 (List.mem_of_getElem? (i := 157) rfl)) rfl, gm (wt_0 (List.mem_of_getElem? (i := 61) rfl)) rfl, gm (wt_1 (List.mem_of_getElem? (i := 14) rfl)) rfl, by decide +kernel⟩
theorem wmX11_go : wmV yX11_go cX11_go 2 (some .int) 1 := ⟨gm (wt_6 (List.mem_of_getElem? (i := 142) rfl)) rfl, gm (wt_6 (List.mem_of_getElem? (i := 140) rfl)) rfl, gm (wt_6 (List.mem_of_getElem? (i := 141) rfl)) rfl, gm (wt_1 (List.mem_of_getElem? (i := 14) rfl)) rfl, by decide +kernel⟩
theorem wmX11_row : wmV yX11_row cX11_row 2 (some .int) 1 := ⟨gm (wt_6 (List.mem_of_getElem? (i := 162) rfl)) rfl, gm (wt_6 (List.mem_of_getElem? (i := 160) rfl)) rfl, gm (wt_6 (List.mem_of_getElem? (i := 161) rfl)) rfl, gm (wt_1 (List.mem_of_getElem? (i := 14) rfl)) rfl, by decide +kernel⟩
theorem wmX11_keepNow : wmV yX11_keepNow cX11_keepNow 2 none 0 := ⟨gm (wt_6 (List.mem_of_getElem? (i := 170) rfl)) rfl, gm (wt_6 (List.mem_of_getElem? (i := 169) rfl)) rfl, gm (wt_0 (List.mem_of_getElem? (i := 62) rfl)) rfl, gm (wt_1 (List.mem_of_getElem? (i := 14) rfl)) rfl, by decide +kernel⟩
theorem wmX11_layBack : wmV yX11_layBack cX11_layBack 2 none 0 := ⟨gm (wt_6 (List.mem_of_getElem? (i := 174) rfl)) rfl, gm (wt_6 (List.mem_of_getElem? (i := 173) rfl)) rfl, gm (wt_0 (List.mem_of_getElem? (i := 63) rfl)) rfl, gm (wt_1 (List.mem_of_getElem? (i := 14) rfl)) rfl, by decide +kernel⟩
theorem wmX11_hand : wmV yX11_hand cX11_hand 4 (some .int) 2 := ⟨gm (wt_6 (List.mem_of_getElem? (i := 166) rfl)) rfl, gm (wt_6 (List.mem_of_getElem? (i := 164) rfl)) rfl, gm (wt_6 (List.mem_of_getElem? (i := 165) rfl)) rfl, gm (wt_1 (List.mem_of_getElem? (i := 14) rfl)) rfl, by decide +kernel⟩
theorem wmX11_actOf : wmS yX11_actOf cX11_actOf 5 (some .int) 3 := ⟨gm (wt_6 (List.mem_of_getElem? (i := 188) rfl)) rfl, gm (wt_6 (List.mem_of_getElem? (i := 187) rfl)) rfl, gm (wt_1 (List.mem_of_getElem? (i := 14) rfl)) rfl, by decide +kernel⟩
theorem wmX11_rowsOf : wmS yX11_rowsOf cX11_rowsOf 3 (some .int) 1 := ⟨gm (wt_6 (List.mem_of_getElem? (i := 181) rfl)) rfl, gm (wt_6 (List.mem_of_getElem? (i := 180) rfl)) rfl, gm (wt_1 (List.mem_of_getElem? (i := 14) rfl)) rfl, by decide +kernel⟩
theorem wmX11_atBehind : wmV yX11_atBehind cX11_atBehind 4 (some .int) 2 := ⟨gm (wt_6 (List.mem_of_getElem? (i := 185) rfl)) rfl, gm (wt_6 (List.mem_of_getElem? (i := 184) rfl)) rfl, gm (wt_0 (List.mem_of_getElem? (i := 64) rfl)) rfl, gm (wt_1 (List.mem_of_getElem? (i := 14) rfl)) rfl, by decide +kernel⟩
theorem wmX11_soonest : wmV yX11_soonest cX11_soonest 5 (some .int) 2 := ⟨gm (wt_6 (List.mem_of_getElem? (i := 178) rfl)) rfl, gm (wt_6 (List.mem_of_getElem? (i := 176) rfl)) rfl, gm (wt_6 (List.mem_of_getElem? (i := 177) rfl)) rfl, gm (wt_1 (List.mem_of_getElem? (i := 14) rfl)) rfl, by decide +kernel⟩
theorem wmX11_gentlest : wmV yX11_gentlest cX11_gentlest 6 (some .int) 2 := ⟨gm (wt_6 (List.mem_of_getElem? (i := 192) rfl)) rfl, gm (wt_6 (List.mem_of_getElem? (i := 190) rfl)) rfl, gm (wt_6 (List.mem_of_getElem? (i := 191) rfl)) rfl, gm (wt_1 (List.mem_of_getElem? (i := 14) rfl)) rfl, by decide +kernel⟩
theorem wmX11_why : wmV yX11_why cX11_why 3 (some .int) 0 := ⟨gm (wt_6 (List.mem_of_getElem? (i := 196) rfl)) rfl, gm (wt_6 (List.mem_of_getElem? (i := 194) rfl)) rfl, gm (wt_6 (List.mem_of_getElem? (i := 195) rfl)) rfl, gm (wt_1 (List.mem_of_getElem? (i := 14) rfl)) rfl, by decide +kernel⟩
theorem wmX11_waitsFor : wmV yX11_waitsFor cX11_waitsFor 3 (some .int) 0 := ⟨gm (wt_6 (List.mem_of_getElem? (i := 204) rfl)) rfl, gm (wt_6 (List.mem_of_getElem? (i := 203) rfl)) rfl, gm (wt_0 (List.mem_of_getElem? (i := 65) rfl)) rfl, gm (wt_1 (List.mem_of_getElem? (i := 14) rfl)) rfl, by decide +kernel⟩
theorem wmX11_waits : wmV yX11_waits cX11_waits 1 (some .int) 0 := ⟨gm (wt_6 (List.mem_of_getElem? (i := 200) rfl)) rfl, gm (wt_6 (List.mem_of_getElem? (i := 198) rfl)) rfl, gm (wt_6 (List.mem_of_getElem? (i := 199) rfl)) rfl, gm (wt_1 (List.mem_of_getElem? (i := 14) rfl)) rfl, by decide +kernel⟩
theorem wmX11_round : wmV yX11_round cX11_round 2 (some .int) 0 := ⟨gm (wt_6 (List.mem_of_getElem? (i := 208) rfl)) rfl, gm (wt_6 (List.mem_of_getElem? (i := 206) rfl)) rfl, gm (wt_6 (List.mem_of_getElem? (i := 207) rfl)) rfl, gm (wt_1 (List.mem_of_getElem? (i := 14) rfl)) rfl, by decide +kernel⟩
theorem wmX11_shiftLoad : wmV yX11_shiftLoad cX11_shiftLoad 8 (some .int) 0 := ⟨gm (wt_6 (List.mem_of_getElem? (i := 212) rfl)) rfl, gm (wt_6 (List.mem_of_getElem? (i := 210) rfl)) rfl, gm (wt_6 (List.mem_of_getElem? (i := 211) rfl)) rfl, gm (wt_1 (List.mem_of_getElem? (i := 14) rfl)) rfl, by decide +kernel⟩
theorem wmX11_wander : wmV yX11_wander cX11_wander 3 (some .int) 1 := ⟨gm (wt_6 (List.mem_of_getElem? (i := 216) rfl)) rfl, gm (wt_6 (List.mem_of_getElem? (i := 214) rfl)) rfl, gm (wt_6 (List.mem_of_getElem? (i := 215) rfl)) rfl, gm (wt_1 (List.mem_of_getElem? (i := 14) rfl)) rfl, by decide +kernel⟩
theorem wmX11_lowest : wmS yX11_lowest cX11_lowest 11 (some .long) 3 := ⟨gm (wt_6 (List.mem_of_getElem? (i := 225) rfl)) rfl, gm (wt_6 (List.mem_of_getElem? (i := 224) rfl)) rfl, gm (wt_1 (List.mem_of_getElem? (i := 14) rfl)) rfl, by decide +kernel⟩
theorem wmX11_sure : wmV yX11_sure cX11_sure 12 (some .long) 2 := ⟨gm (wt_6 (List.mem_of_getElem? (i := 220) rfl)) rfl, gm (wt_6 (List.mem_of_getElem? (i := 218) rfl)) rfl, gm (wt_6 (List.mem_of_getElem? (i := 219) rfl)) rfl, gm (wt_1 (List.mem_of_getElem? (i := 14) rfl)) rfl, by decide +kernel⟩
theorem wmX11_days : wmV yX11_days cX11_days 5 (some .int) 2 := ⟨gm (wt_6 (List.mem_of_getElem? (i := 229) rfl)) rfl, gm (wt_6 (List.mem_of_getElem? (i := 227) rfl)) rfl, gm (wt_6 (List.mem_of_getElem? (i := 228) rfl)) rfl, gm (wt_1 (List.mem_of_getElem? (i := 14) rfl)) rfl, by decide +kernel⟩
theorem wmX11_beast : wmV yX11_beast cX11_beast 2 (some .int) 1 := ⟨gm (wt_6 (List.mem_of_getElem? (i := 233) rfl)) rfl, gm (wt_6 (List.mem_of_getElem? (i := 231) rfl)) rfl, gm (wt_6 (List.mem_of_getElem? (i := 232) rfl)) rfl, gm (wt_1 (List.mem_of_getElem? (i := 14) rfl)) rfl, by decide +kernel⟩
theorem wmX11_string : wmV yX11_string cX11_string 6 (some .int) 1 := ⟨gm (wt_6 (List.mem_of_getElem? (i := 237) rfl)) rfl, gm (wt_6 (List.mem_of_getElem? (i := 235) rfl)) rfl, gm (wt_6 (List.mem_of_getElem? (i := 236) rfl)) rfl, gm (wt_1 (List.mem_of_getElem? (i := 14) rfl)) rfl, by decide +kernel⟩
theorem wmX11_film : wmV yX11_film cX11_film 2 (some .int) 1 := ⟨gm (wt_7 (List.mem_of_getElem? (i := 1) rfl)) rfl, gm (wt_6 (List.mem_of_getElem? (i := 239) rfl)) rfl, gm (wt_7 (List.mem_of_getElem? (i := 0) rfl)) rfl, gm (wt_1 (List.mem_of_getElem? (i := 14) rfl)) rfl, by decide +kernel⟩
theorem wmX11_off : wmV yX11_off cX11_off 3 (some .int) 0 := ⟨gm (wt_7 (List.mem_of_getElem? (i := 5) rfl)) rfl, gm (wt_7 (List.mem_of_getElem? (i := 3) rfl)) rfl, gm (wt_7 (List.mem_of_getElem? (i := 4) rfl)) rfl, gm (wt_1 (List.mem_of_getElem? (i := 14) rfl)) rfl, by decide +kernel⟩
theorem wmX11_isTape : wmS yX11_isTape cX11_isTape 1 (some .boolean) 1 := ⟨gm (wt_7 (List.mem_of_getElem? (i := 12) rfl)) rfl, gm (wt_7 (List.mem_of_getElem? (i := 11) rfl)) rfl, gm (wt_1 (List.mem_of_getElem? (i := 14) rfl)) rfl, by decide +kernel⟩
theorem wmX11_judge : wmV yX11_judge cX11_judge 5 (some .int) 2 := ⟨gm (wt_7 (List.mem_of_getElem? (i := 9) rfl)) rfl, gm (wt_7 (List.mem_of_getElem? (i := 7) rfl)) rfl, gm (wt_7 (List.mem_of_getElem? (i := 8) rfl)) rfl, gm (wt_1 (List.mem_of_getElem? (i := 14) rfl)) rfl, by decide +kernel⟩
theorem wmX11_image : wmV yX11_image cX11_image 2 (some .int) 0 := ⟨gm (wt_7 (List.mem_of_getElem? (i := 16) rfl)) rfl, gm (wt_7 (List.mem_of_getElem? (i := 14) rfl)) rfl, gm (wt_7 (List.mem_of_getElem? (i := 15) rfl)) rfl, gm (wt_1 (List.mem_of_getElem? (i := 14) rfl)) rfl, by decide +kernel⟩
theorem wmX11_undo : wmV yX11_undo cX11_undo 2 (some .int) 0 := ⟨gm (wt_7 (List.mem_of_getElem? (i := 20) rfl)) rfl, gm (wt_7 (List.mem_of_getElem? (i := 18) rfl)) rfl, gm (wt_7 (List.mem_of_getElem? (i := 19) rfl)) rfl, gm (wt_1 (List.mem_of_getElem? (i := 14) rfl)) rfl, by decide +kernel⟩
theorem wmX11_ran : wmV yX11_ran cX11_ran 2 none 1 := ⟨gm (wt_7 (List.mem_of_getElem? (i := 32) rfl)) rfl, gm (wt_7 (List.mem_of_getElem? (i := 31) rfl)) rfl, gm (wt_0 (List.mem_of_getElem? (i := 67) rfl)) rfl, gm (wt_1 (List.mem_of_getElem? (i := 14) rfl)) rfl, by decide +kernel⟩
theorem wmX11_plainHolds : wmV yX11_plainHolds cX11_plainHolds 3 (some .int) 2 := ⟨gm (wt_7 (List.mem_of_getElem? (i := 36) rfl)) rfl, gm (wt_7 (List.mem_of_getElem? (i := 35) rfl)) rfl, gm (wt_0 (List.mem_of_getElem? (i := 68) rfl)) rfl, gm (wt_1 (List.mem_of_getElem? (i := 14) rfl)) rfl, by decide +kernel⟩
theorem wmX11_holding : wmV yX11_holding cX11_holding 3 (some .int) 2 := ⟨gm (wt_7 (List.mem_of_getElem? (i := 28) rfl)) rfl, gm (wt_7 (List.mem_of_getElem? (i := 27) rfl)) rfl, gm (wt_0 (List.mem_of_getElem? (i := 66) rfl)) rfl, gm (wt_1 (List.mem_of_getElem? (i := 14) rfl)) rfl, by decide +kernel⟩
theorem wmX11_plainChooses : wmV yX11_plainChooses cX11_plainChooses 3 (some .int) 2 := ⟨gm (wt_7 (List.mem_of_getElem? (i := 48) rfl)) rfl, gm (wt_7 (List.mem_of_getElem? (i := 47) rfl)) rfl, gm (wt_0 (List.mem_of_getElem? (i := 71) rfl)) rfl, gm (wt_1 (List.mem_of_getElem? (i := 14) rfl)) rfl, by decide +kernel⟩
theorem wmX11_fearedChooses : wmV yX11_fearedChooses cX11_fearedChooses 3 (some .int) 2 := ⟨gm (wt_7 (List.mem_of_getElem? (i := 44) rfl)) rfl, gm (wt_7 (List.mem_of_getElem? (i := 43) rfl)) rfl, gm (wt_0 (List.mem_of_getElem? (i := 70) rfl)) rfl, gm (wt_1 (List.mem_of_getElem? (i := 14) rfl)) rfl, by decide +kernel⟩
theorem wmX11_chooses : wmV yX11_chooses cX11_chooses 3 (some .int) 2 := ⟨gm (wt_7 (List.mem_of_getElem? (i := 40) rfl)) rfl, gm (wt_7 (List.mem_of_getElem? (i := 39) rfl)) rfl, gm (wt_0 (List.mem_of_getElem? (i := 69) rfl)) rfl, gm (wt_1 (List.mem_of_getElem? (i := 14) rfl)) rfl, by decide +kernel⟩
theorem wmX11_calledChooses : wmV yX11_calledChooses cX11_calledChooses 4 (some .int) 2 := ⟨gm (wt_7 (List.mem_of_getElem? (i := 52) rfl)) rfl, gm (wt_7 (List.mem_of_getElem? (i := 51) rfl)) rfl, gm (wt_0 (List.mem_of_getElem? (i := 72) rfl)) rfl, gm (wt_1 (List.mem_of_getElem? (i := 14) rfl)) rfl, by decide +kernel⟩
theorem wmX11_plainTells : wmV yX11_plainTells cX11_plainTells 3 (some .int) 2 := ⟨gm (wt_7 (List.mem_of_getElem? (i := 60) rfl)) rfl, gm (wt_7 (List.mem_of_getElem? (i := 59) rfl)) rfl, gm (wt_0 (List.mem_of_getElem? (i := 74) rfl)) rfl, gm (wt_1 (List.mem_of_getElem? (i := 14) rfl)) rfl, by decide +kernel⟩
theorem wmX11_telling : wmV yX11_telling cX11_telling 3 (some .int) 2 := ⟨gm (wt_7 (List.mem_of_getElem? (i := 56) rfl)) rfl, gm (wt_7 (List.mem_of_getElem? (i := 55) rfl)) rfl, gm (wt_0 (List.mem_of_getElem? (i := 73) rfl)) rfl, gm (wt_1 (List.mem_of_getElem? (i := 14) rfl)) rfl, by decide +kernel⟩
theorem wmX11_spoiltTells : wmV yX11_spoiltTells cX11_spoiltTells 4 (some .int) 2 := ⟨gm (wt_7 (List.mem_of_getElem? (i := 64) rfl)) rfl, gm (wt_7 (List.mem_of_getElem? (i := 63) rfl)) rfl, gm (wt_0 (List.mem_of_getElem? (i := 75) rfl)) rfl, gm (wt_1 (List.mem_of_getElem? (i := 14) rfl)) rfl, by decide +kernel⟩
theorem wmX11_part : wmV yX11_part cX11_part 4 (some .int) 3 := ⟨gm (wt_7 (List.mem_of_getElem? (i := 24) rfl)) rfl, gm (wt_7 (List.mem_of_getElem? (i := 22) rfl)) rfl, gm (wt_7 (List.mem_of_getElem? (i := 23) rfl)) rfl, gm (wt_1 (List.mem_of_getElem? (i := 14) rfl)) rfl, by decide +kernel⟩
theorem wmX11_trace : wmV yX11_trace cX11_trace 2 (some .int) 1 := ⟨gm (wt_7 (List.mem_of_getElem? (i := 68) rfl)) rfl, gm (wt_7 (List.mem_of_getElem? (i := 66) rfl)) rfl, gm (wt_7 (List.mem_of_getElem? (i := 67) rfl)) rfl, gm (wt_1 (List.mem_of_getElem? (i := 14) rfl)) rfl, by decide +kernel⟩
theorem wmX11_isUnder : wmS yX11_isUnder cX11_isUnder 2 (some .boolean) 2 := ⟨gm (wt_7 (List.mem_of_getElem? (i := 75) rfl)) rfl, gm (wt_7 (List.mem_of_getElem? (i := 74) rfl)) rfl, gm (wt_1 (List.mem_of_getElem? (i := 14) rfl)) rfl, by decide +kernel⟩
theorem wmX11_taken : wmV yX11_taken cX11_taken 3 (some .int) 2 := ⟨gm (wt_7 (List.mem_of_getElem? (i := 72) rfl)) rfl, gm (wt_7 (List.mem_of_getElem? (i := 70) rfl)) rfl, gm (wt_7 (List.mem_of_getElem? (i := 71) rfl)) rfl, gm (wt_1 (List.mem_of_getElem? (i := 14) rfl)) rfl, by decide +kernel⟩
theorem wmX11_count : wmV yX11_count cX11_count 2 (some .int) 1 := ⟨gm (wt_7 (List.mem_of_getElem? (i := 79) rfl)) rfl, gm (wt_7 (List.mem_of_getElem? (i := 77) rfl)) rfl, gm (wt_7 (List.mem_of_getElem? (i := 78) rfl)) rfl, gm (wt_1 (List.mem_of_getElem? (i := 14) rfl)) rfl, by decide +kernel⟩
theorem wmX11_tape : wmV yX11_tape cX11_tape 5 (some .int) 3 := ⟨gm (wt_7 (List.mem_of_getElem? (i := 83) rfl)) rfl, gm (wt_7 (List.mem_of_getElem? (i := 81) rfl)) rfl, gm (wt_7 (List.mem_of_getElem? (i := 82) rfl)) rfl, gm (wt_1 (List.mem_of_getElem? (i := 14) rfl)) rfl, by decide +kernel⟩
theorem wmX11_as : wmS yX11_as cX11_as 3 (some .long) 2 := ⟨gm (wt_7 (List.mem_of_getElem? (i := 90) rfl)) rfl, gm (wt_7 (List.mem_of_getElem? (i := 89) rfl)) rfl, gm (wt_1 (List.mem_of_getElem? (i := 14) rfl)) rfl, by decide +kernel⟩
theorem wmX11_item : wmV yX11_item cX11_item 5 (some .int) 3 := ⟨gm (wt_7 (List.mem_of_getElem? (i := 87) rfl)) rfl, gm (wt_7 (List.mem_of_getElem? (i := 85) rfl)) rfl, gm (wt_7 (List.mem_of_getElem? (i := 86) rfl)) rfl, gm (wt_1 (List.mem_of_getElem? (i := 14) rfl)) rfl, by decide +kernel⟩
theorem wmX11_read : wmV yX11_read cX11_read 3 (some .long) 2 := ⟨gm (wt_7 (List.mem_of_getElem? (i := 94) rfl)) rfl, gm (wt_7 (List.mem_of_getElem? (i := 92) rfl)) rfl, gm (wt_7 (List.mem_of_getElem? (i := 93) rfl)) rfl, gm (wt_1 (List.mem_of_getElem? (i := 14) rfl)) rfl, by decide +kernel⟩
theorem wmX11_shift : wmV yX11_shift cX11_shift 7 (some .int) 5 := ⟨gm (wt_7 (List.mem_of_getElem? (i := 98) rfl)) rfl, gm (wt_7 (List.mem_of_getElem? (i := 96) rfl)) rfl, gm (wt_7 (List.mem_of_getElem? (i := 97) rfl)) rfl, gm (wt_1 (List.mem_of_getElem? (i := 14) rfl)) rfl, by decide +kernel⟩
theorem wmJ11_isValidCodePoint_9a6ad : wmS yJ11_isValidCodePoint_9a6ad cJ11_isValidCodePoint_9a6ad 2 (some .boolean) 1 := ⟨gm (wt_3 (List.mem_of_getElem? (i := 61) rfl)) rfl, gm (wt_3 (List.mem_of_getElem? (i := 60) rfl)) rfl, gm (wt_1 (List.mem_of_getElem? (i := 19) rfl)) rfl, by decide +kernel⟩
theorem wmJ11_highSurrogate_5068e : wmS yJ11_highSurrogate_5068e cJ11_highSurrogate_5068e 1 (some .char) 1 := ⟨gm (wt_3 (List.mem_of_getElem? (i := 64) rfl)) rfl, gm (wt_3 (List.mem_of_getElem? (i := 63) rfl)) rfl, gm (wt_1 (List.mem_of_getElem? (i := 19) rfl)) rfl, by decide +kernel⟩
theorem wmJ11_lowSurrogate_5068e : wmS yJ11_lowSurrogate_5068e cJ11_lowSurrogate_5068e 1 (some .char) 1 := ⟨gm (wt_3 (List.mem_of_getElem? (i := 68) rfl)) rfl, gm (wt_3 (List.mem_of_getElem? (i := 67) rfl)) rfl, gm (wt_1 (List.mem_of_getElem? (i := 19) rfl)) rfl, by decide +kernel⟩
theorem wmJ9_abs_0f7a4 : wmS yJ9_abs_0f7a4 cJ9_abs_0f7a4 1 (some .int) 1 := ⟨gm (wt_3 (List.mem_of_getElem? (i := 124) rfl)) rfl, gm (wt_3 (List.mem_of_getElem? (i := 123) rfl)) rfl, gm (wt_1 (List.mem_of_getElem? (i := 5) rfl)) rfl, by decide +kernel⟩
theorem wmJ9_max_7cf53 : wmS yJ9_max_7cf53 cJ9_max_7cf53 2 (some .int) 2 := ⟨gm (wt_1 (List.mem_of_getElem? (i := 63) rfl)) rfl, gm (wt_1 (List.mem_of_getElem? (i := 62) rfl)) rfl, gm (wt_1 (List.mem_of_getElem? (i := 5) rfl)) rfl, by decide +kernel⟩
theorem wmJ9_min_7cf53 : wmS yJ9_min_7cf53 cJ9_min_7cf53 2 (some .int) 2 := ⟨gm (wt_3 (List.mem_of_getElem? (i := 31) rfl)) rfl, gm (wt_3 (List.mem_of_getElem? (i := 30) rfl)) rfl, gm (wt_1 (List.mem_of_getElem? (i := 5) rfl)) rfl, by decide +kernel⟩
theorem wmJ0_length_8abf5 : wmV yJ0_length_8abf5 cJ0_length_8abf5 1 (some .int) 0 := ⟨gm (wt_2 (List.mem_of_getElem? (i := 170) rfl)) rfl, gm (wt_2 (List.mem_of_getElem? (i := 168) rfl)) rfl, gm (wt_2 (List.mem_of_getElem? (i := 169) rfl)) rfl, gm (wt_1 (List.mem_of_getElem? (i := 15) rfl)) rfl, by decide +kernel⟩
theorem wmJ0_charAt_5068e : wmV yJ0_charAt_5068e cJ0_charAt_5068e 2 (some .char) 1 := ⟨gm (wt_2 (List.mem_of_getElem? (i := 184) rfl)) rfl, gm (wt_2 (List.mem_of_getElem? (i := 182) rfl)) rfl, gm (wt_2 (List.mem_of_getElem? (i := 183) rfl)) rfl, gm (wt_1 (List.mem_of_getElem? (i := 15) rfl)) rfl, by decide +kernel⟩
theorem wmJ0_indexOf_0f7a4 : wmV yJ0_indexOf_0f7a4 cJ0_indexOf_0f7a4 2 (some .int) 1 := ⟨gm (wt_3 (List.mem_of_getElem? (i := 16) rfl)) rfl, gm (wt_3 (List.mem_of_getElem? (i := 14) rfl)) rfl, gm (wt_3 (List.mem_of_getElem? (i := 15) rfl)) rfl, gm (wt_1 (List.mem_of_getElem? (i := 15) rfl)) rfl, by decide +kernel⟩
theorem wmJ0_indexOf_7cf53 : wmV yJ0_indexOf_7cf53 cJ0_indexOf_7cf53 3 (some .int) 2 := ⟨gm (wt_3 (List.mem_of_getElem? (i := 20) rfl)) rfl, gm (wt_3 (List.mem_of_getElem? (i := 18) rfl)) rfl, gm (wt_3 (List.mem_of_getElem? (i := 19) rfl)) rfl, gm (wt_1 (List.mem_of_getElem? (i := 15) rfl)) rfl, by decide +kernel⟩
theorem wmJ0_coder_7d493 : wmV yJ0_coder_7d493 cJ0_coder_7d493 1 (some .byte) 0 := ⟨gm (wt_2 (List.mem_of_getElem? (i := 174) rfl)) rfl, gm (wt_2 (List.mem_of_getElem? (i := 172) rfl)) rfl, gm (wt_2 (List.mem_of_getElem? (i := 173) rfl)) rfl, gm (wt_1 (List.mem_of_getElem? (i := 15) rfl)) rfl, by decide +kernel⟩
theorem wmJ0_isLatin1_aae02 : wmV yJ0_isLatin1_aae02 cJ0_isLatin1_aae02 1 (some .boolean) 0 := ⟨gm (wt_2 (List.mem_of_getElem? (i := 188) rfl)) rfl, gm (wt_2 (List.mem_of_getElem? (i := 186) rfl)) rfl, gm (wt_2 (List.mem_of_getElem? (i := 187) rfl)) rfl, gm (wt_1 (List.mem_of_getElem? (i := 15) rfl)) rfl, by decide +kernel⟩
theorem wmJ0_checkIndex_df160 : wmS yJ0_checkIndex_df160 cJ0_checkIndex_df160 2 none 2 := ⟨gm (wt_2 (List.mem_of_getElem? (i := 194) rfl)) rfl, gm (wt_2 (List.mem_of_getElem? (i := 193) rfl)) rfl, gm (wt_1 (List.mem_of_getElem? (i := 15) rfl)) rfl, by decide +kernel⟩
theorem wmJ0_checkBoundsBeginEnd_23922 : wmS yJ0_checkBoundsBeginEnd_23922 cJ0_checkBoundsBeginEnd_23922 3 none 3 := ⟨gm (wt_3 (List.mem_of_getElem? (i := 49) rfl)) rfl, gm (wt_3 (List.mem_of_getElem? (i := 48) rfl)) rfl, gm (wt_1 (List.mem_of_getElem? (i := 15) rfl)) rfl, by decide +kernel⟩
theorem wmJ1_charAt_3b067 : wmS yJ1_charAt_3b067 cJ1_charAt_3b067 2 (some .char) 2 := ⟨gm (wt_2 (List.mem_of_getElem? (i := 191) rfl)) rfl, gm (wt_2 (List.mem_of_getElem? (i := 190) rfl)) rfl, gm (wt_1 (List.mem_of_getElem? (i := 16) rfl)) rfl, by decide +kernel⟩
theorem wmJ1_canEncode_9a6ad : wmS yJ1_canEncode_9a6ad cJ1_canEncode_9a6ad 1 (some .boolean) 1 := ⟨gm (wt_3 (List.mem_of_getElem? (i := 27) rfl)) rfl, gm (wt_3 (List.mem_of_getElem? (i := 26) rfl)) rfl, gm (wt_1 (List.mem_of_getElem? (i := 16) rfl)) rfl, by decide +kernel⟩
theorem wmJ1_indexOf_4cfef : wmS yJ1_indexOf_4cfef cJ1_indexOf_4cfef 4 (some .int) 4 := ⟨gm (wt_3 (List.mem_of_getElem? (i := 24) rfl)) rfl, gm (wt_3 (List.mem_of_getElem? (i := 23) rfl)) rfl, gm (wt_1 (List.mem_of_getElem? (i := 16) rfl)) rfl, by decide +kernel⟩
theorem wmJ1_indexOfChar_4cfef : wmS yJ1_indexOfChar_4cfef cJ1_indexOfChar_4cfef 6 (some .int) 4 := ⟨gm (wt_3 (List.mem_of_getElem? (i := 34) rfl)) rfl, gm (wt_3 (List.mem_of_getElem? (i := 33) rfl)) rfl, gm (wt_1 (List.mem_of_getElem? (i := 16) rfl)) rfl, by decide +kernel⟩
theorem wmJ2_getChar_3b067 : wmS yJ2_getChar_3b067 cJ2_getChar_3b067 2 (some .char) 2 := ⟨gm (wt_2 (List.mem_of_getElem? (i := 212) rfl)) rfl, gm (wt_2 (List.mem_of_getElem? (i := 211) rfl)) rfl, gm (wt_1 (List.mem_of_getElem? (i := 18) rfl)) rfl, by decide +kernel⟩
theorem wmJ2_length_9d52b : wmS yJ2_length_9d52b cJ2_length_9d52b 1 (some .int) 1 := ⟨gm (wt_2 (List.mem_of_getElem? (i := 208) rfl)) rfl, gm (wt_2 (List.mem_of_getElem? (i := 207) rfl)) rfl, gm (wt_1 (List.mem_of_getElem? (i := 18) rfl)) rfl, by decide +kernel⟩
theorem wmJ2_indexOf_4cfef : wmS yJ2_indexOf_4cfef cJ2_indexOf_4cfef 4 (some .int) 4 := ⟨gm (wt_3 (List.mem_of_getElem? (i := 37) rfl)) rfl, gm (wt_3 (List.mem_of_getElem? (i := 36) rfl)) rfl, gm (wt_1 (List.mem_of_getElem? (i := 18) rfl)) rfl, by decide +kernel⟩
theorem wmJ2_indexOfChar_4cfef : wmS yJ2_indexOfChar_4cfef cJ2_indexOfChar_4cfef 4 (some .int) 4 := ⟨gm (wt_3 (List.mem_of_getElem? (i := 43) rfl)) rfl, gm (wt_3 (List.mem_of_getElem? (i := 42) rfl)) rfl, gm (wt_1 (List.mem_of_getElem? (i := 18) rfl)) rfl, by decide +kernel⟩
theorem wmJ2_indexOfCharUnsafe_4cfef : wmS yJ2_indexOfCharUnsafe_4cfef cJ2_indexOfCharUnsafe_4cfef 5 (some .int) 4 := ⟨gm (wt_3 (List.mem_of_getElem? (i := 55) rfl)) rfl, gm (wt_3 (List.mem_of_getElem? (i := 54) rfl)) rfl, gm (wt_1 (List.mem_of_getElem? (i := 18) rfl)) rfl, by decide +kernel⟩
theorem wmJ2_indexOfSupplementary_4cfef : wmS yJ2_indexOfSupplementary_4cfef cJ2_indexOfSupplementary_4cfef 7 (some .int) 4 := ⟨gm (wt_3 (List.mem_of_getElem? (i := 58) rfl)) rfl, gm (wt_3 (List.mem_of_getElem? (i := 57) rfl)) rfl, gm (wt_1 (List.mem_of_getElem? (i := 18) rfl)) rfl, by decide +kernel⟩
theorem wmJ2_charAt_3b067 : wmS yJ2_charAt_3b067 cJ2_charAt_3b067 2 (some .char) 2 := ⟨gm (wt_2 (List.mem_of_getElem? (i := 202) rfl)) rfl, gm (wt_2 (List.mem_of_getElem? (i := 201) rfl)) rfl, gm (wt_1 (List.mem_of_getElem? (i := 18) rfl)) rfl, by decide +kernel⟩
theorem wmJ2_checkIndex_2214a : wmS yJ2_checkIndex_2214a cJ2_checkIndex_2214a 2 none 2 := ⟨gm (wt_2 (List.mem_of_getElem? (i := 205) rfl)) rfl, gm (wt_2 (List.mem_of_getElem? (i := 204) rfl)) rfl, gm (wt_1 (List.mem_of_getElem? (i := 18) rfl)) rfl, by decide +kernel⟩
theorem wmJ2_checkBoundsBeginEnd_d044e : wmS yJ2_checkBoundsBeginEnd_d044e cJ2_checkBoundsBeginEnd_d044e 3 none 3 := ⟨gm (wt_3 (List.mem_of_getElem? (i := 46) rfl)) rfl, gm (wt_3 (List.mem_of_getElem? (i := 45) rfl)) rfl, gm (wt_1 (List.mem_of_getElem? (i := 18) rfl)) rfl, by decide +kernel⟩
theorem wmJ7_rangeCheck_23922 : wmS yJ7_rangeCheck_23922 cJ7_rangeCheck_23922 3 none 3 := ⟨gm (wt_1 (List.mem_of_getElem? (i := 142) rfl)) rfl, gm (wt_1 (List.mem_of_getElem? (i := 141) rfl)) rfl, gm (wt_1 (List.mem_of_getElem? (i := 10) rfl)) rfl, by decide +kernel⟩
theorem wmJ7_fill_d0a16 : wmS yJ7_fill_d0a16 cJ7_fill_d0a16 5 none 2 := ⟨gm (wt_5 (List.mem_of_getElem? (i := 33) rfl)) rfl, gm (wt_5 (List.mem_of_getElem? (i := 32) rfl)) rfl, gm (wt_1 (List.mem_of_getElem? (i := 10) rfl)) rfl, by decide +kernel⟩
theorem wmJ7_fill_fda19 : wmS yJ7_fill_fda19 cJ7_fill_fda19 5 none 4 := ⟨gm (wt_1 (List.mem_of_getElem? (i := 139) rfl)) rfl, gm (wt_1 (List.mem_of_getElem? (i := 138) rfl)) rfl, gm (wt_1 (List.mem_of_getElem? (i := 10) rfl)) rfl, by decide +kernel⟩
theorem wmJ3_checkIndex_8e157 : wmS yJ3_checkIndex_8e157 cJ3_checkIndex_8e157 3 (some .int) 3 := ⟨gm (wt_2 (List.mem_of_getElem? (i := 199) rfl)) rfl, gm (wt_2 (List.mem_of_getElem? (i := 198) rfl)) rfl, gm (wt_1 (List.mem_of_getElem? (i := 17) rfl)) rfl, by decide +kernel⟩
theorem wmJ3_checkFromToIndex_8c36e : wmS yJ3_checkFromToIndex_8c36e cJ3_checkFromToIndex_8c36e 4 (some .int) 4 := ⟨gm (wt_3 (List.mem_of_getElem? (i := 52) rfl)) rfl, gm (wt_3 (List.mem_of_getElem? (i := 51) rfl)) rfl, gm (wt_1 (List.mem_of_getElem? (i := 17) rfl)) rfl, by decide +kernel⟩
theorem wn_copy : Cond.native arraycopyName ∈ gw_tbl := gm (wt_3 (List.mem_of_getElem? (i := 235) rfl)) rfl
theorem wn_copyS : Cond.static arraycopyName ∈ gw_tbl := gm (wt_3 (List.mem_of_getElem? (i := 234) rfl)) rfl
theorem wn_sys : Cond.initialized "java/lang/System" ∈ gw_tbl := gm (wt_1 (List.mem_of_getElem? (i := 20) rfl)) rfl
theorem wn_math : Cond.initialized "java/lang/Math" ∈ gw_tbl := gm (wt_1 (List.mem_of_getElem? (i := 5) rfl)) rfl
theorem wn_maxS : Cond.static Lib.Math.max.name ∈ gw_tbl := gm (wt_1 (List.mem_of_getElem? (i := 62) rfl)) rfl
theorem wn_maxC : Cond.code Lib.Math.max.name Lib.Math.max.code 2 (some .int) ∈ gw_tbl := gm (wt_1 (List.mem_of_getElem? (i := 63) rfl)) rfl
theorem wn_minS : Cond.static Lib.Math.min.name ∈ gw_tbl := gm (wt_3 (List.mem_of_getElem? (i := 30) rfl)) rfl
theorem wn_minC : Cond.code Lib.Math.min.name Lib.Math.min.code 2 (some .int) ∈ gw_tbl := gm (wt_3 (List.mem_of_getElem? (i := 31) rfl)) rfl
theorem wn_absS : Cond.static Lib.Math.abs.name ∈ gw_tbl := gm (wt_3 (List.mem_of_getElem? (i := 123) rfl)) rfl
theorem wn_absC : Cond.code Lib.Math.abs.name Lib.Math.abs.code 1 (some .int) ∈ gw_tbl := gm (wt_3 (List.mem_of_getElem? (i := 124) rfl)) rfl
theorem wn_objI : Cond.instanceMethod objectInit ∈ gw_tbl := gm (wt_1 (List.mem_of_getElem? (i := 27) rfl)) rfl
theorem wn_objC : Cond.code objectInit ⟨#[0xb1]⟩ 1 none ∈ gw_tbl := gm (wt_1 (List.mem_of_getElem? (i := 28) rfl)) rfl
theorem wn_instX10 : Cond.instantiable RX10 12 ∈ gw_tbl := gm (wt_1 (List.mem_of_getElem? (i := 22) rfl)) rfl
theorem wn_instX4 : Cond.instantiable RX4 4 ∈ gw_tbl := gm (wt_1 (List.mem_of_getElem? (i := 30) rfl)) rfl
theorem wn_instX7 : Cond.instantiable RX7 2 ∈ gw_tbl := gm (wt_1 (List.mem_of_getElem? (i := 50) rfl)) rfl
theorem wn_instX5 : Cond.instantiable RX5 2 ∈ gw_tbl := gm (wt_1 (List.mem_of_getElem? (i := 56) rfl)) rfl
theorem wn_instX2 : Cond.instantiable RX2 6 ∈ gw_tbl := gm (wt_1 (List.mem_of_getElem? (i := 80) rfl)) rfl
theorem wn_instX9 : Cond.instantiable RX9 4 ∈ gw_tbl := gm (wt_1 (List.mem_of_getElem? (i := 105) rfl)) rfl
theorem wn_instX3 : Cond.instantiable RX3 6 ∈ gw_tbl := gm (wt_1 (List.mem_of_getElem? (i := 124) rfl)) rfl
theorem wn_instX1 : Cond.instantiable RX1 1 ∈ gw_tbl := gm (wt_1 (List.mem_of_getElem? (i := 130) rfl)) rfl
theorem wn_instX8 : Cond.instantiable RX8 9 ∈ gw_tbl := gm (wt_1 (List.mem_of_getElem? (i := 179) rfl)) rfl
theorem wn_instX0 : Cond.instantiable RX0 6 ∈ gw_tbl := gm (wt_1 (List.mem_of_getElem? (i := 216) rfl)) rfl
theorem wn_instX6 : Cond.instantiable RX6 3 ∈ gw_tbl := gm (wt_2 (List.mem_of_getElem? (i := 4) rfl)) rfl
theorem wn_instX11 : Cond.instantiable RX11 51 ∈ gw_tbl := gm (wt_5 (List.mem_of_getElem? (i := 67) rfl)) rfl
theorem wn_initL : Cond.initialized RL ∈ gw_tbl := gm (wt_1 (List.mem_of_getElem? (i := 0) rfl)) rfl
theorem wn_initX10 : Cond.initialized RX10 ∈ gw_tbl := gm (wt_1 (List.mem_of_getElem? (i := 1) rfl)) rfl
theorem wn_initX4 : Cond.initialized RX4 ∈ gw_tbl := gm (wt_1 (List.mem_of_getElem? (i := 2) rfl)) rfl
theorem wn_initX7 : Cond.initialized RX7 ∈ gw_tbl := gm (wt_1 (List.mem_of_getElem? (i := 3) rfl)) rfl
theorem wn_initX5 : Cond.initialized RX5 ∈ gw_tbl := gm (wt_1 (List.mem_of_getElem? (i := 4) rfl)) rfl
theorem wn_initJ9 : Cond.initialized RJ9 ∈ gw_tbl := gm (wt_1 (List.mem_of_getElem? (i := 5) rfl)) rfl
theorem wn_initX2 : Cond.initialized RX2 ∈ gw_tbl := gm (wt_1 (List.mem_of_getElem? (i := 6) rfl)) rfl
theorem wn_initX9 : Cond.initialized RX9 ∈ gw_tbl := gm (wt_1 (List.mem_of_getElem? (i := 7) rfl)) rfl
theorem wn_initX3 : Cond.initialized RX3 ∈ gw_tbl := gm (wt_1 (List.mem_of_getElem? (i := 8) rfl)) rfl
theorem wn_initX1 : Cond.initialized RX1 ∈ gw_tbl := gm (wt_1 (List.mem_of_getElem? (i := 9) rfl)) rfl
theorem wn_initJ7 : Cond.initialized RJ7 ∈ gw_tbl := gm (wt_1 (List.mem_of_getElem? (i := 10) rfl)) rfl
theorem wn_initX8 : Cond.initialized RX8 ∈ gw_tbl := gm (wt_1 (List.mem_of_getElem? (i := 11) rfl)) rfl
theorem wn_initX0 : Cond.initialized RX0 ∈ gw_tbl := gm (wt_1 (List.mem_of_getElem? (i := 12) rfl)) rfl
theorem wn_initX6 : Cond.initialized RX6 ∈ gw_tbl := gm (wt_1 (List.mem_of_getElem? (i := 13) rfl)) rfl
theorem wn_initX11 : Cond.initialized RX11 ∈ gw_tbl := gm (wt_1 (List.mem_of_getElem? (i := 14) rfl)) rfl
theorem wn_initJ0 : Cond.initialized RJ0 ∈ gw_tbl := gm (wt_1 (List.mem_of_getElem? (i := 15) rfl)) rfl
theorem wn_initJ1 : Cond.initialized RJ1 ∈ gw_tbl := gm (wt_1 (List.mem_of_getElem? (i := 16) rfl)) rfl
theorem wn_initJ3 : Cond.initialized RJ3 ∈ gw_tbl := gm (wt_1 (List.mem_of_getElem? (i := 17) rfl)) rfl
theorem wn_initJ2 : Cond.initialized RJ2 ∈ gw_tbl := gm (wt_1 (List.mem_of_getElem? (i := 18) rfl)) rfl
theorem wn_initJ11 : Cond.initialized RJ11 ∈ gw_tbl := gm (wt_1 (List.mem_of_getElem? (i := 19) rfl)) rfl
theorem wn_initJ10 : Cond.initialized RJ10 ∈ gw_tbl := gm (wt_1 (List.mem_of_getElem? (i := 20) rfl)) rfl
theorem wn_arr0 : Cond.arrayClass .int ∈ gw_tbl := gm (wt_1 (List.mem_of_getElem? (i := 48) rfl)) rfl
theorem wn_arr1 : Cond.arrayClass .long ∈ gw_tbl := gm (wt_2 (List.mem_of_getElem? (i := 19) rfl)) rfl
theorem wn_arr2 : Cond.arrayClass .byte ∈ gw_tbl := gm (wt_3 (List.mem_of_getElem? (i := 90) rfl)) rfl
theorem wn_arr3 : Cond.arrayClass .boolean ∈ gw_tbl := gm (wt_5 (List.mem_of_getElem? (i := 225) rfl)) rfl
