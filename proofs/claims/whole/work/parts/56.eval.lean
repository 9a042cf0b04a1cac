/-! PURE: a law's rows in the class, and what they say -/
theorem bt_tab : ∀ a : Fin 64, ∀ b : Fin 64, nI (64 * a.val + b.val) ^^^ 1 = nI (if (64 * a.val + b.val) % 2 = 0 then 64 * a.val + b.val + 1 else 64 * a.val + b.val - 1) ∧ (nI (64 * a.val + b.val) >>> (1 &&& 31)) &&& ((nI (64 * a.val + b.val) &&& 1) ||| (-2)) = nI (if (64 * a.val + b.val) % 2 = 1 then (64 * a.val + b.val) / 2 else (64 * a.val + b.val) / 2 / 2 * 2) ∧ (nI (64 * a.val + b.val) >>> (1 &&& 31)) ||| (nI (64 * a.val + b.val) &&& 1) = nI (if (64 * a.val + b.val) % 2 = 1 then (64 * a.val + b.val) / 2 / 2 * 2 + 1 else (64 * a.val + b.val) / 2) ∧ (nI (64 * a.val + b.val) <<< (1 &&& 31)) ||| 0 = nI (2 * (64 * a.val + b.val)) ∧ (nI (64 * a.val + b.val) <<< (1 &&& 31)) ||| 1 = nI (2 * (64 * a.val + b.val) + 1) := by decide +kernel
theorem bt (s : Nat) (hs : s < 4096) : nI s ^^^ 1 = nI (if s % 2 = 0 then s + 1 else s - 1) ∧ (nI s >>> (1 &&& 31)) &&& ((nI s &&& 1) ||| (-2)) = nI (if s % 2 = 1 then s / 2 else s / 2 / 2 * 2) ∧ (nI s >>> (1 &&& 31)) ||| (nI s &&& 1) = nI (if s % 2 = 1 then s / 2 / 2 * 2 + 1 else s / 2) ∧ (nI s <<< (1 &&& 31)) ||| 0 = nI (2 * s) ∧ (nI s <<< (1 &&& 31)) ||| 1 = nI (2 * s + 1) := by
  have h := bt_tab ⟨s / 64, by omega⟩ ⟨s % 64, by omega⟩
  have e : 64 * (s / 64) + s % 64 = s := by omega
  dsimp only at h
  rw [e] at h
  exact h
theorem cd_tab : ∀ q : Fin 9, ∀ sg : Fin 3, ∀ n : Fin 100, nI (1000 * q.val + 100 * sg.val + n.val) / 1000 = nI q.val ∧ nI (1000 * q.val + 100 * sg.val + n.val) / 100 - nI (1000 * q.val + 100 * sg.val + n.val) / 100 / 10 * 10 = nI sg.val ∧ nI (1000 * q.val + 100 * sg.val + n.val) - nI (1000 * q.val + 100 * sg.val + n.val) / 100 * 100 = nI n.val ∧ nI (1000 * q.val + 100 * sg.val + n.val) ≠ -1 ∧ nI (1000 * q.val + 100 * sg.val + n.val) ≠ -2 ∧ nI (1000 * q.val + 100 * sg.val + n.val) ≠ -3 := by decide +kernel
theorem tg_step {g : STt} {L T k s : Nat} (K : (Int32 × Int32) → Option Int32) (hk : k < T) (hT : T ≤ 100) (hs : s < 4096) (t : TkT) (hc : g.2.1 28 L k = encC t) (ht : t.1 = 0 → t.2.1 < 9 ∧ t.2.2.1 < 3 ∧ t.2.2.2 < 100) : fX2_isTrue_l57c K g L (nI T) (nI s) (nI k) = K (nI (stC (g.2.1 7 0) t s), nI (k + 1)) := by
  obtain ⟨b1, b2, b3, b4, b5⟩ := bt s hs
  obtain ⟨t1, q, sg, n⟩ := t
  unfold fX2_isTrue_l57c fX2_isTrue_j265 fX2_isTrue_j190 fX2_isTrue_j191 fX2_isTrue_j246 fX2_isTrue_j262 fX2_isTrue_j265
  rw [if_neg (nI_pos (show k < 2 ^ 31 by omega)), if_neg (nI_ge hk (by omega)), if_neg (show ¬ (100 : Int32) ≤ nI k from nI_ge (b := 100) (by omega) (by omega)), if_pos (inB_nI (by omega) (by omega)), nI_c (by omega), hc, nI_1]
  unfold encC stC
  by_cases c0 : t1 = 0
  · obtain ⟨q9, s3, n100⟩ := ht c0
    have q9 : q < 9 := q9
    have s3 : sg < 3 := s3
    have n100 : n < 100 := n100
    obtain ⟨d1, d2, d3, d4, d5, d6⟩ := cd_tab ⟨q, q9⟩ ⟨sg, s3⟩ ⟨n, n100⟩
    dsimp only at d1 d2 d3 d4 d5 d6 ⊢
    rw [if_pos c0, if_pos c0, if_neg d4, if_neg d5, if_neg d6, d1, d2, d3, if_neg (nI_pos (show q < 2 ^ 31 by omega)), if_neg (show ¬ (9 : Int32) ≤ nI q from nI_ge (b := 9) q9 (by omega)), if_pos (inB_nI q9 (by omega)), nI_c (k := q) (by omega), b4, b5]
    have e : sg = 0 ∨ sg = 1 ∨ sg = 2 := by omega
    rcases e with rfl | rfl | rfl
    · rw [if_pos (show nI 0 = 0 from rfl)]
      rw [show tsB (g.2.1 7 0) q 0 n = decide (g.2.1 7 0 q < nI n) from rfl]
      by_cases c : nI n ≤ g.2.1 7 0 q
      · rw [if_pos c, if_pos rfl, decide_eq_false (Int32.not_lt.mpr c)]; rfl
      · rw [if_neg c, if_neg (by decide), decide_eq_true (Int32.not_le.mp c)]; rfl
    · rw [if_neg (show ¬ nI 1 = 0 by decide), if_pos (show nI 1 = 1 from rfl)]
      rw [show tsB (g.2.1 7 0) q 1 n = decide (g.2.1 7 0 q = nI n) from rfl]
      by_cases c : g.2.1 7 0 q = nI n
      · rw [if_pos c, if_neg (by decide), decide_eq_true c]; rfl
      · rw [if_neg c, if_pos rfl, decide_eq_false c]; rfl
    · rw [if_neg (show ¬ nI 2 = 0 by decide), if_neg (show ¬ nI 2 = 1 by decide)]
      rw [show tsB (g.2.1 7 0) q 2 n = decide (nI n < g.2.1 7 0 q) from rfl]
      by_cases c : g.2.1 7 0 q ≤ nI n
      · rw [if_pos c, if_pos rfl, decide_eq_false (Int32.not_lt.mpr c)]; rfl
      · rw [if_neg c, if_neg (by decide), decide_eq_true (Int32.not_le.mp c)]; rfl
  · dsimp only
    rw [if_neg c0, if_neg c0]
    by_cases c1 : t1 = 1
    · rw [if_pos c1, if_pos c1, if_pos rfl, b1]
    · rw [if_neg c1, if_neg c1]
      by_cases c2 : t1 = 2
      · rw [if_pos c2, if_pos c2, if_neg (by decide), if_pos rfl, b2]
      · rw [if_neg c2, if_neg c2, if_neg (by decide), if_neg (by decide), if_pos rfl, b3]
theorem tg_run {g : STt} {L T : Nat} (hT : T ≤ 100) : ∀ (l : List TkT) (k s u fu : Nat), k + l.length = T → l.length < fu → HdC (g.2.1 28 L) k l → rnC (g.2.1 7 0) l s = some u → iterO (fun K z => fX2_isTrue_l57c K g L (nI T) z.1 z.2) fu (nI s, nI k) = fX2_isTrue_j271 g (nI u)
  | [], k, s, u, fu, hk, hf, _, hr => by
    cases hr
    obtain ⟨fu, rfl⟩ : ∃ j, fu = j + 1 := ⟨fu - 1, by omega⟩
    have hk : k + 0 = T := hk
    rw [iterO_succ]
    show fX2_isTrue_l57c _ g L (nI T) (nI s) (nI k) = _
    unfold fX2_isTrue_l57c
    rw [if_neg (nI_pos (show k < 2 ^ 31 by omega)), if_pos (nI_le (by omega) (by omega))]
  | t :: l, k, s, u, fu, hk, hf, hh, hr => by
    obtain ⟨fu, rfl⟩ : ∃ j, fu = j + 1 := ⟨fu - 1, by omega⟩
    rw [List.length_cons] at hk hf
    have hr : (if s < 4096 then rnC (g.2.1 7 0) l (stC (g.2.1 7 0) t s) else none) = some u := hr
    by_cases c : s < 4096
    · rw [if_pos c] at hr
      rw [iterO_succ]
      refine (tg_step _ (by omega) hT c t hh.1 hh.2.1).trans ?_
      exact tg_run hT l (k + 1) _ u fu (by omega) (by omega) hh.2.2 hr
    · rw [if_neg c] at hr; cases hr
/-- a clause: its word, its n, its E -/
abbrev ClT : Type := Nat × Nat × ((Nat → Int32) → Bool)
def RcL (W N S Q : Nat → Int32) : Nat → Nat → List ClT → Nat → Prop
  | _, c, [], e => c = e
  | k, c, x :: xs, e => ∃ l : List TkT, x.1 < 7 ∧ x.2.1 < 100 ∧ W k = nI x.1 ∧ N k = nI x.2.1 ∧ S k = nI c ∧ c + l.length ≤ 100 ∧ (x.1 < 3 → HdC Q c l ∧ GdC 11 l x.2.2) ∧ RcL W N S Q (k + 1) (c + l.length) xs e
def tgN (w : Nat) (F : Nat → Int32) : List ClT → Nat
  | [] => 0
  | x :: xs => (if x.1 = w ∧ x.2.2 F = true then x.2.1 else 0) + tgN w F xs
def ltN (w : Nat) : List ClT → Int32 → Int32
  | [], d => d
  | x :: xs, d => ltN w xs (if x.1 = w then nI x.2.1 else d)
theorem RcL_le {W N S Q : Nat → Int32} : ∀ (xs : List ClT) (k c e : Nat), RcL W N S Q k c xs e → c ≤ e
  | [], _, _, _, h => Nat.le_of_eq h
  | x :: xs, k, c, e, h => by
    obtain ⟨l, -, -, -, -, -, -, -, h⟩ := h
    have := RcL_le xs _ _ _ h
    omega
theorem so_row {g : STt} {L k c e T : Nat} {x : ClT} {xs : List ClT} (h : RcL (g.2.1 25 L) (g.2.1 26 L) (g.2.1 27 L) (g.2.1 28 L) k c (x :: xs) e) (hT : k + (x :: xs).length = T) (hT10 : T ≤ 10) (h23 : g.1 23 L = nI T) (h24 : g.1 24 L = nI e) (he : e ≤ 100) (hw : x.1 < 3) : fX2_isTrue g L (nI k) = some (if x.2.2 (g.2.1 7 0) = true then 1 else 0) := by
  obtain ⟨l, -, -, -, -, hS, hl, hx, hr⟩ := h
  obtain ⟨hd, gd⟩ := hx hw
  rw [List.length_cons] at hT
  have hrun := gd (g.2.1 7 0) 0 (by decide)
  have fin : fX2_isTrue_l57 g L (nI (c + l.length)) 0 (nI c) = some (if x.2.2 (g.2.1 7 0) = true then 1 else 0) := by
    have := tg_run (g := g) (L := L) (T := c + l.length) hl l c 0 _ fuelN rfl (by show _ < 5000; omega) hd hrun
    refine Eq.trans this ?_
    unfold fX2_isTrue_j271
    cases x.2.2 (g.2.1 7 0)
    · rw [if_neg (by decide), if_neg (by decide)]
    · rw [if_pos (by decide), if_pos rfl]
  unfold fX2_isTrue fX2_isTrue_j41 fX2_isTrue_j45
  rw [if_neg (nI_pos (show k < 2 ^ 31 by omega)), if_pos (show nI k < (10 : Int32) from nI_lt (b := 10) (by omega) (by omega)), nI_1, h23, if_pos (inB_nI (n := 10) (k := k) (by omega) (by omega)), nI_c (k := k) (by omega), hS, h24]
  cases xs with
  | nil =>
    have hr : c + l.length = e := hr
    rw [if_pos (nI_le (by show T ≤ k + 1; have hT : k + (0 + 1) = T := hT; omega) (by omega)), ← hr]
    exact fin
  | cons y ys =>
    rw [List.length_cons] at hT
    obtain ⟨l', -, -, -, -, hS', -, -, -⟩ := hr
    rw [if_neg (nI_ge (by omega) (by omega)), if_neg (show ¬ (10 : Int32) ≤ nI (k + 1) from nI_ge (b := 10) (by omega) (by omega)), if_pos (inB_nI (n := 10) (k := k + 1) (by omega) (by omega)), nI_c (by omega), hS', if_pos (inB_nI (n := 10) (k := k) (by omega) (by omega))]
    exact fin
theorem tog_run {g : STt} {L T e w : Nat} (hT10 : T ≤ 10) (h23 : g.1 23 L = nI T) (h24 : g.1 24 L = nI e) (he : e ≤ 100) (hw : w < 3) : ∀ (xs : List ClT) (k c a fu : Nat), RcL (g.2.1 25 L) (g.2.1 26 L) (g.2.1 27 L) (g.2.1 28 L) k c xs e → k + xs.length = T → xs.length < fu → iterO (fun K z => fX2_together_l5c K g L (nI w) z.1 z.2) fu (nI a, nI k) = some (nI (a + tgN w (g.2.1 7 0) xs))
  | [], k, c, a, fu, h, hk, hf => by
    obtain ⟨fu, rfl⟩ : ∃ j, fu = j + 1 := ⟨fu - 1, by omega⟩
    have hk : k + 0 = T := hk
    rw [iterO_succ]
    show fX2_together_l5c _ g L (nI w) (nI a) (nI k) = _
    unfold fX2_together_l5c
    rw [h23, if_pos (nI_le (by omega) (by omega))]
    rfl
  | x :: xs, k, c, a, fu, h, hk, hf => by
    obtain ⟨fu, rfl⟩ : ∃ j, fu = j + 1 := ⟨fu - 1, by omega⟩
    have hso := so_row h hk hT10 h23 h24 he
    obtain ⟨l, w7, n100, hW, hN, hS, hl, hx, hr⟩ := h
    rw [List.length_cons] at hk hf
    have ih := fun a => tog_run hT10 h23 h24 he hw xs (k + 1) (c + l.length) a fu hr (by omega) (by omega)
    rw [iterO_succ]
    generalize iterO (fun K z => fX2_together_l5c K g L (nI w) z.1 z.2) fu = Q at ih ⊢
    show fX2_together_l5c Q g L (nI w) (nI a) (nI k) = some (nI (a + ((if x.1 = w ∧ x.2.2 (g.2.1 7 0) = true then x.2.1 else 0) + tgN w (g.2.1 7 0) xs)))
    unfold fX2_together_l5c fX2_together_j52
    rw [h23, if_neg (nI_ge (by omega) (by omega)), if_neg (show ¬ (10 : Int32) ≤ nI k from nI_ge (b := 10) (by omega) (by omega)), if_pos (inB_nI (n := 10) (by omega) (by omega)), nI_c (by omega), hW, hN, nI_1, nI_add]
    by_cases c1 : x.1 = w
    · rw [if_pos (by rw [c1]), hso (by omega), bnd1_e]
      by_cases c2 : x.2.2 (g.2.1 7 0) = true
      · rw [if_pos c2, if_neg (by decide), if_pos (inB_nI (n := 10) (by omega) (by omega)), if_pos ⟨c1, c2⟩, ih, Nat.add_assoc]
      · rw [if_neg c2, if_pos rfl, if_neg (fun q => c2 q.2), ih, Nat.zero_add]
    · rw [if_neg (fun q => c1 ((nI_eq (by omega) (by omega)).mp q)), if_neg (fun q => c1 q.1), ih, Nat.zero_add]
theorem last_run {g : STt} {L T e w : Nat} (hT10 : T ≤ 10) (h23 : g.1 23 L = nI T) (hw : w < 7) : ∀ (xs : List ClT) (k c : Nat) (a : Int32) (fu : Nat), RcL (g.2.1 25 L) (g.2.1 26 L) (g.2.1 27 L) (g.2.1 28 L) k c xs e → k + xs.length = T → xs.length < fu → iterO (fun K z => fX2_last_l32c K g L (nI w) z.1 z.2) fu (a, nI k) = some (ltN w xs a)
  | [], k, c, a, fu, h, hk, hf => by
    obtain ⟨fu, rfl⟩ : ∃ j, fu = j + 1 := ⟨fu - 1, by omega⟩
    have hk : k + 0 = T := hk
    rw [iterO_succ]
    show fX2_last_l32c _ g L (nI w) a (nI k) = _
    unfold fX2_last_l32c
    rw [h23, if_pos (nI_le (by omega) (by omega))]
    rfl
  | x :: xs, k, c, a, fu, h, hk, hf => by
    obtain ⟨fu, rfl⟩ : ∃ j, fu = j + 1 := ⟨fu - 1, by omega⟩
    obtain ⟨l, w7, n100, hW, hN, hS, hl, hx, hr⟩ := h
    rw [List.length_cons] at hk hf
    have ih := fun a => last_run hT10 h23 hw xs (k + 1) (c + l.length) a fu hr (by omega) (by omega)
    rw [iterO_succ]
    generalize iterO (fun K z => fX2_last_l32c K g L (nI w) z.1 z.2) fu = Q at ih ⊢
    show fX2_last_l32c Q g L (nI w) a (nI k) = some (ltN w xs (if x.1 = w then nI x.2.1 else a))
    unfold fX2_last_l32c fX2_last_j63
    rw [h23, if_neg (nI_ge (by omega) (by omega)), if_neg (show ¬ (10 : Int32) ≤ nI k from nI_ge (b := 10) (by omega) (by omega)), if_pos (inB_nI (n := 10) (by omega) (by omega)), nI_c (by omega), hW, hN, nI_1]
    by_cases c1 : x.1 = w
    · rw [if_pos (by rw [c1]), if_pos (inB_nI (n := 10) (by omega) (by omega)), if_pos c1, ih]
    · rw [if_neg (fun q => c1 ((nI_eq (by omega) (by omega)).mp q)), if_neg c1, ih]
theorem lwC_rows {g : STt} {L e : Nat} {xs : List ClT} (h : RcL (g.2.1 25 L) (g.2.1 26 L) (g.2.1 27 L) (g.2.1 28 L) 0 0 xs e) (h10 : xs.length ≤ 10) (h23 : g.1 23 L = nI xs.length) (h24 : g.1 24 L = nI e) (he : e ≤ 100) : LwC g L (fun w F => nI (tgN w F xs)) (fun w => ltN w xs (last0 w)) := by
  intro g' e1 e2 e3 e4 e5 e6
  rw [← e3, ← e4, ← e5, ← e6] at h
  constructor
  · intro w hw
    have := tog_run h10 (e1.trans h23) (e2.trans h24) he hw xs 0 0 0 fuelN h (Nat.zero_add _) (by show _ < 5000; omega)
    rw [Nat.zero_add] at this
    exact this
  · intro w w3 w7
    have run := fun a => last_run h10 (e1.trans h23) w7 xs 0 0 a fuelN h (Nat.zero_add _) (by show _ < 5000; omega)
    have run : ∀ a, fX2_last_j29 g' L (nI w) a = some (ltN w xs a) := run
    unfold fX2_last last0
    have e : w = 3 ∨ w = 4 ∨ w = 5 ∨ w = 6 := by omega
    rcases e with rfl | rfl | rfl | rfl
    · rw [if_pos (by rfl)]; exact run 3
    · rw [if_neg (by decide), if_pos (by rfl)]; exact run 5
    · rw [if_neg (by decide), if_neg (by decide), if_pos (by rfl)]; exact run 2
    · rw [if_neg (by decide), if_neg (by decide), if_neg (by decide)]; exact run 9
theorem tgN_le (w : Nat) (F : Nat → Int32) : ∀ xs : List ClT, (∀ x, x ∈ xs → x.2.1 < 100) → tgN w F xs ≤ 99 * xs.length
  | [], _ => Nat.zero_le _
  | x :: xs, h => by
    have h1 := tgN_le w F xs (fun y hy => h y (List.mem_cons_of_mem _ hy))
    have h2 := h x (List.mem_cons_self ..)
    rw [List.length_cons]
    show (if x.1 = w ∧ x.2.2 F = true then x.2.1 else 0) + tgN w F xs ≤ _
    split <;> omega
theorem ltN_r (w : Nat) : ∀ (xs : List ClT) (d : Int32), (∀ x, x ∈ xs → x.2.1 < 100) → inR d 0 99 → inR (ltN w xs d) 0 99
  | [], d, _, hd => hd
  | x :: xs, d, h, hd => by
    have h2 := h x (List.mem_cons_self ..)
    refine ltN_r w xs _ (fun y hy => h y (List.mem_cons_of_mem _ hy)) ?_
    by_cases c : x.1 = w
    · rw [if_pos c]; constructor <;> rw [nI_toInt (by omega)] <;> omega
    · rw [if_neg c]; exact hd
theorem tgN_loc (w : Nat) {F F' : Nat → Int32} (hF : ∀ k, k < 9 → F k = F' k) : ∀ xs : List ClT, (∀ x, x ∈ xs → ∀ F F' : Nat → Int32, (∀ k, k < 9 → F k = F' k) → x.2.2 F = x.2.2 F') → tgN w F xs = tgN w F' xs
  | [], _ => rfl
  | x :: xs, h => by
    have h1 := tgN_loc w hF xs (fun y hy => h y (List.mem_cons_of_mem _ hy))
    show (if x.1 = w ∧ x.2.2 F = true then x.2.1 else 0) + tgN w F xs = (if x.1 = w ∧ x.2.2 F' = true then x.2.1 else 0) + tgN w F' xs
    rw [h1, h x (List.mem_cons_self ..) F F' hF]
theorem lwOK_of {xs : List ClT} (h10 : xs.length ≤ 10) (hn : ∀ x, x ∈ xs → x.2.1 < 100) (hl : ∀ x, x ∈ xs → ∀ F F' : Nat → Int32, (∀ k, k < 9 → F k = F' k) → x.2.2 F = x.2.2 F') : LwOK (fun w F => nI (tgN w F xs)) (fun w => ltN w xs (last0 w)) := by
  refine ⟨fun w F F' hF => ?_, fun w F => ?_, fun w => ltN_r w xs _ hn ?_⟩
  · show nI (tgN w F xs) = nI (tgN w F' xs)
    rw [tgN_loc w hF xs hl]
  · have := tgN_le w F xs hn
    show inR (nI (tgN w F xs)) 0 990
    constructor <;> rw [nI_toInt (by omega)] <;> omega
  · unfold last0
    split
    · exact ⟨by decide, by decide⟩
    · split
      · exact ⟨by decide, by decide⟩
      · split <;> exact ⟨by decide, by decide⟩
