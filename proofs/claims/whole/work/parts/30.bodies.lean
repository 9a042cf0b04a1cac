/-! PURE: a part of a place -/
def psh (g : STt) (n : Nat) (b : Int32) : STt := if n < 20 then sS (sA1 (sS g 14 0 (nI (n + 1))) 21 7 n b) 20 7 (nI (n + 1)) else sS g 14 0 (nI (n + 1))
def psL (g : STt) (n : Nat) : List Int32 → STt
  | [] => g
  | b :: l => psL (psh g n b) (n + 1) l
def mps (m : STt) (n : Nat) (b : Int32) : STt := if n < 20 then sS (sA1 m 82 0 n b) 53 0 (nI (n + 1)) else sS m 53 0 (nI (n + 1))
def mpL (m : STt) (n : Nat) : List Int32 → STt
  | [] => m
  | b :: l => mpL (mps m n b) (n + 1) l
def Gd (g : STt) (n : Nat) : Prop := g.1 14 0 = nI n ∧ g.1 20 7 = nI (min n 20)
theorem psh_G {g : STt} {n : Nat} (h : Gd g n) (b : Int32) : Gd (psh g n b) (n + 1) := by
  unfold psh
  by_cases c : n < 20
  · rw [if_pos c]
    exact ⟨rfl, by rw [sS_s, show min (n + 1) 20 = n + 1 by omega]⟩
  · rw [if_neg c]
    exact ⟨rfl, by rw [sS_n _ _ (by omega), h.2, show min (n + 1) 20 = min n 20 by omega]⟩
theorem psh_f (g : STt) (n : Nat) (b : Int32) : (psh g n b).1 15 0 = g.1 15 0 ∧ (psh g n b).1 16 0 = g.1 16 0 ∧ (psh g n b).1 17 0 = g.1 17 0 := by
  unfold psh
  split <;> exact ⟨rfl, rfl, rfl⟩
theorem psL_G : ∀ (l : List Int32) {g : STt} {n : Nat}, Gd g n → Gd (psL g n l) (n + l.length)
  | [], _, _, h => h
  | b :: l, g, n, h => by
    rw [List.length_cons, show n + (l.length + 1) = (n + 1) + l.length by omega]
    exact psL_G l (psh_G h b)
theorem psL_f : ∀ (l : List Int32) (g : STt) (n : Nat), (psL g n l).1 15 0 = g.1 15 0 ∧ (psL g n l).1 16 0 = g.1 16 0 ∧ (psL g n l).1 17 0 = g.1 17 0
  | [], _, _ => ⟨rfl, rfl, rfl⟩
  | b :: l, g, n => by
    obtain ⟨a1, a2, a3⟩ := psL_f l (psh g n b) (n + 1)
    obtain ⟨b1, b2, b3⟩ := psh_f g n b
    exact ⟨a1.trans b1, a2.trans b2, a3.trans b3⟩
theorem psL_app : ∀ (l l' : List Int32) (g : STt) (n : Nat), psL g n (l ++ l') = psL (psL g n l) (n + l.length) l'
  | [], _, _, _ => rfl
  | b :: l, l', g, n => by
    rw [List.length_cons, show n + (l.length + 1) = (n + 1) + l.length by omega]
    exact psL_app l l' (psh g n b) (n + 1)
theorem bnd_id {α β : Type} (x : Option (α × β)) : (bnd x fun a b => some (a, b)) = x := by
  cases x with
  | none => rfl
  | some p => rfl
theorem X0_run (k : Nat) {g : STt} {n : Nat} (hG : Gd g n) (hn : n ≤ 900) (c mth x : Int32) {j : Nat} (hj : j < 40) {B : Int32} (hB : fX0_bodyOf g c mth = some B) : fX0_run (k + 1) g c mth x (nI j) = fX0_answer k (psh g n B) B x (nI (j + 1)) := by
  show FX0_run (fX0_answer k) (fX0_run k) g c mth x (nI j) = _
  unfold FX0_run
  rw [if_pos (show nI j < (40 : Int32) from nI_lt (b := 40) hj (by omega)), hB, bnd1_e, hG.1, nI_1, eX5_add (g := sS g 14 0 (nI (n + 1))) (K := min n 20) (n := 20) rfl (by omega) hG.2 (by omega)]
  unfold psh
  by_cases cn : n < 20
  · rw [if_pos (show min n 20 < 20 by omega), if_pos cn, bnd_e, show min n 20 = n by omega, nI_1]
    exact bnd_id _
  · rw [if_neg (show ¬ min n 20 < 20 by omega), if_neg cn, bnd_e, nI_1]
    exact bnd_id _
def EV (k : Nat) (kd num pl : Int32) (c mth x : Int32) (j : Nat) (l : List Int32) (v : Int32) : Prop := ∀ g n, Gd g n → n + l.length ≤ 900 → g.1 15 0 = kd → g.1 16 0 = num → g.1 17 0 = pl → fX0_run k g c mth x (nI j) = some (psL g n l, v)
def BO (c mth B : Int32) : Prop := ∀ g : STt, fX0_bodyOf g c mth = some B
theorem E10 {k : Nat} {kd num pl c mth x : Int32} {j : Nat} (hB : BO c mth 10) (hj : j < 40) : EV (k + 2) kd num pl c mth x j [10] (x + pl) := by
  intro g n hG hn h15 h16 h17
  rw [X0_run (k + 1) hG (by simp only [List.length_cons, List.length_nil] at hn; omega) c mth x hj (hB g)]
  show some (psh g n 10, x + (psh g n 10).1 17 0) = _
  rw [(psh_f g n 10).2.2, h17]
  rfl
theorem E11 {k : Nat} {kd num pl c mth x v : Int32} {j : Nat} {l : List Int32} (hB : BO c mth 11) (hj : j < 40) (h : EV k kd num pl kd 0 x (j + 1) l v) : EV (k + 2) kd num pl c mth x j (11 :: l) (v - num) := by
  intro g n hG hn h15 h16 h17
  rw [List.length_cons] at hn
  rw [X0_run (k + 1) hG (by omega) c mth x hj (hB g)]
  show bnd (fX0_run k (psh g n 11) ((psh g n 11).1 15 0) 0 x (nI (j + 1))) (fun g4 r5 => some (g4, r5 - (g4.1 16 0))) = _
  obtain ⟨f1, f2, f3⟩ := psh_f g n 11
  rw [f1, h15, h (psh g n 11) (n + 1) (psh_G hG 11) (by omega) (f1.trans h15) (f2.trans h16) (f3.trans h17), bnd_e, (psL_f l _ _).2.1, f2, h16]
  rfl
theorem E12 {k : Nat} {kd num pl c mth x v : Int32} {j : Nat} {l : List Int32} (hB : BO c mth 12) (hj : j < 40) (h : EV k kd num pl kd 1 x (j + 1) l v) : EV (k + 2) kd num pl c mth x j (12 :: l) (v * 2) := by
  intro g n hG hn h15 h16 h17
  rw [List.length_cons] at hn
  rw [X0_run (k + 1) hG (by omega) c mth x hj (hB g)]
  show bnd (fX0_run k (psh g n 12) ((psh g n 12).1 15 0) 1 x (nI (j + 1))) (fun g4 r5 => some (g4, r5 * 2)) = _
  obtain ⟨f1, f2, f3⟩ := psh_f g n 12
  rw [f1, h15, h (psh g n 12) (n + 1) (psh_G hG 12) (by omega) (f1.trans h15) (f2.trans h16) (f3.trans h17), bnd_e]
  rfl
theorem E20 {k : Nat} {kd num pl c mth x v : Int32} {j : Nat} {l : List Int32} (hB : BO c mth 20) (hj : j < 40) (h : EV k kd num pl 0 1 x (j + 1) l v) : EV (k + 2) kd num pl c mth x j (20 :: l) (v ^^^ 6) := by
  intro g n hG hn h15 h16 h17
  rw [List.length_cons] at hn
  rw [X0_run (k + 1) hG (by omega) c mth x hj (hB g)]
  show bnd (fX0_run k (psh g n 20) 0 1 x (nI (j + 1))) (fun g4 r5 => some (g4, r5 ^^^ 6)) = _
  obtain ⟨f1, f2, f3⟩ := psh_f g n 20
  rw [h (psh g n 20) (n + 1) (psh_G hG 20) (by omega) (f1.trans h15) (f2.trans h16) (f3.trans h17), bnd_e]
  rfl
theorem E30 {k : Nat} {kd num pl c mth x v : Int32} {j : Nat} {l : List Int32} (hB : BO c mth 30) (hj : j < 40) (h : EV k kd num pl 0 0 (x * 3) (j + 1) l v) : EV (k + 2) kd num pl c mth x j (30 :: l) v := by
  intro g n hG hn h15 h16 h17
  rw [List.length_cons] at hn
  rw [X0_run (k + 1) hG (by omega) c mth x hj (hB g)]
  show bnd (fX0_run k (psh g n 30) 0 0 (x * 3) (nI (j + 1))) (fun g4 r5 => some (g4, r5)) = _
  obtain ⟨f1, f2, f3⟩ := psh_f g n 30
  rw [h (psh g n 30) (n + 1) (psh_G hG 30) (by omega) (f1.trans h15) (f2.trans h16) (f3.trans h17), bnd_e]
  rfl
theorem E40 {k : Nat} {kd num pl c mth x v v' : Int32} {j : Nat} {l l' : List Int32} (hB : BO c mth 40) (hj : j < 40) (h : EV k kd num pl 0 2 x (j + 1) l v) (h' : EV k kd num pl kd 1 1 (j + 1) l' v') : EV (k + 2) kd num pl c mth x j (40 :: (l ++ l')) (v + v') := by
  intro g n hG hn h15 h16 h17
  rw [List.length_cons, List.length_append] at hn
  rw [X0_run (k + 1) hG (by omega) c mth x hj (hB g)]
  show bnd (fX0_run k (psh g n 40) 0 2 x (nI (j + 1))) (fun g8 r9 => bnd (fX0_run k g8 (g8.1 15 0) 1 1 (nI (j + 1))) (fun g11 r12 => some (g11, r9 + r12))) = _
  obtain ⟨f1, f2, f3⟩ := psh_f g n 40
  obtain ⟨f4, f5, f6⟩ := psL_f l (psh g n 40) (n + 1)
  rw [h (psh g n 40) (n + 1) (psh_G hG 40) (by omega) (f1.trans h15) (f2.trans h16) (f3.trans h17), bnd_e, f4, f1, h15, h' _ (n + 1 + l.length) (psL_G l (psh_G hG 40)) (by omega) (f4.trans (f1.trans h15)) (f5.trans (f2.trans h16)) (f6.trans (f3.trans h17)), bnd_e]
  show _ = some (psL (psh g n 40) (n + 1) (l ++ l'), _)
  rw [psL_app]
theorem E50 {k : Nat} {kd num pl c mth x v : Int32} {j : Nat} {l : List Int32} (hB : BO c mth 50) (hj : j < 40) (h : EV k kd num pl 1 0 x (j + 1) l v) : EV (k + 2) kd num pl c mth x j (50 :: l) (-v) := by
  intro g n hG hn h15 h16 h17
  rw [List.length_cons] at hn
  rw [X0_run (k + 1) hG (by omega) c mth x hj (hB g)]
  show bnd (fX0_run k (psh g n 50) 1 0 x (nI (j + 1))) (fun g4 r5 => some (g4, -r5)) = _
  obtain ⟨f1, f2, f3⟩ := psh_f g n 50
  rw [h (psh g n 50) (n + 1) (psh_G hG 50) (by omega) (f1.trans h15) (f2.trans h16) (f3.trans h17), bnd_e]
  rfl
theorem E51 {k : Nat} {kd num pl c mth x v : Int32} {j : Nat} {l : List Int32} (hB : BO c mth 51) (hj : j < 40) (h : EV k kd num pl 1 1 (x + 1) (j + 1) l v) : EV (k + 2) kd num pl c mth x j (51 :: l) v := by
  intro g n hG hn h15 h16 h17
  rw [List.length_cons] at hn
  rw [X0_run (k + 1) hG (by omega) c mth x hj (hB g)]
  show bnd (fX0_run k (psh g n 51) 1 1 (x + 1) (nI (j + 1))) (fun g4 r5 => some (g4, r5)) = _
  obtain ⟨f1, f2, f3⟩ := psh_f g n 51
  rw [h (psh g n 51) (n + 1) (psh_G hG 51) (by omega) (f1.trans h15) (f2.trans h16) (f3.trans h17), bnd_e]
  rfl
theorem E60 {k : Nat} {kd num pl c mth x v : Int32} {j : Nat} {l : List Int32} (hB : BO c mth 60) (hj : j < 40) (h : EV k kd num pl 2 2 (x - pl) (j + 1) l v) : EV (k + 2) kd num pl c mth x j (60 :: l) v := by
  intro g n hG hn h15 h16 h17
  rw [List.length_cons] at hn
  rw [X0_run (k + 1) hG (by omega) c mth x hj (hB g)]
  show bnd (fX0_run k (psh g n 60) 2 2 (x - (psh g n 60).1 17 0) (nI (j + 1))) (fun g4 r5 => some (g4, r5)) = _
  obtain ⟨f1, f2, f3⟩ := psh_f g n 60
  rw [f3, h17, h (psh g n 60) (n + 1) (psh_G hG 60) (by omega) (f1.trans h15) (f2.trans h16) (f3.trans h17), bnd_e]
  rfl
theorem E70 {k : Nat} {kd num pl c mth x v v' : Int32} {j : Nat} {l l' : List Int32} (hB : BO c mth 70) (hj : j < 40) (h : EV k kd num pl 3 1 x (j + 1) l v) (h' : EV k kd num pl 3 0 2 (j + 1) l' v') : EV (k + 2) kd num pl c mth x j (70 :: (l ++ l')) (v + v') := by
  intro g n hG hn h15 h16 h17
  rw [List.length_cons, List.length_append] at hn
  rw [X0_run (k + 1) hG (by omega) c mth x hj (hB g)]
  show bnd (fX0_run k (psh g n 70) 3 1 x (nI (j + 1))) (fun g8 r9 => bnd (fX0_run k g8 3 0 2 (nI (j + 1))) (fun g11 r12 => some (g11, r9 + r12))) = _
  obtain ⟨f1, f2, f3⟩ := psh_f g n 70
  obtain ⟨f4, f5, f6⟩ := psL_f l (psh g n 70) (n + 1)
  rw [h (psh g n 70) (n + 1) (psh_G hG 70) (by omega) (f1.trans h15) (f2.trans h16) (f3.trans h17), bnd_e, h' _ (n + 1 + l.length) (psL_G l (psh_G hG 70)) (by omega) (f4.trans (f1.trans h15)) (f5.trans (f2.trans h16)) (f6.trans (f3.trans h17)), bnd_e]
  show _ = some (psL (psh g n 70) (n + 1) (l ++ l'), _)
  rw [psL_app]
theorem E71 {k : Nat} {kd num pl c mth x v : Int32} {j : Nat} {l : List Int32} (hB : BO c mth 71) (hj : j < 40) (h : EV k kd num pl 3 0 x (j + 1) l v) : EV (k + 2) kd num pl c mth x j (71 :: l) (v ^^^ num) := by
  intro g n hG hn h15 h16 h17
  rw [List.length_cons] at hn
  rw [X0_run (k + 1) hG (by omega) c mth x hj (hB g)]
  show bnd (fX0_run k (psh g n 71) 3 0 x (nI (j + 1))) (fun g4 r5 => some (g4, r5 ^^^ (g4.1 16 0))) = _
  obtain ⟨f1, f2, f3⟩ := psh_f g n 71
  rw [h (psh g n 71) (n + 1) (psh_G hG 71) (by omega) (f1.trans h15) (f2.trans h16) (f3.trans h17), bnd_e, (psL_f l _ _).2.1, f2, h16]
  rfl
/-! the model's bodies -/
theorem mpL_app : ∀ (l l' : List Int32) (m : STt) (n : Nat), mpL m n (l ++ l') = mpL (mpL m n l) (n + l.length) l'
  | [], _, _, _ => rfl
  | b :: l, l', m, n => by
    rw [List.length_cons, show n + (l.length + 1) = (n + 1) + l.length by omega]
    exact mpL_app l l' (mps m n b) (n + 1)
def Gm (j : Nat) (kd num : Int32) (m : STt) (n : Nat) : Prop := m.1 53 0 = nI n ∧ m.2.1 54 0 j = kd ∧ m.2.1 55 0 j = num
theorem mps_G {j : Nat} {kd num : Int32} {m : STt} {n : Nat} (h : Gm j kd num m n) (b : Int32) : Gm j kd num (mps m n b) (n + 1) := by
  obtain ⟨-, h2, h3⟩ := h
  unfold mps
  split <;> exact ⟨rfl, h2, h3⟩
theorem mpL_G {j : Nat} {kd num : Int32} : ∀ (l : List Int32) {m : STt} {n : Nat}, Gm j kd num m n → Gm j kd num (mpL m n l) (n + l.length)
  | [], _, _, h => h
  | b :: l, m, n, h => by
    rw [List.length_cons, show n + (l.length + 1) = (n + 1) + l.length by omega]
    exact mpL_G l (mps_G h b)
theorem eX11_ran {j : Nat} {kd num : Int32} {m : STt} {n : Nat} (h : Gm j kd num m n) (hn : n ≤ 900) (b : Int32) : fX11_ran m b = some (mps m n b) := by
  unfold fX11_ran fX11_ran_j19 mps
  rw [h.1]
  by_cases c : n < 20
  · rw [if_pos c, if_neg (show ¬ (20 : Int32) ≤ nI n from nI_ge (b := 20) c (by omega)), if_pos (inB_nI c (by omega)), nI_c (by omega), sA1_1, h.1, nI_1]
  · rw [if_neg c, if_pos (show (20 : Int32) ≤ nI n from nI_le (a := 20) (by omega) (by omega)), nI_1]
def MV (j : Nat) (kd num : Int32) (F : STt → Option (STt × Int32)) (l : List Int32) (v : Int32) : Prop := ∀ m n, Gm j kd num m n → n + l.length ≤ 900 → F m = some (mpL m n l, v)
theorem M10 {j : Nat} {kd num : Int32} (x : Int32) : MV j kd num (fun m => fX11_plainHolds m (nI j) x) [10] (x + nI j) := by
  intro m n h hn
  show fX11_plainHolds m (nI j) x = _
  unfold fX11_plainHolds
  rw [eX11_ran h (by simp only [List.length_cons, List.length_nil] at hn; omega), bnd1_e]
  rfl
/-- one push, then F, then a change of its value -/
theorem MVc {j : Nat} {kd num : Int32} {G F : STt → Option (STt × Int32)} {b : Int32} {l : List Int32} {v : Int32} (C : STt → Int32 → Option (STt × Int32)) (f : Int32 → Int32) (h : MV j kd num F l v) (hG : ∀ m n, Gm j kd num m n → G m = bnd1 (fX11_ran m b) fun m2 => bnd (F m2) C) (hC : ∀ m n r, Gm j kd num m n → C m r = some (m, f r)) : MV j kd num G (b :: l) (f v) := by
  intro m n hm hn
  rw [List.length_cons] at hn
  rw [hG m n hm, eX11_ran hm (by omega), bnd1_e, h _ (n + 1) (mps_G hm b) (by omega), bnd_e, hC _ _ v (mpL_G l (mps_G hm b))]
  rfl
/-- one push, then F, then F', then the sum -/
theorem MVs {j : Nat} {kd num : Int32} {G F F' : STt → Option (STt × Int32)} {b : Int32} {l l' : List Int32} {v v' : Int32} (h : MV j kd num F l v) (h' : MV j kd num F' l' v') (hG : ∀ m n, Gm j kd num m n → G m = bnd1 (fX11_ran m b) fun m2 => bnd (F m2) fun m4 r5 => bnd (F' m4) fun m7 r8 => some (m7, r5 + r8)) : MV j kd num G (b :: (l ++ l')) (v + v') := by
  intro m n hm hn
  rw [List.length_cons, List.length_append] at hn
  rw [hG m n hm, eX11_ran hm (by omega), bnd1_e, h _ (n + 1) (mps_G hm b) (by omega), bnd_e, h' _ (n + 1 + l.length) (mpL_G l (mps_G hm b)) (by omega), bnd_e]
  show _ = some (mpL (mps m n b) (n + 1) (l ++ l'), _)
  rw [mpL_app]
theorem MVe {j : Nat} {kd num : Int32} {G F : STt → Option (STt × Int32)} {l : List Int32} {v : Int32} (h : MV j kd num F l v) (hG : ∀ m n, Gm j kd num m n → G m = bnd (F m) fun m4 r5 => some (m4, r5)) : MV j kd num G l v := by
  intro m n hm hn
  rw [hG m n hm, bnd_id]
  exact h m n hm hn
theorem M11 {j : Nat} (hj : j < 10) {kd num x : Int32} {l : List Int32} {v : Int32} (h : MV j kd num (fun m => fX11_holding m (nI j) x) l v) : MV j kd num (fun m => fX11_plainChooses m (nI j) x) (11 :: l) (v - num) :=
  MVc (fun m4 r5 => if inB (nI j) 10 = true then some (m4, r5 - m4.2.1 55 0 (nI j).toNatClampNeg) else none) (fun r => r - num) h (fun _ _ _ => rfl) fun m n r hm => by
    show (if inB (nI j) 10 = true then some (m, r - m.2.1 55 0 (nI j).toNatClampNeg) else none) = _
    rw [if_pos (inB_nI hj (by omega)), nI_c (by omega), hm.2.2]
theorem M20 {j : Nat} {kd num x : Int32} {l : List Int32} {v : Int32} (h : MV j kd num (fun m => fX11_plainChooses m (nI j) x) l v) : MV j kd num (fun m => fX11_fearedChooses m (nI j) x) (20 :: l) (v ^^^ 6) :=
  MVc (fun m4 r5 => some (m4, r5 ^^^ 6)) (fun r => r ^^^ 6) h (fun _ _ _ => rfl) fun _ _ _ _ => rfl
theorem M12 {j : Nat} {kd num x : Int32} {l : List Int32} {v : Int32} (h : MV j kd num (fun m => fX11_chooses m (nI j) x) l v) : MV j kd num (fun m => fX11_plainTells m (nI j) x) (12 :: l) (v * 2) :=
  MVc (fun m4 r5 => some (m4, r5 * 2)) (fun r => r * 2) h (fun _ _ _ => rfl) fun _ _ _ _ => rfl
theorem M70 {j : Nat} {kd num x : Int32} {l l' : List Int32} {v v' : Int32} (h : MV j kd num (fun m => fX11_plainChooses m (nI j) x) l v) (h' : MV j kd num (fun m => fX11_plainHolds m (nI j) 2) l' v') : MV j kd num (fun m => fX11_calledChooses m (nI j) x) (70 :: (l ++ l')) (v + v') :=
  MVs h h' fun _ _ _ => rfl
theorem M40 {j : Nat} {kd num x : Int32} {l l' : List Int32} {v v' : Int32} (h : MV j kd num (fun m => fX11_plainTells m (nI j) x) l v) (h' : MV j kd num (fun m => fX11_chooses m (nI j) 1) l' v') : MV j kd num (fun m => fX11_spoiltTells m (nI j) x) (40 :: (l ++ l')) (v + v') :=
  MVs h h' fun _ _ _ => rfl
theorem hold_e {j : Nat} (hj : j < 10) {kd num : Int32} {m : STt} {n : Nat} (hm : Gm j kd num m n) (x : Int32) : fX11_holding m (nI j) x = (if kd = 2 then (bnd1 (fX11_ran m 30) fun g_4 => (bnd (fX11_plainHolds g_4 (nI j) (x * 3)) fun g_6 r_7 => (some (g_6, r_7)))) else (if kd = 3 then (fX11_holding_j104 m (nI j) x) else (if kd = 4 then (bnd1 (fX11_ran m 50) fun g_6 => (bnd (fX11_plainHolds g_6 (nI j) x) fun g_8 r_9 => (some (g_8, -r_9)))) else (if kd = 5 then (bnd1 (fX11_ran m 30) fun g_7 => (bnd (fX11_plainHolds g_7 (nI j) (x * 3)) fun g_9 r_10 => (some (g_9, r_10)))) else (if kd = 6 then (bnd1 (fX11_ran m 71) fun g_8 => (bnd (fX11_plainHolds g_8 (nI j) x) fun g_10 r_11 => (if inB (nI j) 10 = true then (some (g_10, r_11 ^^^ (g_10.2.1 55 0 (nI j).toNatClampNeg))) else none))) else (fX11_holding_j104 m (nI j) x)))))) := by
  have h10 : inB (nI j) 10 = true := inB_nI hj (by omega)
  unfold fX11_holding
  rw [if_pos h10, nI_c (by omega), hm.2.1]
theorem choose_e {j : Nat} (hj : j < 10) {kd num : Int32} {m : STt} {n : Nat} (hm : Gm j kd num m n) (x : Int32) : fX11_chooses m (nI j) x = (if kd = 1 then (bnd (fX11_fearedChooses m (nI j) x) fun g_4 r_5 => (some (g_4, r_5))) else (if kd = 4 then (bnd1 (fX11_ran m 51) fun g_5 => (bnd (fX11_fearedChooses g_5 (nI j) (x + 1)) fun g_7 r_8 => (some (g_7, r_8)))) else (if kd = 6 then (bnd (fX11_calledChooses m (nI j) x) fun g_6 r_7 => (some (g_6, r_7))) else (bnd (fX11_plainChooses m (nI j) x) fun g_6 r_7 => (some (g_6, r_7)))))) := by
  have h10 : inB (nI j) 10 = true := inB_nI hj (by omega)
  unfold fX11_chooses
  rw [if_pos h10, nI_c (by omega), hm.2.1]
theorem tell_e {j : Nat} (hj : j < 10) {kd num : Int32} {m : STt} {n : Nat} (hm : Gm j kd num m n) (x : Int32) : fX11_telling m (nI j) x = (if kd = 3 then (bnd (fX11_spoiltTells m (nI j) x) fun g_4 r_5 => (some (g_4, r_5))) else (if kd = 4 then (fX11_telling_j65 m (nI j) x) else (if kd = 5 then (bnd1 (fX11_ran m 60) fun g_6 => (bnd (fX11_plainTells g_6 (nI j) (x - nI j)) fun g_8 r_9 => (some (g_8, r_9)))) else (if kd = 6 then (bnd (fX11_spoiltTells m (nI j) x) fun g_7 r_8 => (some (g_7, r_8))) else (fX11_telling_j65 m (nI j) x))))) := by
  have h10 : inB (nI j) 10 = true := inB_nI hj (by omega)
  unfold fX11_telling
  rw [if_pos h10, nI_c (by omega), hm.2.1]
theorem MH0 {j : Nat} (hj : j < 10) {kd num : Int32} (hk : kd = 0 ∨ kd = 1 ∨ kd = 3) (x : Int32) : MV j kd num (fun m => fX11_holding m (nI j) x) [10] (x + nI j) :=
  MVe (M10 x) fun m n hm => by
    show fX11_holding m (nI j) x = _
    rw [hold_e hj hm]
    rcases hk with rfl | rfl | rfl <;> rfl
theorem MH2 {j : Nat} (hj : j < 10) {kd num : Int32} (hk : kd = 2 ∨ kd = 5) (x : Int32) : MV j kd num (fun m => fX11_holding m (nI j) x) [30, 10] (x * 3 + nI j) :=
  MVc (fun m4 r5 => some (m4, r5)) (fun r => r) (M10 (x * 3)) (fun m n hm => by
    show fX11_holding m (nI j) x = _
    rw [hold_e hj hm]
    rcases hk with rfl | rfl <;> rfl) fun _ _ _ _ => rfl
theorem MH4 {j : Nat} (hj : j < 10) {num : Int32} (x : Int32) : MV j 4 num (fun m => fX11_holding m (nI j) x) [50, 10] (-(x + nI j)) :=
  MVc (fun m4 r5 => some (m4, -r5)) (fun r => -r) (M10 x) (fun m n hm => by
    show fX11_holding m (nI j) x = _
    rw [hold_e hj hm]
    rfl) fun _ _ _ _ => rfl
theorem MH6 {j : Nat} (hj : j < 10) {num : Int32} (x : Int32) : MV j 6 num (fun m => fX11_holding m (nI j) x) [71, 10] ((x + nI j) ^^^ num) :=
  MVc (fun m4 r5 => if inB (nI j) 10 = true then some (m4, r5 ^^^ (m4.2.1 55 0 (nI j).toNatClampNeg)) else none) (fun r => r ^^^ num) (M10 x) (fun m n hm => by
    show fX11_holding m (nI j) x = _
    rw [hold_e hj hm]
    rfl) fun m n r hm => by
    show (if inB (nI j) 10 = true then some (m, r ^^^ (m.2.1 55 0 (nI j).toNatClampNeg)) else none) = _
    rw [if_pos (inB_nI hj (by omega)), nI_c (by omega), hm.2.2]
theorem MC0 {j : Nat} (hj : j < 10) {kd num x v : Int32} {l : List Int32} (hk : kd = 0 ∨ kd = 2 ∨ kd = 3 ∨ kd = 5) (h : MV j kd num (fun m => fX11_plainChooses m (nI j) x) l v) : MV j kd num (fun m => fX11_chooses m (nI j) x) l v :=
  MVe h fun m n hm => by
    show fX11_chooses m (nI j) x = _
    rw [choose_e hj hm]
    rcases hk with rfl | rfl | rfl | rfl <;> rfl
theorem MC1 {j : Nat} (hj : j < 10) {num x v : Int32} {l : List Int32} (h : MV j 1 num (fun m => fX11_fearedChooses m (nI j) x) l v) : MV j 1 num (fun m => fX11_chooses m (nI j) x) l v :=
  MVe h fun m n hm => by
    show fX11_chooses m (nI j) x = _
    rw [choose_e hj hm]
    rfl
theorem MC4 {j : Nat} (hj : j < 10) {num x v : Int32} {l : List Int32} (h : MV j 4 num (fun m => fX11_fearedChooses m (nI j) (x + 1)) l v) : MV j 4 num (fun m => fX11_chooses m (nI j) x) (51 :: l) v :=
  MVc (fun m4 r5 => some (m4, r5)) (fun r => r) h (fun m n hm => by
    show fX11_chooses m (nI j) x = _
    rw [choose_e hj hm]
    rfl) fun _ _ _ _ => rfl
theorem MC6 {j : Nat} (hj : j < 10) {num x v : Int32} {l : List Int32} (h : MV j 6 num (fun m => fX11_calledChooses m (nI j) x) l v) : MV j 6 num (fun m => fX11_chooses m (nI j) x) l v :=
  MVe h fun m n hm => by
    show fX11_chooses m (nI j) x = _
    rw [choose_e hj hm]
    rfl
theorem MT0 {j : Nat} (hj : j < 10) {kd num x v : Int32} {l : List Int32} (hk : kd = 0 ∨ kd = 1 ∨ kd = 2 ∨ kd = 4) (h : MV j kd num (fun m => fX11_plainTells m (nI j) x) l v) : MV j kd num (fun m => fX11_telling m (nI j) x) l v :=
  MVe h fun m n hm => by
    show fX11_telling m (nI j) x = _
    rw [tell_e hj hm]
    rcases hk with rfl | rfl | rfl | rfl <;> rfl
theorem MT3 {j : Nat} (hj : j < 10) {kd num x v : Int32} {l : List Int32} (hk : kd = 3 ∨ kd = 6) (h : MV j kd num (fun m => fX11_spoiltTells m (nI j) x) l v) : MV j kd num (fun m => fX11_telling m (nI j) x) l v :=
  MVe h fun m n hm => by
    show fX11_telling m (nI j) x = _
    rw [tell_e hj hm]
    rcases hk with rfl | rfl <;> rfl
theorem MT5 {j : Nat} (hj : j < 10) {num x v : Int32} {l : List Int32} (h : MV j 5 num (fun m => fX11_plainTells m (nI j) (x - nI j)) l v) : MV j 5 num (fun m => fX11_telling m (nI j) x) (60 :: l) v :=
  MVc (fun m4 r5 => some (m4, r5)) (fun r => r) h (fun m n hm => by
    show fX11_telling m (nI j) x = _
    rw [tell_e hj hm]
    rfl) fun _ _ _ _ => rfl
theorem tb_0_0 {j : Nat} (hj : j < 10) (num x : Int32) : ∃ l v, l.length ≤ 20 ∧ EV 40 0 num (nI j) 0 0 x 0 l v ∧ MV j 0 num (fun m => fX11_holding m (nI j) x) l v :=
  ⟨_, _, by decide, (E10 (fun _ => rfl) (by omega)), (MH0 hj (Or.inl rfl) _)⟩
theorem tb_0_1 {j : Nat} (hj : j < 10) (num x : Int32) : ∃ l v, l.length ≤ 20 ∧ EV 40 1 num (nI j) 1 0 x 0 l v ∧ MV j 1 num (fun m => fX11_holding m (nI j) x) l v :=
  ⟨_, _, by decide, (E10 (fun _ => rfl) (by omega)), (MH0 hj (Or.inr (Or.inl rfl)) _)⟩
theorem tb_0_2 {j : Nat} (hj : j < 10) (num x : Int32) : ∃ l v, l.length ≤ 20 ∧ EV 40 2 num (nI j) 2 0 x 0 l v ∧ MV j 2 num (fun m => fX11_holding m (nI j) x) l v :=
  ⟨_, _, by decide, (E30 (fun _ => rfl) (by omega) (E10 (fun _ => rfl) (by omega))), (MH2 hj (Or.inl rfl) _)⟩
theorem tb_0_3 {j : Nat} (hj : j < 10) (num x : Int32) : ∃ l v, l.length ≤ 20 ∧ EV 40 3 num (nI j) 3 0 x 0 l v ∧ MV j 3 num (fun m => fX11_holding m (nI j) x) l v :=
  ⟨_, _, by decide, (E10 (fun _ => rfl) (by omega)), (MH0 hj (Or.inr (Or.inr (rfl))) _)⟩
theorem tb_0_4 {j : Nat} (hj : j < 10) (num x : Int32) : ∃ l v, l.length ≤ 20 ∧ EV 40 4 num (nI j) 4 0 x 0 l v ∧ MV j 4 num (fun m => fX11_holding m (nI j) x) l v :=
  ⟨_, _, by decide, (E50 (fun _ => rfl) (by omega) (E10 (fun _ => rfl) (by omega))), (MH4 hj _)⟩
theorem tb_0_5 {j : Nat} (hj : j < 10) (num x : Int32) : ∃ l v, l.length ≤ 20 ∧ EV 40 5 num (nI j) 5 0 x 0 l v ∧ MV j 5 num (fun m => fX11_holding m (nI j) x) l v :=
  ⟨_, _, by decide, (E30 (fun _ => rfl) (by omega) (E10 (fun _ => rfl) (by omega))), (MH2 hj (Or.inr (rfl)) _)⟩
theorem tb_0_6 {j : Nat} (hj : j < 10) (num x : Int32) : ∃ l v, l.length ≤ 20 ∧ EV 40 6 num (nI j) 6 0 x 0 l v ∧ MV j 6 num (fun m => fX11_holding m (nI j) x) l v :=
  ⟨_, _, by decide, (E71 (fun _ => rfl) (by omega) (E10 (fun _ => rfl) (by omega))), (MH6 hj _)⟩
theorem tb_1_0 {j : Nat} (hj : j < 10) (num x : Int32) : ∃ l v, l.length ≤ 20 ∧ EV 40 0 num (nI j) 0 1 x 0 l v ∧ MV j 0 num (fun m => fX11_chooses m (nI j) x) l v :=
  ⟨_, _, by decide, (E11 (fun _ => rfl) (by omega) (E10 (fun _ => rfl) (by omega))), (MC0 hj (Or.inl rfl) (M11 hj (MH0 hj (Or.inl rfl) _)))⟩
theorem tb_1_1 {j : Nat} (hj : j < 10) (num x : Int32) : ∃ l v, l.length ≤ 20 ∧ EV 40 1 num (nI j) 1 1 x 0 l v ∧ MV j 1 num (fun m => fX11_chooses m (nI j) x) l v :=
  ⟨_, _, by decide, (E20 (fun _ => rfl) (by omega) (E11 (fun _ => rfl) (by omega) (E10 (fun _ => rfl) (by omega)))), (MC1 hj (M20 (M11 hj (MH0 hj (Or.inr (Or.inl rfl)) _))))⟩
theorem tb_1_2 {j : Nat} (hj : j < 10) (num x : Int32) : ∃ l v, l.length ≤ 20 ∧ EV 40 2 num (nI j) 2 1 x 0 l v ∧ MV j 2 num (fun m => fX11_chooses m (nI j) x) l v :=
  ⟨_, _, by decide, (E11 (fun _ => rfl) (by omega) (E30 (fun _ => rfl) (by omega) (E10 (fun _ => rfl) (by omega)))), (MC0 hj (Or.inr (Or.inl rfl)) (M11 hj (MH2 hj (Or.inl rfl) _)))⟩
theorem tb_1_3 {j : Nat} (hj : j < 10) (num x : Int32) : ∃ l v, l.length ≤ 20 ∧ EV 40 3 num (nI j) 3 1 x 0 l v ∧ MV j 3 num (fun m => fX11_chooses m (nI j) x) l v :=
  ⟨_, _, by decide, (E11 (fun _ => rfl) (by omega) (E10 (fun _ => rfl) (by omega))), (MC0 hj (Or.inr (Or.inr (Or.inl rfl))) (M11 hj (MH0 hj (Or.inr (Or.inr (rfl))) _)))⟩
theorem tb_1_4 {j : Nat} (hj : j < 10) (num x : Int32) : ∃ l v, l.length ≤ 20 ∧ EV 40 4 num (nI j) 4 1 x 0 l v ∧ MV j 4 num (fun m => fX11_chooses m (nI j) x) l v :=
  ⟨_, _, by decide, (E51 (fun _ => rfl) (by omega) (E20 (fun _ => rfl) (by omega) (E11 (fun _ => rfl) (by omega) (E50 (fun _ => rfl) (by omega) (E10 (fun _ => rfl) (by omega)))))), (MC4 hj (M20 (M11 hj (MH4 hj _))))⟩
theorem tb_1_5 {j : Nat} (hj : j < 10) (num x : Int32) : ∃ l v, l.length ≤ 20 ∧ EV 40 5 num (nI j) 5 1 x 0 l v ∧ MV j 5 num (fun m => fX11_chooses m (nI j) x) l v :=
  ⟨_, _, by decide, (E11 (fun _ => rfl) (by omega) (E30 (fun _ => rfl) (by omega) (E10 (fun _ => rfl) (by omega)))), (MC0 hj (Or.inr (Or.inr (Or.inr (rfl)))) (M11 hj (MH2 hj (Or.inr (rfl)) _)))⟩
theorem tb_1_6 {j : Nat} (hj : j < 10) (num x : Int32) : ∃ l v, l.length ≤ 20 ∧ EV 40 6 num (nI j) 6 1 x 0 l v ∧ MV j 6 num (fun m => fX11_chooses m (nI j) x) l v :=
  ⟨_, _, by decide, (E70 (fun _ => rfl) (by omega) (E11 (fun _ => rfl) (by omega) (E71 (fun _ => rfl) (by omega) (E10 (fun _ => rfl) (by omega)))) (E10 (fun _ => rfl) (by omega))), (MC6 hj (M70 (M11 hj (MH6 hj _)) (M10 _)))⟩
theorem tb_2_0 {j : Nat} (hj : j < 10) (num x : Int32) : ∃ l v, l.length ≤ 20 ∧ EV 40 0 num (nI j) 0 2 x 0 l v ∧ MV j 0 num (fun m => fX11_telling m (nI j) x) l v :=
  ⟨_, _, by decide, (E12 (fun _ => rfl) (by omega) (E11 (fun _ => rfl) (by omega) (E10 (fun _ => rfl) (by omega)))), (MT0 hj (Or.inl rfl) (M12 (MC0 hj (Or.inl rfl) (M11 hj (MH0 hj (Or.inl rfl) _)))))⟩
theorem tb_2_1 {j : Nat} (hj : j < 10) (num x : Int32) : ∃ l v, l.length ≤ 20 ∧ EV 40 1 num (nI j) 1 2 x 0 l v ∧ MV j 1 num (fun m => fX11_telling m (nI j) x) l v :=
  ⟨_, _, by decide, (E12 (fun _ => rfl) (by omega) (E20 (fun _ => rfl) (by omega) (E11 (fun _ => rfl) (by omega) (E10 (fun _ => rfl) (by omega))))), (MT0 hj (Or.inr (Or.inl rfl)) (M12 (MC1 hj (M20 (M11 hj (MH0 hj (Or.inr (Or.inl rfl)) _))))))⟩
theorem tb_2_2 {j : Nat} (hj : j < 10) (num x : Int32) : ∃ l v, l.length ≤ 20 ∧ EV 40 2 num (nI j) 2 2 x 0 l v ∧ MV j 2 num (fun m => fX11_telling m (nI j) x) l v :=
  ⟨_, _, by decide, (E12 (fun _ => rfl) (by omega) (E11 (fun _ => rfl) (by omega) (E30 (fun _ => rfl) (by omega) (E10 (fun _ => rfl) (by omega))))), (MT0 hj (Or.inr (Or.inr (Or.inl rfl))) (M12 (MC0 hj (Or.inr (Or.inl rfl)) (M11 hj (MH2 hj (Or.inl rfl) _)))))⟩
theorem tb_2_3 {j : Nat} (hj : j < 10) (num x : Int32) : ∃ l v, l.length ≤ 20 ∧ EV 40 3 num (nI j) 3 2 x 0 l v ∧ MV j 3 num (fun m => fX11_telling m (nI j) x) l v :=
  ⟨_, _, by decide, (E40 (fun _ => rfl) (by omega) (E12 (fun _ => rfl) (by omega) (E11 (fun _ => rfl) (by omega) (E10 (fun _ => rfl) (by omega)))) (E11 (fun _ => rfl) (by omega) (E10 (fun _ => rfl) (by omega)))), (MT3 hj (Or.inl rfl) (M40 (M12 (MC0 hj (Or.inr (Or.inr (Or.inl rfl))) (M11 hj (MH0 hj (Or.inr (Or.inr (rfl))) _)))) (MC0 hj (Or.inr (Or.inr (Or.inl rfl))) (M11 hj (MH0 hj (Or.inr (Or.inr (rfl))) _)))))⟩
theorem tb_2_4 {j : Nat} (hj : j < 10) (num x : Int32) : ∃ l v, l.length ≤ 20 ∧ EV 40 4 num (nI j) 4 2 x 0 l v ∧ MV j 4 num (fun m => fX11_telling m (nI j) x) l v :=
  ⟨_, _, by decide, (E12 (fun _ => rfl) (by omega) (E51 (fun _ => rfl) (by omega) (E20 (fun _ => rfl) (by omega) (E11 (fun _ => rfl) (by omega) (E50 (fun _ => rfl) (by omega) (E10 (fun _ => rfl) (by omega))))))), (MT0 hj (Or.inr (Or.inr (Or.inr (rfl)))) (M12 (MC4 hj (M20 (M11 hj (MH4 hj _))))))⟩
theorem tb_2_5 {j : Nat} (hj : j < 10) (num x : Int32) : ∃ l v, l.length ≤ 20 ∧ EV 40 5 num (nI j) 5 2 x 0 l v ∧ MV j 5 num (fun m => fX11_telling m (nI j) x) l v :=
  ⟨_, _, by decide, (E60 (fun _ => rfl) (by omega) (E12 (fun _ => rfl) (by omega) (E11 (fun _ => rfl) (by omega) (E30 (fun _ => rfl) (by omega) (E10 (fun _ => rfl) (by omega)))))), (MT5 hj (M12 (MC0 hj (Or.inr (Or.inr (Or.inr (rfl)))) (M11 hj (MH2 hj (Or.inr (rfl)) _)))))⟩
theorem tb_2_6 {j : Nat} (hj : j < 10) (num x : Int32) : ∃ l v, l.length ≤ 20 ∧ EV 40 6 num (nI j) 6 2 x 0 l v ∧ MV j 6 num (fun m => fX11_telling m (nI j) x) l v :=
  ⟨_, _, by decide, (E40 (fun _ => rfl) (by omega) (E12 (fun _ => rfl) (by omega) (E70 (fun _ => rfl) (by omega) (E11 (fun _ => rfl) (by omega) (E71 (fun _ => rfl) (by omega) (E10 (fun _ => rfl) (by omega)))) (E10 (fun _ => rfl) (by omega)))) (E70 (fun _ => rfl) (by omega) (E11 (fun _ => rfl) (by omega) (E71 (fun _ => rfl) (by omega) (E10 (fun _ => rfl) (by omega)))) (E10 (fun _ => rfl) (by omega)))), (MT3 hj (Or.inr (rfl)) (M40 (M12 (MC6 hj (M70 (M11 hj (MH6 hj _)) (M10 _)))) (MC6 hj (M70 (M11 hj (MH6 hj _)) (M10 _)))))⟩
theorem part_tab {j k : Nat} (hj : j < 10) (hk : k < 7) (num x : Int32) : (∃ l v, l.length ≤ 20 ∧ EV 40 (nI k) num (nI j) (nI k) 0 x 0 l v ∧ MV j (nI k) num (fun m => fX11_holding m (nI j) x) l v) ∧ (∃ l v, l.length ≤ 20 ∧ EV 40 (nI k) num (nI j) (nI k) 1 x 0 l v ∧ MV j (nI k) num (fun m => fX11_chooses m (nI j) x) l v) ∧ (∃ l v, l.length ≤ 20 ∧ EV 40 (nI k) num (nI j) (nI k) 2 x 0 l v ∧ MV j (nI k) num (fun m => fX11_telling m (nI j) x) l v) := by
  have e : ∀ j, j < 7 → j = 0 ∨ j = 1 ∨ j = 2 ∨ j = 3 ∨ j = 4 ∨ j = 5 ∨ j = 6 := by omega
  rcases e k hk with rfl | rfl | rfl | rfl | rfl | rfl | rfl
  · exact ⟨tb_0_0 hj num x, tb_1_0 hj num x, tb_2_0 hj num x⟩
  · exact ⟨tb_0_1 hj num x, tb_1_1 hj num x, tb_2_1 hj num x⟩
  · exact ⟨tb_0_2 hj num x, tb_1_2 hj num x, tb_2_2 hj num x⟩
  · exact ⟨tb_0_3 hj num x, tb_1_3 hj num x, tb_2_3 hj num x⟩
  · exact ⟨tb_0_4 hj num x, tb_1_4 hj num x, tb_2_4 hj num x⟩
  · exact ⟨tb_0_5 hj num x, tb_1_5 hj num x, tb_2_5 hj num x⟩
  · exact ⟨tb_0_6 hj num x, tb_1_6 hj num x, tb_2_6 hj num x⟩
theorem RelE_ps : ∀ (l : List Int32) {g m : STt} {n P N : Nat}, RelE g m P N → g.1 14 0 = nI n → m.1 53 0 = nI n → n + l.length ≤ 900 → RelE (psL g n l) (mpL m n l) P N
  | [], _, _, _, _, _, h, _, _, _ => h
  | b :: l, g, m, n, P, N, h, hg, hm, hn => by
    rw [List.length_cons] at hn
    obtain ⟨hPl, hDo, h0, h1, h2, h3, hTp, hOd, ⟨n', b1, b2, b3, b4, b5⟩, hCo, hIm, hHo⟩ := id h
    have en : n' = n := (nI_eq (by omega) (by omega)).mp (b2.symm.trans hg)
    subst en
    have G : Gd g n' := ⟨b2, b4⟩
    have G' := psh_G G b
    have hm' : (mps m n' b).1 53 0 = nI (n' + 1) := by
      unfold mps
      split <;> rfl
    refine RelE_ps l ?_ G'.1 hm' (by omega)
    have hb : RBo (psh g n' b) (mps m n' b) := by
      refine ⟨n' + 1, by omega, G'.1, hm', G'.2, fun k hk => ?_⟩
      unfold psh mps
      by_cases c : n' < 20
      · rw [if_pos c, if_pos c]
        show upd (g.2.1 21 7) n' b k = upd (m.2.1 82 0) n' b k
        by_cases e : k = n'
        · rw [e, upd_s, upd_s]
        · rw [upd_n _ _ e, upd_n _ _ e]; exact b5 k (by omega)
      · rw [if_neg c, if_neg c]
        exact b5 k (by omega)
    revert hb
    unfold psh mps
    by_cases c : n' < 20
    · rw [if_pos c, if_pos c]
      intro hb
      exact ⟨hPl, hDo, h0, h1, h2, h3, hTp, hOd, hb, hCo, hIm, hHo⟩
    · rw [if_neg c, if_neg c]
      intro hb
      exact ⟨hPl, hDo, h0, h1, h2, h3, hTp, hOd, hb, hCo, hIm, hHo⟩
theorem q_part {g m : STt} {P N : Nat} (h : RelE g m P N) (x y z : Int32) : ∃ g' m' r, fX10_part g x y z = some (g', r) ∧ fX11_part m x y z = some (m', r) ∧ RelE g' m' P N := by
  obtain ⟨hPl, hDo, h0, h1, h2, h3, hTp, hOd, hBo, hCo, hIm, hHo⟩ := id h
  obtain ⟨p1, p2, p3, p4⟩ := id hPl
  have hP : (g.1 2 0).toInt = P := by rw [p2]; exact nI_toInt (by omega)
  have hP' : ((sS (sS g 20 7 0) 14 0 0).1 2 0).toInt = P := hP
  have p3' : (sS m 53 0 0).1 33 0 = nI P := p3
  have hR : RelE (sS (sS g 20 7 0) 14 0 0) (sS m 53 0 0) P N := ⟨hPl, hDo, h0, h1, h2, h3, hTp, hOd, ⟨0, by omega, rfl, rfl, rfl, fun k hk => by omega⟩, hCo, hIm, hHo⟩
  unfold fX10_part fX0_ask fX5_clear fX11_part
  rw [bnd1_e, bnd_id, eX4_has hP', b_if, eX11_isPlace p3' p1, b_if, rng2, eX11_in, b_if]
  by_cases c : inB x P = true
  · rw [if_pos c, if_pos c]
    by_cases c1 : (0 : Int32).toInt ≤ y.toInt ∧ y.toInt ≤ (2 : Int32).toInt
    · rw [if_pos c1, if_pos c1, eX4_kindOf hP' p1, if_pos c, bnd1_e]
      obtain ⟨j, hj, rfl⟩ := inB_of c (by omega)
      obtain ⟨⟨q1, q2, q3⟩, ⟨q4, q5, q6⟩, -⟩ := p4 j hj
      obtain ⟨k, hk, ek⟩ := inB_of (x := g.2.1 3 0 j) (n := 7) (inB_iff.mpr (by omega)) (by omega)
      rw [nI_c (by omega)]
      show ∃ g' m' r, (bnd1 (fX4_numberOf (sS (sS (sS g 20 7 0) 14 0 0) 15 0 (g.2.1 3 0 j)) (nI j)) _) = some (g', r) ∧ _
      rw [eX4_numberOf (g := sS (sS (sS g 20 7 0) 14 0 0) 15 0 (g.2.1 3 0 j)) hP p1, if_pos c, bnd1_e, nI_c (by omega)]
      show ∃ g' m' r, (bnd (fX0_run 40 (sS (sS (sS (sS (sS g 20 7 0) 14 0 0) 15 0 (g.2.1 3 0 j)) 16 0 (g.2.1 4 0 j)) 17 0 (nI j)) (g.2.1 3 0 j) y z (nI 0)) fun g_13 r_14 => (some (g_13, r_14))) = some (g', r) ∧ _
      rw [bnd_id]
      have hR' : RelE (sS (sS (sS (sS (sS g 20 7 0) 14 0 0) 15 0 (g.2.1 3 0 j)) 16 0 (g.2.1 4 0 j)) 17 0 (nI j)) (sS m 53 0 0) P N := ⟨hPl, hDo, h0, h1, h2, h3, hTp, hOd, ⟨0, by omega, rfl, rfl, rfl, fun k hk => by omega⟩, hCo, hIm, hHo⟩
      have hG : Gd (sS (sS (sS (sS (sS g 20 7 0) 14 0 0) 15 0 (g.2.1 3 0 j)) 16 0 (g.2.1 4 0 j)) 17 0 (nI j)) 0 := ⟨rfl, rfl⟩
      have hM : Gm j (nI k) (g.2.1 4 0 j) (sS m 53 0 0) 0 := ⟨rfl, q1.symm.trans ek, q4.symm⟩
      obtain ⟨t0, t1, t2⟩ := part_tab (j := j) (by omega) hk (g.2.1 4 0 j) z
      have fin : ∀ (F : STt → Option (STt × Int32)) (mth : Int32), y = mth → (∃ l v, l.length ≤ 20 ∧ EV 40 (nI k) (g.2.1 4 0 j) (nI j) (nI k) mth z 0 l v ∧ MV j (nI k) (g.2.1 4 0 j) F l v) → ∃ g' m' r, fX0_run 40 (sS (sS (sS (sS (sS g 20 7 0) 14 0 0) 15 0 (g.2.1 3 0 j)) 16 0 (g.2.1 4 0 j)) 17 0 (nI j)) (g.2.1 3 0 j) y z (nI 0) = some (g', r) ∧ F (sS m 53 0 0) = some (m', r) ∧ RelE g' m' P N := by
        intro F mth hy ⟨l, v, hl, hE, hV⟩
        rw [hy, ek]
        refine ⟨_, _, v, ?_, hV _ 0 hM (by omega), RelE_ps l hR' rfl rfl (by omega)⟩
        rw [ek]
        exact hE _ 0 ⟨rfl, rfl⟩ (by omega) rfl rfl rfl
      have e2 : (2 : Int32).toInt = 2 := by decide
      have e0 : (0 : Int32).toInt = 0 := by decide
      have hy : y = 0 ∨ y = 1 ∨ y = 2 := by (simp only [Int32.lt_iff_toInt_lt, Int32.le_iff_toInt_le, ← Int32.toInt_inj, Int32.reduceToInt] at *; omega)
      rcases hy with rfl | rfl | rfl
      · obtain ⟨g', m', r, r1, r2, r3⟩ := fin _ 0 rfl t0
        refine ⟨g', m', r, r1, ?_, r3⟩
        rw [if_pos rfl, bnd_id]
        exact r2
      · obtain ⟨g', m', r, r1, r2, r3⟩ := fin _ 1 rfl t1
        refine ⟨g', m', r, r1, ?_, r3⟩
        rw [if_neg (by decide), if_pos rfl, bnd_id]
        exact r2
      · obtain ⟨g', m', r, r1, r2, r3⟩ := fin _ 2 rfl t2
        refine ⟨g', m', r, r1, ?_, r3⟩
        rw [if_neg (by decide), if_neg (by decide), bnd_id]
        exact r2
    · rw [if_neg c1, if_neg c1]
      exact ⟨_, _, _, rfl, rfl, hR⟩
  · rw [if_neg c, if_neg c]
    exact ⟨_, _, _, rfl, rfl, hR⟩
