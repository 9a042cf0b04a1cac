def fuelN : Nat := 5000
def fX11_in (g : STt) (x0 : Int32) (x1 : Int32) (x2 : Int32) : Option Int32 :=
  if x0 < x1 then (some 0) else (if x2 < x0 then (some 0) else (some 1))
def fX11_isAct (g : STt) (x0 : Int32) : Option Int32 :=
  bnd1 (fX11_in g x0 0 7) fun r_2 => (if vp_nar .boolean r_2 = r_2 then (some r_2) else none)
def fX11_isOver (g : STt) : Option Int32 :=
  if inB 12 15 = true then (if (g.2.1 57 0 (12 : Int32).toNatClampNeg) < (g.1 33 0) then (some 0) else (some 1)) else none
def fX11_lastOf_j85 (K47 : (Int32 × Int32) → Option Int32) (g : STt) (l1 : Int32) (l2 : Int32) (l3 : Int32) : Option Int32 :=
  K47 (l2, l3 + 1)
def fX11_lastOf_l47c (K47 : (Int32 × Int32) → Option Int32) (g : STt) (l1 : Int32) (l2 : Int32) (l3 : Int32) : Option Int32 :=
  if inB (g.1 36 0) 7 = true then (if ((10 * (g.1 36 0)) + (g.2.1 59 0 (g.1 36 0).toNatClampNeg)) ≤ l3 then (some l2) else (if inB l3 70 = true then (if (g.2.1 60 0 l3.toNatClampNeg) = l1 then (if inB l3 70 = true then (fX11_lastOf_j85 K47 g l1 (g.2.1 61 0 l3.toNatClampNeg) l3) else none) else (fX11_lastOf_j85 K47 g l1 l2 l3)) else none)) else none
def fX11_lastOf_l47 (g : STt) (l1 : Int32) (l2 : Int32) (l3 : Int32) : Option Int32 :=
  iterO (fun K z => fX11_lastOf_l47c K g l1 z.1 z.2) fuelN (l2, l3)
def fX11_lastOf_j29 (g : STt) (l1 : Int32) (s0 : Int32) : Option Int32 :=
  if 0 ≤ (g.1 36 0) then (fX11_lastOf_l47 g l1 s0 (10 * (g.1 36 0))) else (some s0)
def fX11_lastOf (g : STt) (x1 : Int32) : Option Int32 :=
  if x1 = 3 then (fX11_lastOf_j29 g x1 3) else (if x1 = 4 then (fX11_lastOf_j29 g x1 5) else (if x1 = 5 then (fX11_lastOf_j29 g x1 2) else (fX11_lastOf_j29 g x1 9)))
def fX11_fearAs_j34 (g : STt) (l2 : Int32) : Option Int32 :=
  if inB 12 15 = true then (if inB (g.2.1 57 0 (12 : Int32).toNatClampNeg) 10 = true then (if (g.2.1 54 0 (g.2.1 57 0 (12 : Int32).toNatClampNeg).toNatClampNeg) = 1 then (some (2 * l2)) else (if (g.2.1 54 0 (g.2.1 57 0 (12 : Int32).toNatClampNeg).toNatClampNeg) = 4 then (if inB 12 15 = true then (if inB (g.2.1 57 0 (12 : Int32).toNatClampNeg) 10 = true then (if inB 9 15 = true then (if 0 ≤ ((2 * l2) - ((g.2.1 55 0 (g.2.1 57 0 (12 : Int32).toNatClampNeg).toNatClampNeg) * (g.2.1 57 0 (9 : Int32).toNatClampNeg))) then (some ((2 * l2) - ((g.2.1 55 0 (g.2.1 57 0 (12 : Int32).toNatClampNeg).toNatClampNeg) * (g.2.1 57 0 (9 : Int32).toNatClampNeg)))) else (some 0)) else none) else none) else none) else (some l2))) else none) else none
def fX11_fearAs_j27 (g : STt) (l1 : Int32) (l2 : Int32) : Option Int32 :=
  if l1 = 3 then (fX11_fearAs_j34 g 0) else (fX11_fearAs_j34 g l2)
def fX11_fearAs (g : STt) (x1 : Int32) : Option Int32 :=
  if inB 12 15 = true then (if inB (g.2.1 57 0 (12 : Int32).toNatClampNeg) 10 = true then (if inB (g.2.1 56 0 (g.2.1 57 0 (12 : Int32).toNatClampNeg).toNatClampNeg) 15 = true then (if x1 = 2 then (fX11_fearAs_j27 g x1 ((g.2.1 57 0 (g.2.1 56 0 (g.2.1 57 0 (12 : Int32).toNatClampNeg).toNatClampNeg).toNatClampNeg) / 2)) else (fX11_fearAs_j27 g x1 (g.2.1 57 0 (g.2.1 56 0 (g.2.1 57 0 (12 : Int32).toNatClampNeg).toNatClampNeg).toNatClampNeg))) else none) else none) else none
def fX11_held (g : STt) (x0 : Int32) (x1 : Int32) : Option Int32 :=
  if 0 ≤ x0 then (if x0 ≤ x1 then (some x0) else (some x1)) else (some 0)
def fX11_sizeOf (g : STt) (x0 : Int32) : Option Int32 :=
  if 0 ≤ x0 then (some x0) else (some (-x0))
def fX11_factOf_j211 (g : STt) : Option Int32 :=
  if inB 14 15 = true then (some ((g.2.1 57 0 (14 : Int32).toNatClampNeg) - (g.2.1 57 0 (14 : Int32).toNatClampNeg) / 60 * 60)) else none
def fX11_factOf (g : STt) (x1 : Int32) : Option Int32 :=
  if x1 = 97 then (if inB 12 15 = true then (some (g.2.1 57 0 (12 : Int32).toNatClampNeg)) else none) else (if x1 = 98 then (fX11_factOf_j211 g) else (if x1 = 99 then (fX11_factOf_j211 g) else (if x1 = 100 then (fX11_factOf_j211 g) else (if x1 = 101 then (fX11_factOf_j211 g) else (if x1 = 102 then (if inB 12 15 = true then (if inB (g.2.1 57 0 (12 : Int32).toNatClampNeg) 10 = true then (if inB (g.2.1 56 0 (g.2.1 57 0 (12 : Int32).toNatClampNeg).toNatClampNeg) 15 = true then (some (g.2.1 57 0 (g.2.1 56 0 (g.2.1 57 0 (12 : Int32).toNatClampNeg).toNatClampNeg).toNatClampNeg)) else none) else none) else none) else (if x1 = 103 then (fX11_factOf_j211 g) else (if x1 = 104 then (if inB 7 15 = true then (some (g.2.1 57 0 (7 : Int32).toNatClampNeg)) else none) else (if x1 = 105 then (fX11_factOf_j211 g) else (if x1 = 106 then (fX11_factOf_j211 g) else (if x1 = 107 then (if inB 12 15 = true then (if inB (g.2.1 57 0 (12 : Int32).toNatClampNeg) 10 = true then (some (g.2.1 54 0 (g.2.1 57 0 (12 : Int32).toNatClampNeg).toNatClampNeg)) else none) else none) else (if x1 = 108 then (if inB 10 15 = true then (if inB 11 15 = true then (bnd1 (fX11_sizeOf g ((g.2.1 57 0 (10 : Int32).toNatClampNeg) - (g.2.1 57 0 (11 : Int32).toNatClampNeg))) fun r_16 => (some r_16)) else none) else none) else (if x1 = 109 then (fX11_factOf_j211 g) else (if x1 = 110 then (fX11_factOf_j211 g) else (if x1 = 111 then (fX11_factOf_j211 g) else (if x1 = 112 then (if inB 6 15 = true then (some (g.2.1 57 0 (6 : Int32).toNatClampNeg)) else none) else (if x1 = 113 then (fX11_factOf_j211 g) else (if x1 = 114 then (fX11_factOf_j211 g) else (if x1 = 115 then (if inB 10 15 = true then (if inB 11 15 = true then (bnd1 (fX11_held g ((g.2.1 57 0 (10 : Int32).toNatClampNeg) + (g.2.1 57 0 (11 : Int32).toNatClampNeg)) 99) fun r_23 => (some r_23)) else none) else none) else (if x1 = 116 then (fX11_factOf_j211 g) else (if x1 = 117 then (fX11_factOf_j211 g) else (if x1 = 118 then (fX11_factOf_j211 g) else (if x1 = 119 then (if inB 8 15 = true then (some (g.2.1 57 0 (8 : Int32).toNatClampNeg)) else none) else (fX11_factOf_j211 g)))))))))))))))))))))))
def fX11_test (g : STt) (x0 : Int32) (x1 : Int32) (x2 : Int32) : Option Int32 :=
  if x1 = 60 then (if x2 ≤ x0 then (some 0) else (some 1)) else (if x1 = 61 then (if x0 = x2 then (some 1) else (some 0)) else (if x0 ≤ x2 then (some 0) else (some 1)))
def fX11_isSo_j207 (K17 : (STt × Int32 × Int32) → Option (STt × Int32)) (g : STt) (l1 : Int32) (l2 : Int32) (l3 : Int32) : Option (STt × Int32) :=
  K17 (g, l2, l3 + 1)
def fX11_isSo_j128 (K17 : (STt × Int32 × Int32) → Option (STt × Int32)) (g : STt) (l1 : Int32) (l2 : Int32) (l3 : Int32) (s0 : Int32) (s1 : Int32) : Option (STt × Int32) :=
  if inB s1 100 = true then (fX11_isSo_j207 K17 (sA1 g 69 0 s1.toNatClampNeg (vp_nar .boolean s0)) l1 l2 l3) else none
def fX11_isSo_j167 (K17 : (STt × Int32 × Int32) → Option (STt × Int32)) (g : STt) (l1 : Int32) (l2 : Int32) (l3 : Int32) (s0 : Int32) (s1 : Int32) : Option (STt × Int32) :=
  if inB s1 100 = true then (fX11_isSo_j207 K17 (sA1 g 69 0 s1.toNatClampNeg (vp_nar .boolean s0)) l1 l2 l3) else none
def fX11_isSo_j166 (K17 : (STt × Int32 × Int32) → Option (STt × Int32)) (g : STt) (l1 : Int32) (l2 : Int32) (l3 : Int32) (s0 : Int32) : Option (STt × Int32) :=
  fX11_isSo_j167 K17 g l1 l2 l3 0 s0
def fX11_isSo_j206 (K17 : (STt × Int32 × Int32) → Option (STt × Int32)) (g : STt) (l1 : Int32) (l2 : Int32) (l3 : Int32) (s0 : Int32) (s1 : Int32) : Option (STt × Int32) :=
  if inB s1 100 = true then (fX11_isSo_j207 K17 (sA1 g 69 0 s1.toNatClampNeg (vp_nar .boolean s0)) l1 l2 l3) else none
def fX11_isSo_j201 (K17 : (STt × Int32 × Int32) → Option (STt × Int32)) (g : STt) (l1 : Int32) (l2 : Int32) (l3 : Int32) (s0 : Int32) : Option (STt × Int32) :=
  fX11_isSo_j206 K17 g l1 l2 l3 1 s0
def fX11_isSo_l17c (K17 : (STt × Int32 × Int32) → Option (STt × Int32)) (l1 : Int32) (g : STt) (l2 : Int32) (l3 : Int32) : Option (STt × Int32) :=
  if inB l1 70 = true then (if ((100 * (g.1 36 0)) + (g.2.1 63 0 l1.toNatClampNeg)) ≤ l3 then (if inB 0 100 = true then (if vp_nar .boolean (g.2.1 69 0 (0 : Int32).toNatClampNeg) = (g.2.1 69 0 (0 : Int32).toNatClampNeg) then (some (g, g.2.1 69 0 (0 : Int32).toNatClampNeg)) else none) else none) else (if inB l3 700 = true then (if (g.2.1 64 0 l3.toNatClampNeg) = 0 then (if inB l3 700 = true then (bnd1 (fX11_factOf g (g.2.1 65 0 l3.toNatClampNeg)) fun r_7 => (if inB l3 700 = true then (if inB l3 700 = true then (bnd1 (fX11_test g r_7 (g.2.1 66 0 l3.toNatClampNeg) (g.2.1 67 0 l3.toNatClampNeg)) fun r_11 => (if inB l2 100 = true then (fX11_isSo_j207 K17 (sA1 g 69 0 l2.toNatClampNeg (vp_nar .boolean r_11)) l1 (l2 + 1) l3) else none)) else none) else none)) else none) else (if (g.2.1 64 0 l3.toNatClampNeg) = 1 then (if inB (l2 - 1) 100 = true then (if (g.2.1 69 0 (l2 - 1).toNatClampNeg) = 0 then (fX11_isSo_j128 K17 g l1 l2 l3 1 (l2 - 1)) else (fX11_isSo_j128 K17 g l1 l2 l3 0 (l2 - 1))) else none) else (if (g.2.1 64 0 l3.toNatClampNeg) = 2 then (if inB ((l2 + (-1)) - 1) 100 = true then (if (g.2.1 69 0 ((l2 + (-1)) - 1).toNatClampNeg) = 0 then (fX11_isSo_j166 K17 g l1 (l2 + (-1)) l3 ((l2 + (-1)) - 1)) else (if inB (l2 + (-1)) 100 = true then (if (g.2.1 69 0 (l2 + (-1)).toNatClampNeg) = 0 then (fX11_isSo_j166 K17 g l1 (l2 + (-1)) l3 ((l2 + (-1)) - 1)) else (fX11_isSo_j167 K17 g l1 (l2 + (-1)) l3 1 ((l2 + (-1)) - 1))) else none)) else none) else (if inB ((l2 + (-1)) - 1) 100 = true then (if (g.2.1 69 0 ((l2 + (-1)) - 1).toNatClampNeg) = 0 then (if inB (l2 + (-1)) 100 = true then (if (g.2.1 69 0 (l2 + (-1)).toNatClampNeg) = 0 then (fX11_isSo_j206 K17 g l1 (l2 + (-1)) l3 0 ((l2 + (-1)) - 1)) else (fX11_isSo_j201 K17 g l1 (l2 + (-1)) l3 ((l2 + (-1)) - 1))) else none) else (fX11_isSo_j201 K17 g l1 (l2 + (-1)) l3 ((l2 + (-1)) - 1))) else none)))) else none)) else none
def fX11_isSo_l17 (l1 : Int32) (g : STt) (l2 : Int32) (l3 : Int32) : Option (STt × Int32) :=
  iterO (fun K z => fX11_isSo_l17c K l1 z.1 z.2.1 z.2.2) fuelN (g, l2, l3)
def fX11_isSo (g : STt) (x1 : Int32) : Option (STt × Int32) :=
  if inB x1 70 = true then (fX11_isSo_l17 x1 g 0 ((100 * (g.1 36 0)) + (g.2.1 62 0 x1.toNatClampNeg))) else none
def fX11_sumOf_j67 (K19 : (STt × Int32 × Int32) → Option (STt × Int32)) (g : STt) (l1 : Int32) (l2 : Int32) (l3 : Int32) : Option (STt × Int32) :=
  K19 (g, l2, l3 + 1)
def fX11_sumOf_l19c (K19 : (STt × Int32 × Int32) → Option (STt × Int32)) (l1 : Int32) (g : STt) (l2 : Int32) (l3 : Int32) : Option (STt × Int32) :=
  if inB (g.1 36 0) 7 = true then (if ((10 * (g.1 36 0)) + (g.2.1 59 0 (g.1 36 0).toNatClampNeg)) ≤ l3 then (some (g, l2)) else (if inB l3 70 = true then (if (g.2.1 60 0 l3.toNatClampNeg) = l1 then (bnd (fX11_isSo g l3) fun g_6 r_7 => (if r_7 = 0 then (fX11_sumOf_j67 K19 g_6 l1 l2 l3) else (if inB l3 70 = true then (fX11_sumOf_j67 K19 g_6 l1 (l2 + (g_6.2.1 61 0 l3.toNatClampNeg)) l3) else none))) else (fX11_sumOf_j67 K19 g l1 l2 l3)) else none)) else none
def fX11_sumOf_l19 (l1 : Int32) (g : STt) (l2 : Int32) (l3 : Int32) : Option (STt × Int32) :=
  iterO (fun K z => fX11_sumOf_l19c K l1 z.1 z.2.1 z.2.2) fuelN (g, l2, l3)
def fX11_sumOf (g : STt) (x1 : Int32) : Option (STt × Int32) :=
  if 0 ≤ (g.1 36 0) then (fX11_sumOf_l19 x1 g 0 (10 * (g.1 36 0))) else (some (g, 0))
def fX11_lessBy_j74 (g : STt) : Option (STt × Int32) :=
  bnd (fX11_sumOf g 2) fun g_2 r_3 => (some (g_2, r_3))
def fX11_lessBy_j95 (g : STt) : Option (STt × Int32) :=
  if inB 6 15 = true then (some (g, g.2.1 57 0 (6 : Int32).toNatClampNeg)) else none
def fX11_lessBy (g : STt) (x1 : Int32) (x2 : Int32) : Option (STt × Int32) :=
  if inB 12 15 = true then (if inB (g.2.1 57 0 (12 : Int32).toNatClampNeg) 10 = true then (if x1 = 0 then (bnd (fX11_sumOf g 1) fun g_5 r_6 => (some (g_5, r_6))) else (if x1 = 1 then (bnd1 (fX11_fearAs g x2) fun r_6 => (some (g, r_6))) else (if x1 = 2 then (if (g.2.1 54 0 (g.2.1 57 0 (12 : Int32).toNatClampNeg).toNatClampNeg) = 2 then (fX11_lessBy_j74 g) else (if (g.2.1 54 0 (g.2.1 57 0 (12 : Int32).toNatClampNeg).toNatClampNeg) = 5 then (fX11_lessBy_j74 g) else (some (g, 0)))) else (if x1 = 3 then (if (g.2.1 54 0 (g.2.1 57 0 (12 : Int32).toNatClampNeg).toNatClampNeg) = 3 then (fX11_lessBy_j95 g) else (if (g.2.1 54 0 (g.2.1 57 0 (12 : Int32).toNatClampNeg).toNatClampNeg) = 6 then (fX11_lessBy_j95 g) else (some (g, 0)))) else (if x1 = 4 then (if (g.2.1 54 0 (g.2.1 57 0 (12 : Int32).toNatClampNeg).toNatClampNeg) = 5 then (if inB 8 15 = true then (some (g, (g.2.1 57 0 (8 : Int32).toNatClampNeg) / 2)) else none) else (some (g, 0))) else (if x1 = 5 then (if (g.2.1 54 0 (g.2.1 57 0 (12 : Int32).toNatClampNeg).toNatClampNeg) = 6 then (if inB 12 15 = true then (if inB (g.2.1 57 0 (12 : Int32).toNatClampNeg) 10 = true then (if inB 12 15 = true then (some (g, (g.2.1 55 0 (g.2.1 57 0 (12 : Int32).toNatClampNeg).toNatClampNeg) * (g.2.1 57 0 (12 : Int32).toNatClampNeg))) else none) else none) else none) else (some (g, 0))) else (if inB 13 15 = true then (if (g.2.1 57 0 (13 : Int32).toNatClampNeg) = 1 then (some (g, 15)) else (some (g, 0))) else none))))))) else none) else none
def fX11_driveBy_l65c (K65 : (STt × Int32 × Int32) → Option (STt × Int32)) (l1 : Int32) (g : STt) (l2 : Int32) (l3 : Int32) : Option (STt × Int32) :=
  if 6 < l3 then (some (g, l2 - (g.1 41 0))) else (bnd (fX11_lessBy g l3 l1) fun g_3 r_4 => (K65 (g_3, l2 - r_4, l3 + 1)))
def fX11_driveBy_l65 (l1 : Int32) (g : STt) (l2 : Int32) (l3 : Int32) : Option (STt × Int32) :=
  iterO (fun K z => fX11_driveBy_l65c K l1 z.1 z.2.1 z.2.2) fuelN (g, l2, l3)
def fX11_driveBy_j63 (g : STt) (l1 : Int32) (l2 : Int32) : Option (STt × Int32) :=
  fX11_driveBy_l65 l1 g l2 0
def fX11_driveBy_j55 (g : STt) (l1 : Int32) (l2 : Int32) : Option (STt × Int32) :=
  if l1 = 3 then (fX11_driveBy_j63 g l1 (l2 + (-20))) else (fX11_driveBy_j63 g l1 l2)
def fX11_driveBy_j41 (g : STt) (l1 : Int32) (l2 : Int32) : Option (STt × Int32) :=
  if l1 = 7 then (bnd1 (fX11_lastOf g 4) fun r_3 => (fX11_driveBy_j55 g l1 (l2 + r_3))) else (fX11_driveBy_j55 g l1 l2)
def fX11_driveBy_j24 (g : STt) (l1 : Int32) (l2 : Int32) : Option (STt × Int32) :=
  if l1 = 4 then (if inB 7 15 = true then (fX11_driveBy_j41 g l1 (l2 + ((g.2.1 57 0 (7 : Int32).toNatClampNeg) / 2))) else none) else (fX11_driveBy_j41 g l1 l2)
def fX11_driveBy (g : STt) (x1 : Int32) : Option (STt × Int32) :=
  bnd (fX11_sumOf g 0) fun g_2 r_3 => (if x1 = 1 then (bnd1 (fX11_lastOf g_2 3) fun r_6 => (fX11_driveBy_j24 g_2 x1 (r_3 + (r_6 + (g_2.1 40 0))))) else (fX11_driveBy_j24 g_2 x1 r_3))
def fX11_wouldBy (g : STt) (x1 : Int32) : Option (STt × Int32) :=
  if x1 = 6 then (some (g, 1)) else (bnd (fX11_driveBy g x1) fun g_3 r_4 => (if r_4 ≤ 0 then (if r_4 ≤ (-15) then (if r_4 ≤ (-40) then (some (g_3, 3)) else (some (g_3, 2))) else (some (g_3, 0))) else (some (g_3, 1))))
def fX11_would (g : STt) (x1 : Int32) : Option (STt × Int32) :=
  bnd1 (fX11_isAct g x1) fun r_2 => (if r_2 = 0 then (some (g, (-1))) else (bnd1 (fX11_isOver g) fun r_5 => (if r_5 = 0 then (bnd (fX11_wouldBy g x1) fun g_8 r_9 => (some (g_8, r_9))) else (some (g, (-5))))))
def fX11_why_j46 (K23 : (STt × Int32 × Int32) → Option (STt × Int32)) (g : STt) (l1 : Int32) (l2 : Int32) : Option (STt × Int32) :=
  K23 (g, l1, l2 + 1)
def fX11_why_l23c (K23 : (STt × Int32 × Int32) → Option (STt × Int32)) (g : STt) (l1 : Int32) (l2 : Int32) : Option (STt × Int32) :=
  if 6 < l2 then (some (g, l1)) else (bnd (fX11_lessBy g l2 0) fun g_3 r_4 => (bnd (fX11_lessBy g_3 l1 0) fun g_6 r_7 => (if r_4 ≤ r_7 then (fX11_why_j46 K23 g_6 l1 l2) else (fX11_why_j46 K23 g_6 l2 l2))))
def fX11_why_l23 (g : STt) (l1 : Int32) (l2 : Int32) : Option (STt × Int32) :=
  iterO (fun K z => fX11_why_l23c K z.1 z.2.1 z.2.2) fuelN (g, l1, l2)
def fX11_why (g : STt) : Option (STt × Int32) :=
  bnd1 (fX11_isOver g) fun r_2 => (if r_2 = 0 then (bnd (fX11_wouldBy g 0) fun g_5 r_6 => (if r_6 = 1 then (some (g_5, (-5))) else (fX11_why_l23 g_5 0 1))) else (some (g, (-5))))
def fX11_wander (g : STt) (x1 : Int32) : Option (STt × Int32) :=
  bnd1 (fX11_in g x1 0 10) fun r_2 => (if r_2 = 0 then (some (g, (-2))) else (some (sS g 44 0 x1, g.1 44 0)))
def fX11_mostOf (g : STt) (x1 : Int32) : Option Int32 :=
  if x1 = 9 then (some 9) else (if x1 = 12 then (some (g.1 33 0)) else (if x1 = 13 then (some 1) else (some 99)))
def fX11_more (g : STt) (x1 : Int32) (x2 : Int32) : Option STt :=
  if inB x1 15 = true then (bnd1 (fX11_mostOf g x1) fun r_3 => (bnd1 (fX11_held g ((g.2.1 57 0 x1.toNatClampNeg) + x2) r_3) fun r_5 => (if inB x1 15 = true then (some (sA1 g 57 0 x1.toNatClampNeg r_5)) else none))) else none
def fX11_driven_j73 (g : STt) (l1 : Int32) (l2 : Int32) : Option STt :=
  if l1 = 1 then (if l2 = 0 then (bnd1 (fX11_more g 6 (-1)) fun g_4 => (some g_4)) else (some g)) else (some g)
def fX11_driven_j49 (g : STt) (l1 : Int32) (l2 : Int32) (l3 : Int32) : Option STt :=
  if l1 = 7 then (if l2 = 0 then (bnd1 (fX11_more g l3 3) fun g_4 => (bnd1 (fX11_more g_4 6 (-2)) fun g_6 => (fX11_driven_j73 g_6 l1 l2))) else (fX11_driven_j73 g l1 l2)) else (fX11_driven_j73 g l1 l2)
def fX11_driven_j28 (g : STt) (l1 : Int32) (l2 : Int32) (l3 : Int32) : Option STt :=
  if l1 = 5 then (bnd1 (fX11_more g 10 (-5)) fun g_3 => (bnd1 (fX11_more g_3 11 (-5)) fun g_5 => (fX11_driven_j49 g_5 l1 l2 l3))) else (fX11_driven_j49 g l1 l2 l3)
def fX11_driven_j17 (g : STt) (l1 : Int32) (l2 : Int32) (l3 : Int32) (s0 : Int32) (s1 : Int32) : Option STt :=
  bnd1 (fX11_more g s1 s0) fun g_2 => (bnd1 (fX11_more g_2 7 (-3)) fun g_4 => (fX11_driven_j28 g_4 l1 l2 l3))
def fX11_driven (g : STt) (x1 : Int32) (x2 : Int32) (x3 : Int32) : Option STt :=
  if x1 = 4 then (if x2 = 0 then (fX11_driven_j17 g x1 x2 x3 5 6) else (fX11_driven_j17 g x1 x2 x3 (-1) 6)) else (fX11_driven_j28 g x1 x2 x3)
def fX11_fordHalves (g : STt) : Option Int32 :=
  bnd1 (fX11_lastOf g 6) fun r_2 => (if r_2 = 0 then (some 1) else (bnd1 (fX11_lastOf g 6) fun r_5 => (some r_5)))
def fX11_does_j263 (g : STt) (l2 : Int32) (l3 : Int32) (s0 : Int32) (s1 : Int32) : Option (STt × Int32) :=
  bnd1 (fX11_driven g s1 s0 l2) fun g_2 => (if inB 14 15 = true then (if inB 14 15 = true then (some (sA1 g_2 57 0 (14 : Int32).toNatClampNeg ((g_2.2.1 57 0 (14 : Int32).toNatClampNeg) + 1), l3)) else none) else none)
def fX11_does_j251 (g : STt) (l1 : Int32) (l2 : Int32) (l3 : Int32) : Option (STt × Int32) :=
  if l3 = 1 then (fX11_does_j263 g l2 l3 1 l1) else (fX11_does_j263 g l2 l3 0 l1)
def fX11_does_j185 (g : STt) (l1 : Int32) (l2 : Int32) (l3 : Int32) : Option (STt × Int32) :=
  if inB 13 15 = true then (fX11_does_j251 (sA1 g 57 0 (13 : Int32).toNatClampNeg 0) l1 l2 l3) else none
def fX11_does_j217 (g : STt) (l1 : Int32) (l2 : Int32) (l3 : Int32) : Option (STt × Int32) :=
  if inB 9 15 = true then (if inB 13 15 = true then (fX11_does_j251 (sA1 (sA1 g 57 0 (9 : Int32).toNatClampNeg 0) 57 0 (13 : Int32).toNatClampNeg 0) l1 l2 l3) else none) else none
def fX11_does (g : STt) (x1 : Int32) : Option (STt × Int32) :=
  bnd1 (fX11_isOver g) fun r_2 => (if r_2 = 0 then (if inB 12 15 = true then (if inB (g.2.1 57 0 (12 : Int32).toNatClampNeg) 10 = true then (bnd (fX11_wouldBy g x1) fun g_7 r_8 => (if x1 = 6 then (if inB 14 15 = true then (bnd1 (fX11_fordHalves g_7) fun r_12 => (if inB 14 15 = true then (if inB 12 15 = true then (if inB 12 15 = true then (if inB 9 15 = true then (if inB 13 15 = true then (bnd1 (fX11_more (sA1 (sA1 (sA1 (sA1 g_7 57 0 (14 : Int32).toNatClampNeg ((g_7.2.1 57 0 (14 : Int32).toNatClampNeg) + r_12)) 57 0 (12 : Int32).toNatClampNeg (((sA1 g_7 57 0 (14 : Int32).toNatClampNeg ((g_7.2.1 57 0 (14 : Int32).toNatClampNeg) + r_12)).2.1 57 0 (12 : Int32).toNatClampNeg) + 1)) 57 0 (9 : Int32).toNatClampNeg 0) 57 0 (13 : Int32).toNatClampNeg 0) 6 10) fun g_19 => (some (g_19, 1))) else none) else none) else none) else none) else none)) else none) else (bnd1 (fX11_lastOf g_7 5) fun r_11 => (if r_8 = 0 then (if x1 = 7 then (fX11_does_j185 g_7 x1 (g.2.1 56 0 (g.2.1 57 0 (12 : Int32).toNatClampNeg).toNatClampNeg) r_8) else (bnd1 (fX11_more g_7 (g.2.1 56 0 (g.2.1 57 0 (12 : Int32).toNatClampNeg).toNatClampNeg) (-r_11)) fun g_15 => (bnd1 (fX11_more g_15 9 1) fun g_17 => (fX11_does_j185 g_17 x1 (g.2.1 56 0 (g.2.1 57 0 (12 : Int32).toNatClampNeg).toNatClampNeg) r_8)))) else (if r_8 = 1 then (bnd1 (fX11_more g_7 (g.2.1 56 0 (g.2.1 57 0 (12 : Int32).toNatClampNeg).toNatClampNeg) (-5)) fun g_15 => (bnd1 (fX11_more g_15 8 1) fun g_17 => (if inB 9 15 = true then (if inB 13 15 = true then (if inB 12 15 = true then (if inB 12 15 = true then (fX11_does_j251 (sA1 (sA1 (sA1 g_17 57 0 (9 : Int32).toNatClampNeg 0) 57 0 (13 : Int32).toNatClampNeg 0) 57 0 (12 : Int32).toNatClampNeg (((sA1 (sA1 g_17 57 0 (9 : Int32).toNatClampNeg 0) 57 0 (13 : Int32).toNatClampNeg 0).2.1 57 0 (12 : Int32).toNatClampNeg) + 1)) x1 (g.2.1 56 0 (g.2.1 57 0 (12 : Int32).toNatClampNeg).toNatClampNeg) r_8) else none) else none) else none) else none))) else (if r_8 = 2 then (if inB 12 15 = true then (if (g_7.2.1 57 0 (12 : Int32).toNatClampNeg) ≤ 0 then (fX11_does_j217 g_7 x1 (g.2.1 56 0 (g.2.1 57 0 (12 : Int32).toNatClampNeg).toNatClampNeg) r_8) else (if inB 12 15 = true then (if inB 12 15 = true then (fX11_does_j217 (sA1 g_7 57 0 (12 : Int32).toNatClampNeg ((g_7.2.1 57 0 (12 : Int32).toNatClampNeg) - 1)) x1 (g.2.1 56 0 (g.2.1 57 0 (12 : Int32).toNatClampNeg).toNatClampNeg) r_8) else none) else none)) else none) else (if inB 13 15 = true then (bnd1 (fX11_more (sA1 g_7 57 0 (13 : Int32).toNatClampNeg 1) 8 (-1)) fun g_17 => (fX11_does_j251 g_17 x1 (g.2.1 56 0 (g.2.1 57 0 (12 : Int32).toNatClampNeg).toNatClampNeg) r_8)) else none))))))) else none) else none) else (some (g, (-5))))
def fX11_keepNow_l2c (K2 : (STt × Int32) → Option STt) (g : STt) (l1 : Int32) : Option STt :=
  if 15 ≤ l1 then (some g) else (if inB l1 15 = true then (if inB l1 15 = true then (K2 ((sA1 g 71 0 l1.toNatClampNeg (g.2.1 57 0 l1.toNatClampNeg)), l1 + 1)) else none) else none)
def fX11_keepNow_l2 (g : STt) (l1 : Int32) : Option STt :=
  iterO (fun K z => fX11_keepNow_l2c K z.1 z.2) fuelN (g, l1)
def fX11_keepNow (g : STt) : Option STt :=
  fX11_keepNow_l2 g 0
def fX11_layBack_l2c (K2 : (STt × Int32) → Option STt) (g : STt) (l1 : Int32) : Option STt :=
  if 15 ≤ l1 then (some g) else (if inB l1 15 = true then (if inB l1 15 = true then (K2 ((sA1 g 57 0 l1.toNatClampNeg (g.2.1 71 0 l1.toNatClampNeg)), l1 + 1)) else none) else none)
def fX11_layBack_l2 (g : STt) (l1 : Int32) : Option STt :=
  iterO (fun K z => fX11_layBack_l2c K z.1 z.2) fuelN (g, l1)
def fX11_layBack (g : STt) : Option STt :=
  fX11_layBack_l2 g 0
def fX11_waitsFor_j52 (g : STt) (l1 : Int32) : Option (STt × Int32) :=
  bnd1 (fX11_layBack g) fun g_2 => (some (g_2, l1))
def fX11_waitsFor_j46 (K9 : (STt × Int32 × Int32) → Option (STt × Int32)) (g : STt) (l1 : Int32) (l2 : Int32) : Option (STt × Int32) :=
  K9 (g, l1, l2 + 1)
def fX11_waitsFor_l9c (K9 : (STt × Int32 × Int32) → Option (STt × Int32)) (g : STt) (l1 : Int32) (l2 : Int32) : Option (STt × Int32) :=
  if 60 < l2 then (fX11_waitsFor_j52 g l1) else (if 0 ≤ l1 then (fX11_waitsFor_j52 g l1) else (bnd (fX11_does g 0) fun g_4 r_5 => (if inB 12 15 = true then (if inB 12 15 = true then (if (g_4.2.1 57 0 (12 : Int32).toNatClampNeg) = ((g_4.2.1 71 0 (12 : Int32).toNatClampNeg) + 1) then (fX11_waitsFor_j46 K9 g_4 l2 l2) else (fX11_waitsFor_j46 K9 g_4 l1 l2)) else none) else none)))
def fX11_waitsFor_l9 (g : STt) (l1 : Int32) (l2 : Int32) : Option (STt × Int32) :=
  iterO (fun K z => fX11_waitsFor_l9c K z.1 z.2.1 z.2.2) fuelN (g, l1, l2)
def fX11_waitsFor (g : STt) : Option (STt × Int32) :=
  bnd1 (fX11_keepNow g) fun g_2 => (fX11_waitsFor_l9 g_2 (-5) 1)
def fX11_waits (g : STt) : Option (STt × Int32) :=
  bnd1 (fX11_isOver g) fun r_2 => (if r_2 = 0 then (bnd (fX11_waitsFor g) fun g_5 r_6 => (some (g_5, r_6))) else (some (g, (-3))))
def fX11_undo_l116c (K116 : (STt × Int32) → Option (STt × Int32)) (g : STt) (l1 : Int32) : Option (STt × Int32) :=
  if 4 ≤ l1 then (if inB 12 15 = true then (some (g, g.2.1 57 0 (12 : Int32).toNatClampNeg)) else none) else (if inB l1 4 = true then (if inB l1 4 = true then (K116 ((sA1 g 72 0 l1.toNatClampNeg (g.2.1 81 0 l1.toNatClampNeg)), l1 + 1)) else none) else none)
def fX11_undo_l116 (g : STt) (l1 : Int32) : Option (STt × Int32) :=
  iterO (fun K z => fX11_undo_l116c K z.1 z.2) fuelN (g, l1)
def fX11_undo_l78c (K78 : (STt × Int32) → Option (STt × Int32)) (g : STt) (l1 : Int32) : Option (STt × Int32) :=
  if 12 ≤ l1 then (fX11_undo_l116 g 0) else (if inB l1 12 = true then (if inB l1 12 = true then (if inB l1 12 = true then (if inB l1 12 = true then (K78 ((sA1 (sA1 g 70 0 l1.toNatClampNeg (g.2.1 79 0 l1.toNatClampNeg)) 73 0 l1.toNatClampNeg ((sA1 g 70 0 l1.toNatClampNeg (g.2.1 79 0 l1.toNatClampNeg)).2.1 80 0 l1.toNatClampNeg)), l1 + 1)) else none) else none) else none) else none)
def fX11_undo_l78 (g : STt) (l1 : Int32) : Option (STt × Int32) :=
  iterO (fun K z => fX11_undo_l78c K z.1 z.2) fuelN (g, l1)
def fX11_undo_l52c (K52 : (STt × Int32) → Option (STt × Int32)) (g : STt) (l1 : Int32) : Option (STt × Int32) :=
  if 15 ≤ l1 then (fX11_undo_l78 g 0) else (if inB l1 15 = true then (if inB l1 15 = true then (K52 ((sA1 g 57 0 l1.toNatClampNeg (g.2.1 78 0 l1.toNatClampNeg)), l1 + 1)) else none) else none)
def fX11_undo_l52 (g : STt) (l1 : Int32) : Option (STt × Int32) :=
  iterO (fun K z => fX11_undo_l52c K z.1 z.2) fuelN (g, l1)
def fX11_undo (g : STt) : Option (STt × Int32) :=
  if (g.1 47 0) = 0 then (some (g, (-3))) else (fX11_undo_l52 (sS (sS (sS (sS (sS g 36 0 (g.1 48 0)) 44 0 ((sS g 36 0 (g.1 48 0)).1 49 0)) 42 0 ((sS (sS g 36 0 (g.1 48 0)) 44 0 ((sS g 36 0 (g.1 48 0)).1 49 0)).1 50 0)) 46 0 ((sS (sS (sS g 36 0 (g.1 48 0)) 44 0 ((sS g 36 0 (g.1 48 0)).1 49 0)) 42 0 ((sS (sS g 36 0 (g.1 48 0)) 44 0 ((sS g 36 0 (g.1 48 0)).1 49 0)).1 50 0)).1 51 0)) 45 0 ((sS (sS (sS (sS g 36 0 (g.1 48 0)) 44 0 ((sS g 36 0 (g.1 48 0)).1 49 0)) 42 0 ((sS (sS g 36 0 (g.1 48 0)) 44 0 ((sS g 36 0 (g.1 48 0)).1 49 0)).1 50 0)) 46 0 ((sS (sS (sS g 36 0 (g.1 48 0)) 44 0 ((sS g 36 0 (g.1 48 0)).1 49 0)) 42 0 ((sS (sS g 36 0 (g.1 48 0)) 44 0 ((sS g 36 0 (g.1 48 0)).1 49 0)).1 50 0)).1 51 0)).1 52 0)) 0)
def fX11_trace (g : STt) (x1 : Int32) : Option Int32 :=
  bnd1 (fX11_in g x1 0 ((g.1 53 0) - 1)) fun r_2 => (if r_2 = 0 then (some (-1)) else (if 20 ≤ x1 then (some (-1)) else (if inB x1 20 = true then (some (g.2.1 82 0 x1.toNatClampNeg)) else none)))
def fX11_told (g : STt) (x1 : Int32) : Option (STt × Int32) :=
  bnd1 (fX11_in g x1 0 6) fun r_2 => (if r_2 = 0 then (some (g, (-1))) else (if x1 ≤ 2 then (bnd1 (fX11_isOver g) fun r_6 => (if r_6 = 0 then (bnd (fX11_sumOf g x1) fun g_9 r_10 => (some (g_9, r_10))) else (some (g, (-3))))) else (bnd1 (fX11_lastOf g x1) fun r_6 => (some (g, r_6)))))
def fX11_isTape (g : STt) (x0 : Int32) : Option Int32 :=
  bnd1 (fX11_in g x0 0 5) fun r_2 => (if vp_nar .boolean r_2 = r_2 then (some r_2) else none)
def fX11_tape_l68c (K68 : (STt × Int32) → Option (STt × Int32)) (l1 : Int32) (l3 : Int32) (g : STt) (l4 : Int32) : Option (STt × Int32) :=
  if l3 ≤ l4 then (some (g, 1)) else (if inB ((60 * l1) + l4) 360 = true then (K68 ((sL1 g 76 0 ((60 * l1) + l4).toNatClampNeg 0), l4 + 1)) else none)
def fX11_tape_l68 (l1 : Int32) (l3 : Int32) (g : STt) (l4 : Int32) : Option (STt × Int32) :=
  iterO (fun K z => fX11_tape_l68c K l1 l3 z.1 z.2) fuelN (g, l4)
def fX11_tape (g : STt) (x1 : Int32) (x2 : Int32) (x3 : Int32) : Option (STt × Int32) :=
  bnd1 (fX11_isTape g x1) fun r_2 => (if r_2 = 0 then (some (g, (-1))) else (bnd1 (fX11_in g x2 (-1) 4) fun r_5 => (if r_5 = 0 then (some (g, (-2))) else (if x2 = (-1) then (if inB x1 6 = true then (some (sA1 g 74 0 x1.toNatClampNeg (-1), 1)) else none) else (if x3 ≤ 60 then (if 0 ≤ x3 then (if inB x1 6 = true then (if inB x1 6 = true then (fX11_tape_l68 x1 x3 (sA1 (sA1 g 74 0 x1.toNatClampNeg x2) 75 0 x1.toNatClampNeg x3) 0) else none) else none) else (some (g, (-14)))) else (some (g, (-2))))))))
def fX11_isPlace (g : STt) (x1 : Int32) : Option Int32 :=
  bnd1 (fX11_in g x1 0 ((g.1 33 0) - 1)) fun r_2 => (if vp_nar .boolean r_2 = r_2 then (some r_2) else none)
def fX11_isUnder_j40 (g : STt) : Option Int32 :=
  some 1
def fX11_isUnder_j29 (g : STt) (l0 : Int32) (l1 : Int32) : Option Int32 :=
  if l1 = 3 then (if l0 = 6 then (fX11_isUnder_j40 g) else (some 0)) else (some 0)
def fX11_isUnder_j19 (g : STt) (l0 : Int32) (l1 : Int32) : Option Int32 :=
  if l1 = 2 then (if l0 = 5 then (fX11_isUnder_j40 g) else (fX11_isUnder_j29 g l0 l1)) else (fX11_isUnder_j29 g l0 l1)
def fX11_isUnder (g : STt) (x0 : Int32) (x1 : Int32) : Option Int32 :=
  if x1 = 0 then (fX11_isUnder_j40 g) else (if x0 = x1 then (fX11_isUnder_j40 g) else (if x1 = 1 then (if x0 = 4 then (fX11_isUnder_j40 g) else (fX11_isUnder_j19 g x0 x1)) else (fX11_isUnder_j19 g x0 x1)))
def fX11_taken (g : STt) (x1 : Int32) (x2 : Int32) : Option Int32 :=
  bnd1 (fX11_in g x2 0 6) fun r_2 => (if r_2 = 0 then (some (-2)) else (bnd1 (fX11_isPlace g x1) fun r_5 => (if r_5 = 0 then (some (-11)) else (if inB x1 10 = true then (bnd1 (fX11_isUnder g (g.2.1 54 0 x1.toNatClampNeg) x2) fun r_9 => (if r_9 = 0 then (some (-12)) else (if inB x1 10 = true then (some (g.2.1 54 0 x1.toNatClampNeg)) else none))) else none))))
def fX11_lowest_l23c (K23 : (Int64 × Int64) → Option Int64) (g : STt) (l0 : Int64) (l2 : Int64) (l4 : Int32) (l5 : Int64) (l7 : Int64) : Option Int64 :=
  if (lg_cmp l7 0) = 0 then (if l4 = 0 then (if ¬ l5 = 0 then (some (l2 / l5)) else none) else (if ¬ l5 = 0 then (some (l0 / l5)) else none)) else (if ¬ l7 = 0 then (K23 (l7, l5 - l5 / l7 * l7)) else none)
def fX11_lowest_l23 (g : STt) (l0 : Int64) (l2 : Int64) (l4 : Int32) (l5 : Int64) (l7 : Int64) : Option Int64 :=
  iterO (fun K z => fX11_lowest_l23c K g l0 l2 l4 z.1 z.2) fuelN (l5, l7)
def fX11_lowest (g : STt) (x0 : Int64) (x1 : Int64) (x2 : Int32) : Option Int64 :=
  if (lg_cmp x0 0) = 0 then (if x2 = 0 then (some 1) else (some 0)) else (fX11_lowest_l23 g x0 x1 x2 x0 x1)
def fX11_sure_j224 (g : STt) (s0 : Int32) (s1 : Int64) (s2 : Int64) : Option (STt × Int64) :=
  bnd1 (fX11_lowest g s2 s1 s0) fun r_2 => (some (g, r_2))
def fX11_sure_j202 (K62 : (STt × Int64 × Int32) → Option (STt × Int64)) (g : STt) (l1 : Int32) (l2 : Int32) (l3 : Int64) (l5 : Int64) (l7 : Int32) : Option (STt × Int64) :=
  bnd1 (fX11_layBack g) fun g_2 => (K62 (g_2, l3, l7 + 1))
def fX11_sure_j154 (K62 : (STt × Int64 × Int32) → Option (STt × Int64)) (K80 : (STt × Int64 × Int32) → Option (STt × Int64)) (g : STt) (l1 : Int32) (l2 : Int32) (l3 : Int64) (l5 : Int64) (l7 : Int32) (l10 : Int32) (s0 : Int64) (s1 : Int64) : Option (STt × Int64) :=
  if inB l10 12 = true then (bnd (fX11_does g (g.2.1 70 0 l10.toNatClampNeg)) fun g_3 r_4 => (K80 (g_3, s1 * s0, l10 + 1))) else none
def fX11_sure_j128 (K62 : (STt × Int64 × Int32) → Option (STt × Int64)) (K80 : (STt × Int64 × Int32) → Option (STt × Int64)) (g : STt) (l1 : Int32) (l2 : Int32) (l3 : Int64) (l5 : Int64) (l7 : Int32) (l8 : Int64) (l10 : Int32) (l11 : Int32) (s0 : Int32) : Option (STt × Int64) :=
  if l11 = 0 then (fX11_sure_j154 K62 K80 (sS g 41 0 s0) l1 l2 l3 l5 l7 l10 ((10 - ((sS g 41 0 s0).1 44 0)).toInt64) l8) else (fX11_sure_j154 K62 K80 (sS g 41 0 s0) l1 l2 l3 l5 l7 l10 (((sS g 41 0 s0).1 44 0).toInt64) l8)
def fX11_sure_j127 (K62 : (STt × Int64 × Int32) → Option (STt × Int64)) (K80 : (STt × Int64 × Int32) → Option (STt × Int64)) (g : STt) (l1 : Int32) (l2 : Int32) (l3 : Int64) (l5 : Int64) (l7 : Int32) (l8 : Int64) (l10 : Int32) (l11 : Int32) : Option (STt × Int64) :=
  fX11_sure_j128 K62 K80 g l1 l2 l3 l5 l7 l8 l10 l11 0
def fX11_sure_j102 (K62 : (STt × Int64 × Int32) → Option (STt × Int64)) (K80 : (STt × Int64 × Int32) → Option (STt × Int64)) (g : STt) (l1 : Int32) (l2 : Int32) (l3 : Int64) (l5 : Int64) (l7 : Int32) (l8 : Int64) (l10 : Int32) (s0 : Int32) : Option (STt × Int64) :=
  if s0 = 0 then (fX11_sure_j127 K62 K80 g l1 l2 l3 l5 l7 l8 l10 s0) else (if inB l10 12 = true then (if (g.2.1 70 0 l10.toNatClampNeg) = 6 then (fX11_sure_j127 K62 K80 g l1 l2 l3 l5 l7 l8 l10 s0) else (fX11_sure_j128 K62 K80 g l1 l2 l3 l5 l7 l8 l10 s0 10)) else none)
def fX11_sure_l80c (K62 : (STt × Int64 × Int32) → Option (STt × Int64)) (K80 : (STt × Int64 × Int32) → Option (STt × Int64)) (l1 : Int32) (l2 : Int32) (l3 : Int64) (l5 : Int64) (l7 : Int32) (g : STt) (l8 : Int64) (l10 : Int32) : Option (STt × Int64) :=
  if l1 ≤ l10 then (if inB 12 15 = true then (if inB 12 15 = true then (if ((sS g 41 0 0).2.1 57 0 (12 : Int32).toNatClampNeg) ≤ ((sS g 41 0 0).2.1 71 0 (12 : Int32).toNatClampNeg) then (fX11_sure_j202 K62 (sS g 41 0 0) l1 l2 l3 l5 l7) else (fX11_sure_j202 K62 (sS g 41 0 0) l1 l2 (l3 + l8) l5 l7)) else none) else none) else (if ((l7 >>> (l10 &&& 31)) &&& 1) = 1 then (fX11_sure_j102 K62 K80 g l1 l2 l3 l5 l7 l8 l10 1) else (fX11_sure_j102 K62 K80 g l1 l2 l3 l5 l7 l8 l10 0))
def fX11_sure_l80 (K62 : (STt × Int64 × Int32) → Option (STt × Int64)) (l1 : Int32) (l2 : Int32) (l3 : Int64) (l5 : Int64) (l7 : Int32) (g : STt) (l8 : Int64) (l10 : Int32) : Option (STt × Int64) :=
  iterO (fun K z => fX11_sure_l80c K62 K l1 l2 l3 l5 l7 z.1 z.2.1 z.2.2) fuelN (g, l8, l10)
def fX11_sure_l62c (K62 : (STt × Int64 × Int32) → Option (STt × Int64)) (l1 : Int32) (l2 : Int32) (l5 : Int64) (g : STt) (l3 : Int64) (l7 : Int32) : Option (STt × Int64) :=
  if (1 <<< (l1 &&& 31)) ≤ l7 then (if l2 = 0 then (fX11_sure_j224 g 1 l5 l3) else (fX11_sure_j224 g 0 l5 l3)) else (bnd1 (fX11_keepNow g) fun g_3 => (fX11_sure_l80 K62 l1 l2 l3 l5 l7 g_3 1 0))
def fX11_sure_l62 (l1 : Int32) (l2 : Int32) (l5 : Int64) (g : STt) (l3 : Int64) (l7 : Int32) : Option (STt × Int64) :=
  iterO (fun K z => fX11_sure_l62c K l1 l2 l5 z.1 z.2.1 z.2.2) fuelN (g, l3, l7)
def fX11_sure_l39c (K39 : (Int64 × Int32) → Option (STt × Int64)) (g : STt) (l1 : Int32) (l2 : Int32) (l3 : Int64) (l5 : Int64) (l7 : Int32) : Option (STt × Int64) :=
  if l1 ≤ l7 then (fX11_sure_l62 l1 l2 l5 g l3 0) else (K39 (l5 * 10, l7 + 1))
def fX11_sure_l39 (g : STt) (l1 : Int32) (l2 : Int32) (l3 : Int64) (l5 : Int64) (l7 : Int32) : Option (STt × Int64) :=
  iterO (fun K z => fX11_sure_l39c K g l1 l2 l3 z.1 z.2) fuelN (l5, l7)
def fX11_sure (g : STt) (x1 : Int32) (x2 : Int32) : Option (STt × Int64) :=
  bnd1 (fX11_in g x1 1 6) fun r_2 => (if r_2 = 0 then (some (g, (-9223372036854775808))) else (if (g.1 42 0) < x1 then (some (g, (-9223372036854775808))) else (bnd1 (fX11_in g x2 0 1) fun r_6 => (if r_6 = 0 then (some (g, (-9223372036854775808))) else (fX11_sure_l39 g x1 x2 0 1 0)))))
def fX11_string_j139 (g : STt) (s0 : Int32) : Option (STt × Int32) :=
  some (sS g 40 0 0, s0)
def fX11_string_j109 (g : STt) (l1 : Int32) (s0 : Int32) : Option (STt × Int32) :=
  if l1 = 1 then (some (g, s0)) else (bnd (fX11_wouldBy (sS g 40 0 s0) 1) fun g_3 r_4 => (if r_4 = 1 then (fX11_string_j139 g_3 1) else (fX11_string_j139 g_3 0)))
def fX11_string_j60 (K35 : (Int32 × Int32) → Option (STt × Int32)) (g : STt) (l1 : Int32) (l2 : Int32) (l3 : Int32) : Option (STt × Int32) :=
  K35 (l2, l3 + 1)
def fX11_string_l35c (K35 : (Int32 × Int32) → Option (STt × Int32)) (g : STt) (l1 : Int32) (l2 : Int32) (l3 : Int32) : Option (STt × Int32) :=
  if (g.1 45 0) ≤ l3 then (if l1 = 0 then (some (g, l2)) else (if inB 12 15 = true then (if inB (g.2.1 57 0 (12 : Int32).toNatClampNeg) 10 = true then (if inB (g.2.1 56 0 (g.2.1 57 0 (12 : Int32).toNatClampNeg).toNatClampNeg) 15 = true then (if inB l2 4 = true then (if 0 ≤ ((g.2.1 57 0 (g.2.1 56 0 (g.2.1 57 0 (12 : Int32).toNatClampNeg).toNatClampNeg).toNatClampNeg) - (g.2.1 72 0 l2.toNatClampNeg)) then (fX11_string_j109 g l1 (((g.2.1 57 0 (g.2.1 56 0 (g.2.1 57 0 (12 : Int32).toNatClampNeg).toNatClampNeg).toNatClampNeg) - (g.2.1 72 0 l2.toNatClampNeg)) / 10)) else (fX11_string_j109 g l1 0)) else none) else none) else none) else none)) else (if inB l3 4 = true then (if inB l2 4 = true then (if (g.2.1 72 0 l2.toNatClampNeg) ≤ (g.2.1 72 0 l3.toNatClampNeg) then (fX11_string_j60 K35 g l1 l2 l3) else (fX11_string_j60 K35 g l1 l3 l3)) else none) else none)
def fX11_string_l35 (g : STt) (l1 : Int32) (l2 : Int32) (l3 : Int32) : Option (STt × Int32) :=
  iterO (fun K z => fX11_string_l35c K g l1 z.1 z.2) fuelN (l2, l3)
def fX11_string (g : STt) (x1 : Int32) : Option (STt × Int32) :=
  bnd1 (fX11_in g x1 0 2) fun r_2 => (if r_2 = 0 then (some (g, (-1))) else (bnd1 (fX11_isOver g) fun r_5 => (if r_5 = 0 then (if (g.1 45 0) = 0 then (some (g, (-5))) else (fX11_string_l35 g x1 0 1)) else (some (g, (-3))))))
def fX11_actOf_l7c (K7 : (Int32 × Int32) → Option Int32) (g : STt) (l1 : Int32) (l3 : Int32) (l4 : Int32) : Option Int32 :=
  if l4 ≤ l1 then (if (l3 - l3 / 7 * 7) = 6 then (some 7) else (some (l3 - l3 / 7 * 7))) else (K7 (l3 / 7, l4 + (-1)))
def fX11_actOf_l7 (g : STt) (l1 : Int32) (l3 : Int32) (l4 : Int32) : Option Int32 :=
  iterO (fun K z => fX11_actOf_l7c K g l1 z.1 z.2) fuelN (l3, l4)
def fX11_actOf (g : STt) (x0 : Int32) (x1 : Int32) (x2 : Int32) : Option Int32 :=
  fX11_actOf_l7 g x1 x0 (x2 - 1)
def fX11_learnt_l10c (K10 : (Int32 × Int32) → Option Int32) (g : STt) (l1 : Int32) (l2 : Int32) : Option Int32 :=
  if 6 ≤ l2 then (some l1) else (if inB l2 15 = true then (K10 (l1 + (g.2.1 57 0 l2.toNatClampNeg), l2 + 1)) else none)
def fX11_learnt_l10 (g : STt) (l1 : Int32) (l2 : Int32) : Option Int32 :=
  iterO (fun K z => fX11_learnt_l10c K g z.1 z.2) fuelN (l1, l2)
def fX11_learnt (g : STt) : Option Int32 :=
  if inB 6 15 = true then (fX11_learnt_l10 g (g.2.1 57 0 (6 : Int32).toNatClampNeg) 0) else none
def fX11_atBehind_l6c (K6 : (STt × Int32) → Option (STt × Int32)) (l1 : Int32) (l2 : Int32) (g : STt) (l3 : Int32) : Option (STt × Int32) :=
  if l2 ≤ l3 then (if inB 12 15 = true then (bnd1 (fX11_learnt g) fun r_4 => (bnd1 (fX11_layBack (sS g 43 0 r_4)) fun g_6 => (some (g_6, g.2.1 57 0 (12 : Int32).toNatClampNeg)))) else none) else (bnd1 (fX11_actOf g l1 l3 l2) fun r_3 => (bnd (fX11_does g r_3) fun g_5 r_6 => (K6 (g_5, l3 + 1))))
def fX11_atBehind_l6 (l1 : Int32) (l2 : Int32) (g : STt) (l3 : Int32) : Option (STt × Int32) :=
  iterO (fun K z => fX11_atBehind_l6c K l1 l2 z.1 z.2) fuelN (g, l3)
def fX11_atBehind (g : STt) (x1 : Int32) (x2 : Int32) : Option (STt × Int32) :=
  bnd1 (fX11_keepNow g) fun g_2 => (fX11_atBehind_l6 x1 x2 g_2 0)
def fX11_rowsOf_l4c (K4 : (Int32 × Int32) → Option Int32) (g : STt) (l0 : Int32) (l1 : Int32) (l2 : Int32) : Option Int32 :=
  if l0 ≤ l2 then (some l1) else (K4 (l1 * 7, l2 + 1))
def fX11_rowsOf_l4 (g : STt) (l0 : Int32) (l1 : Int32) (l2 : Int32) : Option Int32 :=
  iterO (fun K z => fX11_rowsOf_l4c K g l0 z.1 z.2) fuelN (l1, l2)
def fX11_rowsOf (g : STt) (x0 : Int32) : Option Int32 :=
  fX11_rowsOf_l4 g x0 1 0
def fX11_soonest_l43c (K35 : (STt × Int32) → Option (STt × Int32)) (K43 : (STt × Int32) → Option (STt × Int32)) (l1 : Int32) (l2 : Int32) (l3 : Int32) (g : STt) (l4 : Int32) : Option (STt × Int32) :=
  bnd1 (fX11_rowsOf g l3) fun r_2 => (if r_2 ≤ l4 then (K35 (g, l3 + 1)) else (bnd (fX11_atBehind g l4 l3) fun g_5 r_6 => (if inB 12 15 = true then (if r_6 = ((g_5.2.1 57 0 (12 : Int32).toNatClampNeg) + 1) then (if 0 ≤ l2 then (if l3 ≤ l2 then (some (g_5, (-5))) else (bnd1 (fX11_actOf g_5 l4 l2 l3) fun r_12 => (some (g_5, r_12)))) else (some (g_5, l3))) else (K43 (g_5, l4 + 1))) else none)))
def fX11_soonest_l43 (K35 : (STt × Int32) → Option (STt × Int32)) (l1 : Int32) (l2 : Int32) (l3 : Int32) (g : STt) (l4 : Int32) : Option (STt × Int32) :=
  iterO (fun K z => fX11_soonest_l43c K35 K l1 l2 l3 z.1 z.2) fuelN (g, l4)
def fX11_soonest_l35c (K35 : (STt × Int32) → Option (STt × Int32)) (l1 : Int32) (l2 : Int32) (g : STt) (l3 : Int32) : Option (STt × Int32) :=
  if l1 < l3 then (some (g, (-5))) else (fX11_soonest_l43 K35 l1 l2 l3 g 0)
def fX11_soonest_l35 (l1 : Int32) (l2 : Int32) (g : STt) (l3 : Int32) : Option (STt × Int32) :=
  iterO (fun K z => fX11_soonest_l35c K l1 l2 z.1 z.2) fuelN (g, l3)
def fX11_soonest (g : STt) (x1 : Int32) (x2 : Int32) : Option (STt × Int32) :=
  bnd1 (fX11_in g x2 (-1) 3) fun r_2 => (if r_2 = 0 then (some (g, (-1))) else (bnd1 (fX11_in g x1 0 4) fun r_5 => (if r_5 = 0 then (some (g, (-2))) else (bnd1 (fX11_isOver g) fun r_8 => (if r_8 = 0 then (fX11_soonest_l35 x1 x2 g 1) else (some (g, (-3))))))))
def fX11_shiftLoad_j144 (K38 : (STt × Int32 × Int32 × Int32) → Option (STt × Int32)) (K48 : (STt × Int32 × Int32 × Int32) → Option (STt × Int32)) (g : STt) (l1 : Int32) (l2 : Int32) (l3 : Int32) (l4 : Int32) (l5 : Int32) (l6 : Int32) : Option (STt × Int32) :=
  K48 (g, l1, l2, l6 + (-2))
def fX11_shiftLoad_l48c (K38 : (STt × Int32 × Int32 × Int32) → Option (STt × Int32)) (K48 : (STt × Int32 × Int32 × Int32) → Option (STt × Int32)) (l3 : Int32) (l4 : Int32) (l5 : Int32) (g : STt) (l1 : Int32) (l2 : Int32) (l6 : Int32) : Option (STt × Int32) :=
  if l6 < (-1) then (K38 (g, l1, l2, l5 + 1)) else (bnd1 (fX11_in g (l3 - (l6 * l5)) 0 99) fun r_3 => (if r_3 = 0 then (fX11_shiftLoad_j144 K38 K48 g l1 l2 l3 l4 l5 l6) else (bnd1 (fX11_in g (l4 + (l6 * l5)) 0 99) fun r_6 => (if r_6 = 0 then (fX11_shiftLoad_j144 K38 K48 g l1 l2 l3 l4 l5 l6) else (if inB 10 15 = true then (if inB 11 15 = true then (bnd (fX11_sumOf (sA1 (sA1 g 57 0 (10 : Int32).toNatClampNeg (l3 - (l6 * l5))) 57 0 (11 : Int32).toNatClampNeg (l4 + (l6 * l5))) 2) fun g_11 r_12 => (if r_12 < l2 then (fX11_shiftLoad_j144 K38 K48 g_11 (l6 * l5) r_12 l3 l4 l5 l6) else (fX11_shiftLoad_j144 K38 K48 g_11 l1 l2 l3 l4 l5 l6))) else none) else none)))))
def fX11_shiftLoad_l48 (K38 : (STt × Int32 × Int32 × Int32) → Option (STt × Int32)) (l3 : Int32) (l4 : Int32) (l5 : Int32) (g : STt) (l1 : Int32) (l2 : Int32) (l6 : Int32) : Option (STt × Int32) :=
  iterO (fun K z => fX11_shiftLoad_l48c K38 K l3 l4 l5 z.1 z.2.1 z.2.2.1 z.2.2.2) fuelN (g, l1, l2, l6)
def fX11_shiftLoad_l38c (K38 : (STt × Int32 × Int32 × Int32) → Option (STt × Int32)) (l3 : Int32) (l4 : Int32) (g : STt) (l1 : Int32) (l2 : Int32) (l5 : Int32) : Option (STt × Int32) :=
  if 99 < l5 then (if inB 10 15 = true then (if inB 11 15 = true then (some (sA1 (sA1 g 57 0 (10 : Int32).toNatClampNeg l3) 57 0 (11 : Int32).toNatClampNeg l4, l1)) else none) else none) else (fX11_shiftLoad_l48 K38 l3 l4 l5 g l1 l2 1)
def fX11_shiftLoad_l38 (l3 : Int32) (l4 : Int32) (g : STt) (l1 : Int32) (l2 : Int32) (l5 : Int32) : Option (STt × Int32) :=
  iterO (fun K z => fX11_shiftLoad_l38c K l3 l4 z.1 z.2.1 z.2.2.1 z.2.2.2) fuelN (g, l1, l2, l5)
def fX11_shiftLoad (g : STt) : Option (STt × Int32) :=
  bnd1 (fX11_isOver g) fun r_2 => (if r_2 = 0 then (bnd (fX11_sumOf g 2) fun g_5 r_6 => (if inB 10 15 = true then (if inB 11 15 = true then (fX11_shiftLoad_l38 (g_5.2.1 57 0 (10 : Int32).toNatClampNeg) (g_5.2.1 57 0 (11 : Int32).toNatClampNeg) g_5 0 r_6 1) else none) else none)) else (some (g, (-100003))))
def fX11_shift_l147c (K147 : (STt × Int32) → Option (STt × Int32)) (l3 : Int32) (l4 : Int32) (l5 : Int32) (g : STt) (l6 : Int32) : Option (STt × Int32) :=
  if l5 ≤ l6 then (some (g, l5)) else (if inB l6 60 = true then (if inB (((60 * l3) + l4) + l6) 360 = true then (K147 ((sL1 g 76 0 (((60 * l3) + l4) + l6).toNatClampNeg (g.2.2.1 77 0 l6.toNatClampNeg)), l6 + 1)) else none) else none)
def fX11_shift_l147 (l3 : Int32) (l4 : Int32) (l5 : Int32) (g : STt) (l6 : Int32) : Option (STt × Int32) :=
  iterO (fun K z => fX11_shift_l147c K l3 l4 l5 z.1 z.2) fuelN (g, l6)
def fX11_shift_l110c (K110 : (STt × Int32) → Option (STt × Int32)) (l1 : Int32) (l2 : Int32) (l3 : Int32) (l4 : Int32) (l5 : Int32) (g : STt) (l6 : Int32) : Option (STt × Int32) :=
  if l5 ≤ l6 then (fX11_shift_l147 l3 l4 l5 g 0) else (if inB (((60 * l1) + l2) + l6) 360 = true then (if inB l6 60 = true then (K110 ((sL1 g 77 0 l6.toNatClampNeg (g.2.2.1 76 0 (((60 * l1) + l2) + l6).toNatClampNeg)), l6 + 1)) else none) else none)
def fX11_shift_l110 (l1 : Int32) (l2 : Int32) (l3 : Int32) (l4 : Int32) (l5 : Int32) (g : STt) (l6 : Int32) : Option (STt × Int32) :=
  iterO (fun K z => fX11_shift_l110c K l1 l2 l3 l4 l5 z.1 z.2) fuelN (g, l6)
def fX11_shift (g : STt) (x1 : Int32) (x2 : Int32) (x3 : Int32) (x4 : Int32) (x5 : Int32) : Option (STt × Int32) :=
  bnd1 (fX11_isTape g x1) fun r_2 => (if r_2 = 0 then (some (g, (-1))) else (bnd1 (fX11_isTape g x3) fun r_5 => (if r_5 = 0 then (some (g, (-1))) else (if inB x1 6 = true then (if (g.2.1 74 0 x1.toNatClampNeg) < 0 then (some (g, (-11))) else (if inB x3 6 = true then (if 0 ≤ (g.2.1 74 0 x3.toNatClampNeg) then (if inB x1 6 = true then (if inB x3 6 = true then (if (g.2.1 74 0 x1.toNatClampNeg) = (g.2.1 74 0 x3.toNatClampNeg) then (if x5 < 0 then (some (g, (-13))) else (if x2 < 0 then (some (g, (-13))) else (if x4 < 0 then (some (g, (-13))) else (if inB x1 6 = true then (if 0 < (lg_cmp (x2.toInt64 + x5.toInt64) ((g.2.1 75 0 x1.toNatClampNeg).toInt64)) then (some (g, (-13))) else (if inB x3 6 = true then (if (lg_cmp (x4.toInt64 + x5.toInt64) ((g.2.1 75 0 x3.toNatClampNeg).toInt64)) ≤ 0 then (fX11_shift_l110 x1 x2 x3 x4 x5 g 0) else (some (g, (-13)))) else none)) else none)))) else (some (g, (-12)))) else none) else none) else (some (g, (-11)))) else none)) else none))))
def fX11_set (g : STt) (x1 : Int32) (x2 : Int32) : Option (STt × Int32) :=
  bnd1 (fX11_in g x1 0 13) fun r_2 => (if r_2 = 0 then (some (g, (-1))) else (bnd1 (fX11_mostOf g x1) fun r_5 => (bnd1 (fX11_in g x2 0 r_5) fun r_7 => (if r_7 = 0 then (some (g, (-2))) else (if inB x1 15 = true then (if inB x1 15 = true then (some (sA1 g 57 0 x1.toNatClampNeg x2, g.2.1 57 0 x1.toNatClampNeg)) else none) else none)))))
def fX11_row (g : STt) (x1 : Int32) : Option (STt × Int32) :=
  if x1 = (-1) then (some (sS g 42 0 0, 0)) else (bnd1 (fX11_isAct g x1) fun r_3 => (if r_3 = 0 then (some (g, (-1))) else (if (g.1 42 0) = 12 then (some (g, (-4))) else (if inB (g.1 42 0) 12 = true then (some (sS (sA1 g 70 0 (g.1 42 0).toNatClampNeg x1) 42 0 (((sA1 g 70 0 (g.1 42 0).toNatClampNeg x1).1 42 0) + 1), (sS (sA1 g 70 0 (g.1 42 0).toNatClampNeg x1) 42 0 (((sA1 g 70 0 (g.1 42 0).toNatClampNeg x1).1 42 0) + 1)).1 42 0)) else none))))
def fX11_round_j27 (g : STt) : Option (STt × Int32) :=
  some (g, 1)
def fX11_round (g : STt) : Option (STt × Int32) :=
  bnd1 (fX11_isOver g) fun r_2 => (if r_2 = 0 then (bnd (fX11_waitsFor g) fun g_5 r_6 => (if r_6 < 0 then (fX11_round_j27 g_5) else (bnd1 (fX11_fordHalves g_5) fun r_9 => (if r_6 ≤ r_9 then (some (g_5, 0)) else (fX11_round_j27 g_5))))) else (some (g, (-3))))
def fX11_read (g : STt) (x1 : Int32) (x2 : Int32) : Option Int64 :=
  bnd1 (fX11_isTape g x1) fun r_2 => (if r_2 = 0 then (some (-9223372036854775808)) else (if inB x1 6 = true then (if (g.2.1 74 0 x1.toNatClampNeg) < 0 then (some (-9223372036854775808)) else (if inB x1 6 = true then (bnd1 (fX11_in g x2 0 ((g.2.1 75 0 x1.toNatClampNeg) - 1)) fun r_8 => (if r_8 = 0 then (some (-9223372036854775808)) else (if inB ((60 * x1) + x2) 360 = true then (some (g.2.2.1 76 0 ((60 * x1) + x2).toNatClampNeg)) else none))) else none)) else none))
def fX11_place (g : STt) (x1 : Int32) (x2 : Int32) (x3 : Int32) : Option (STt × Int32) :=
  bnd1 (fX11_in g x1 0 6) fun r_2 => (if r_2 = 0 then (some (g, (-1))) else (bnd1 (fX11_in g x3 0 5) fun r_5 => (if r_5 = 0 then (some (g, (-1))) else (bnd1 (fX11_in g x2 0 9) fun r_8 => (if r_8 = 0 then (some (g, (-2))) else (if (g.1 33 0) = 10 then (some (g, (-4))) else (if inB (g.1 33 0) 10 = true then (if inB ((sA1 g 54 0 (g.1 33 0).toNatClampNeg x1).1 33 0) 10 = true then (if inB ((sA1 (sA1 g 54 0 (g.1 33 0).toNatClampNeg x1) 55 0 ((sA1 g 54 0 (g.1 33 0).toNatClampNeg x1).1 33 0).toNatClampNeg x2).1 33 0) 10 = true then (some (sS (sA1 (sA1 (sA1 g 54 0 (g.1 33 0).toNatClampNeg x1) 55 0 ((sA1 g 54 0 (g.1 33 0).toNatClampNeg x1).1 33 0).toNatClampNeg x2) 56 0 ((sA1 (sA1 g 54 0 (g.1 33 0).toNatClampNeg x1) 55 0 ((sA1 g 54 0 (g.1 33 0).toNatClampNeg x1).1 33 0).toNatClampNeg x2).1 33 0).toNatClampNeg x3) 33 0 (((sA1 (sA1 (sA1 g 54 0 (g.1 33 0).toNatClampNeg x1) 55 0 ((sA1 g 54 0 (g.1 33 0).toNatClampNeg x1).1 33 0).toNatClampNeg x2) 56 0 ((sA1 (sA1 g 54 0 (g.1 33 0).toNatClampNeg x1) 55 0 ((sA1 g 54 0 (g.1 33 0).toNatClampNeg x1).1 33 0).toNatClampNeg x2).1 33 0).toNatClampNeg x3).1 33 0) + 1), ((sS (sA1 (sA1 (sA1 g 54 0 (g.1 33 0).toNatClampNeg x1) 55 0 ((sA1 g 54 0 (g.1 33 0).toNatClampNeg x1).1 33 0).toNatClampNeg x2) 56 0 ((sA1 (sA1 g 54 0 (g.1 33 0).toNatClampNeg x1) 55 0 ((sA1 g 54 0 (g.1 33 0).toNatClampNeg x1).1 33 0).toNatClampNeg x2).1 33 0).toNatClampNeg x3) 33 0 (((sA1 (sA1 (sA1 g 54 0 (g.1 33 0).toNatClampNeg x1) 55 0 ((sA1 g 54 0 (g.1 33 0).toNatClampNeg x1).1 33 0).toNatClampNeg x2) 56 0 ((sA1 (sA1 g 54 0 (g.1 33 0).toNatClampNeg x1) 55 0 ((sA1 g 54 0 (g.1 33 0).toNatClampNeg x1).1 33 0).toNatClampNeg x2).1 33 0).toNatClampNeg x3).1 33 0) + 1)).1 33 0) - 1)) else none) else none) else none)))))))
def fX11_ran_j19 (g : STt) : Option STt :=
  some (sS g 53 0 ((g.1 53 0) + 1))
def fX11_ran (g : STt) (x1 : Int32) : Option STt :=
  if 20 ≤ (g.1 53 0) then (fX11_ran_j19 g) else (if inB (g.1 53 0) 20 = true then (fX11_ran_j19 (sA1 g 82 0 (g.1 53 0).toNatClampNeg x1)) else none)
def fX11_plainHolds (g : STt) (x1 : Int32) (x2 : Int32) : Option (STt × Int32) :=
  bnd1 (fX11_ran g 10) fun g_2 => (some (g_2, x2 + x1))
def fX11_holding_j104 (g : STt) (l1 : Int32) (l2 : Int32) : Option (STt × Int32) :=
  bnd (fX11_plainHolds g l1 l2) fun g_2 r_3 => (some (g_2, r_3))
def fX11_holding (g : STt) (x1 : Int32) (x2 : Int32) : Option (STt × Int32) :=
  if inB x1 10 = true then (if (g.2.1 54 0 x1.toNatClampNeg) = 2 then (bnd1 (fX11_ran g 30) fun g_4 => (bnd (fX11_plainHolds g_4 x1 (x2 * 3)) fun g_6 r_7 => (some (g_6, r_7)))) else (if (g.2.1 54 0 x1.toNatClampNeg) = 3 then (fX11_holding_j104 g x1 x2) else (if (g.2.1 54 0 x1.toNatClampNeg) = 4 then (bnd1 (fX11_ran g 50) fun g_6 => (bnd (fX11_plainHolds g_6 x1 x2) fun g_8 r_9 => (some (g_8, -r_9)))) else (if (g.2.1 54 0 x1.toNatClampNeg) = 5 then (bnd1 (fX11_ran g 30) fun g_7 => (bnd (fX11_plainHolds g_7 x1 (x2 * 3)) fun g_9 r_10 => (some (g_9, r_10)))) else (if (g.2.1 54 0 x1.toNatClampNeg) = 6 then (bnd1 (fX11_ran g 71) fun g_8 => (bnd (fX11_plainHolds g_8 x1 x2) fun g_10 r_11 => (if inB x1 10 = true then (some (g_10, r_11 ^^^ (g_10.2.1 55 0 x1.toNatClampNeg))) else none))) else (fX11_holding_j104 g x1 x2)))))) else none
def fX11_plainChooses (g : STt) (x1 : Int32) (x2 : Int32) : Option (STt × Int32) :=
  bnd1 (fX11_ran g 11) fun g_2 => (bnd (fX11_holding g_2 x1 x2) fun g_4 r_5 => (if inB x1 10 = true then (some (g_4, r_5 - (g_4.2.1 55 0 x1.toNatClampNeg))) else none))
def fX11_calledChooses (g : STt) (x1 : Int32) (x2 : Int32) : Option (STt × Int32) :=
  bnd1 (fX11_ran g 70) fun g_2 => (bnd (fX11_plainChooses g_2 x1 x2) fun g_4 r_5 => (bnd (fX11_plainHolds g_4 x1 2) fun g_7 r_8 => (some (g_7, r_5 + r_8))))
def fX11_fearedChooses (g : STt) (x1 : Int32) (x2 : Int32) : Option (STt × Int32) :=
  bnd1 (fX11_ran g 20) fun g_2 => (bnd (fX11_plainChooses g_2 x1 x2) fun g_4 r_5 => (some (g_4, r_5 ^^^ 6)))
def fX11_chooses (g : STt) (x1 : Int32) (x2 : Int32) : Option (STt × Int32) :=
  if inB x1 10 = true then (if (g.2.1 54 0 x1.toNatClampNeg) = 1 then (bnd (fX11_fearedChooses g x1 x2) fun g_4 r_5 => (some (g_4, r_5))) else (if (g.2.1 54 0 x1.toNatClampNeg) = 4 then (bnd1 (fX11_ran g 51) fun g_5 => (bnd (fX11_fearedChooses g_5 x1 (x2 + 1)) fun g_7 r_8 => (some (g_7, r_8)))) else (if (g.2.1 54 0 x1.toNatClampNeg) = 6 then (bnd (fX11_calledChooses g x1 x2) fun g_6 r_7 => (some (g_6, r_7))) else (bnd (fX11_plainChooses g x1 x2) fun g_6 r_7 => (some (g_6, r_7)))))) else none
def fX11_plainTells (g : STt) (x1 : Int32) (x2 : Int32) : Option (STt × Int32) :=
  bnd1 (fX11_ran g 12) fun g_2 => (bnd (fX11_chooses g_2 x1 x2) fun g_4 r_5 => (some (g_4, r_5 * 2)))
def fX11_spoiltTells (g : STt) (x1 : Int32) (x2 : Int32) : Option (STt × Int32) :=
  bnd1 (fX11_ran g 40) fun g_2 => (bnd (fX11_plainTells g_2 x1 x2) fun g_4 r_5 => (bnd (fX11_chooses g_4 x1 1) fun g_7 r_8 => (some (g_7, r_5 + r_8))))
def fX11_telling_j65 (g : STt) (l1 : Int32) (l2 : Int32) : Option (STt × Int32) :=
  bnd (fX11_plainTells g l1 l2) fun g_2 r_3 => (some (g_2, r_3))
def fX11_telling (g : STt) (x1 : Int32) (x2 : Int32) : Option (STt × Int32) :=
  if inB x1 10 = true then (if (g.2.1 54 0 x1.toNatClampNeg) = 3 then (bnd (fX11_spoiltTells g x1 x2) fun g_4 r_5 => (some (g_4, r_5))) else (if (g.2.1 54 0 x1.toNatClampNeg) = 4 then (fX11_telling_j65 g x1 x2) else (if (g.2.1 54 0 x1.toNatClampNeg) = 5 then (bnd1 (fX11_ran g 60) fun g_6 => (bnd (fX11_plainTells g_6 x1 (x2 - x1)) fun g_8 r_9 => (some (g_8, r_9)))) else (if (g.2.1 54 0 x1.toNatClampNeg) = 6 then (bnd (fX11_spoiltTells g x1 x2) fun g_7 r_8 => (some (g_7, r_8))) else (fX11_telling_j65 g x1 x2))))) else none
def fX11_part (g : STt) (x1 : Int32) (x2 : Int32) (x3 : Int32) : Option (STt × Int32) :=
  bnd1 (fX11_isPlace (sS g 53 0 0) x1) fun r_2 => (if r_2 = 0 then (some (sS g 53 0 0, 0)) else (bnd1 (fX11_in (sS g 53 0 0) x2 0 2) fun r_5 => (if r_5 = 0 then (some (sS g 53 0 0, 0)) else (if x2 = 0 then (bnd (fX11_holding (sS g 53 0 0) x1 x3) fun g_9 r_10 => (some (g_9, r_10))) else (if x2 = 1 then (bnd (fX11_chooses (sS g 53 0 0) x1 x3) fun g_10 r_11 => (some (g_10, r_11))) else (bnd (fX11_telling (sS g 53 0 0) x1 x3) fun g_10 r_11 => (some (g_10, r_11))))))))
def fX11_off_j56 (g : STt) (l1 : Int32) : Option (STt × Int32) :=
  bnd1 (fX11_layBack g) fun g_2 => (some (g_2, l1))
def fX11_off_j50 (K9 : (STt × Int32 × Int32) → Option (STt × Int32)) (g : STt) (l1 : Int32) (l2 : Int32) : Option (STt × Int32) :=
  K9 (g, l1, l2 + 1)
def fX11_off_l9c (K9 : (STt × Int32 × Int32) → Option (STt × Int32)) (g : STt) (l1 : Int32) (l2 : Int32) : Option (STt × Int32) :=
  if (g.1 42 0) ≤ l2 then (fX11_off_j56 g l1) else (if (g.1 46 0) ≤ l2 then (fX11_off_j56 g l1) else (if 0 ≤ l1 then (fX11_off_j56 g l1) else (if inB l2 12 = true then (bnd (fX11_does g (g.2.1 70 0 l2.toNatClampNeg)) fun g_6 r_7 => (if inB l2 12 = true then (if r_7 = (g_6.2.1 73 0 l2.toNatClampNeg) then (fX11_off_j50 K9 g_6 l1 l2) else (fX11_off_j50 K9 g_6 l2 l2)) else none)) else none)))
def fX11_off_l9 (g : STt) (l1 : Int32) (l2 : Int32) : Option (STt × Int32) :=
  iterO (fun K z => fX11_off_l9c K z.1 z.2.1 z.2.2) fuelN (g, l1, l2)
def fX11_off (g : STt) : Option (STt × Int32) :=
  bnd1 (fX11_keepNow g) fun g_2 => (fX11_off_l9 g_2 (-5) 0)
def fX11_of (g : STt) (x1 : Int32) (x2 : Int32) : Option Int32 :=
  bnd1 (fX11_isPlace g x1) fun r_2 => (if r_2 = 0 then (some (-1)) else (if x2 = 0 then (if inB x1 10 = true then (some (g.2.1 54 0 x1.toNatClampNeg)) else none) else (if x2 = 1 then (if inB x1 10 = true then (some (g.2.1 55 0 x1.toNatClampNeg)) else none) else (if x2 = 2 then (if inB x1 10 = true then (some (g.2.1 56 0 x1.toNatClampNeg)) else none) else (some (-1))))))
def fX11_nowOf (g : STt) (x1 : Int32) : Option Int32 :=
  if x1 = 15 then (bnd1 (fX11_learnt g) fun r_3 => (some r_3)) else (if inB x1 15 = true then (some (g.2.1 57 0 x1.toNatClampNeg)) else none)
def fX11_now (g : STt) (x1 : Int32) : Option Int32 :=
  bnd1 (fX11_in g x1 0 15) fun r_2 => (if r_2 = 0 then (some (-1)) else (bnd1 (fX11_nowOf g x1) fun r_5 => (some r_5)))
def fX11_isHere (g : STt) (x1 : Int32) : Option Int32 :=
  if 0 ≤ (g.1 38 0) then (some 0) else (if (g.1 34 0) ≤ (g.1 37 0) then (some 0) else (if inB (g.1 37 0) 100 = true then (if (g.2.1 58 0 (g.1 37 0).toNatClampNeg) = x1 then (some 1) else (some 0)) else none))
def fX11_lay (g : STt) (x1 : Int32) : Option STt :=
  if inB ((100 * (g.1 35 0)) + (g.1 39 0)) 700 = true then (some (sS (sA1 g 64 0 ((100 * (g.1 35 0)) + (g.1 39 0)).toNatClampNeg x1) 39 0 (((sA1 g 64 0 ((100 * (g.1 35 0)) + (g.1 39 0)).toNatClampNeg x1).1 39 0) + 1))) else none
def fX11_faulty (g : STt) : Option STt :=
  if 0 ≤ (g.1 38 0) then (some g) else (some (sS g 38 0 (g.1 37 0)))
def fX11_isLetter_j84 (g : STt) : Option Int32 :=
  some 1
def fX11_isLetter (g : STt) : Option Int32 :=
  if 0 ≤ (g.1 38 0) then (some 0) else (if (g.1 37 0) < (g.1 34 0) then (if inB (g.1 37 0) 100 = true then (if (g.2.1 58 0 (g.1 37 0).toNatClampNeg) = 102 then (fX11_isLetter_j84 g) else (if (g.2.1 58 0 (g.1 37 0).toNatClampNeg) = 104 then (fX11_isLetter_j84 g) else (if (g.2.1 58 0 (g.1 37 0).toNatClampNeg) = 112 then (fX11_isLetter_j84 g) else (if (g.2.1 58 0 (g.1 37 0).toNatClampNeg) = 119 then (fX11_isLetter_j84 g) else (if (g.2.1 58 0 (g.1 37 0).toNatClampNeg) = 108 then (fX11_isLetter_j84 g) else (if (g.2.1 58 0 (g.1 37 0).toNatClampNeg) = 115 then (fX11_isLetter_j84 g) else (if (g.2.1 58 0 (g.1 37 0).toNatClampNeg) = 97 then (fX11_isLetter_j84 g) else (if (g.2.1 58 0 (g.1 37 0).toNatClampNeg) = 107 then (fX11_isLetter_j84 g) else (if (g.2.1 58 0 (g.1 37 0).toNatClampNeg) = 116 then (fX11_isLetter_j84 g) else (some 0)))))))))) else none) else (some 0))
def fX11_isDigit (g : STt) : Option Int32 :=
  if 0 ≤ (g.1 38 0) then (some 0) else (if (g.1 34 0) ≤ (g.1 37 0) then (some 0) else (if inB (g.1 37 0) 100 = true then (bnd1 (fX11_in g (g.2.1 58 0 (g.1 37 0).toNatClampNeg) 48 57) fun r_5 => (if r_5 = 0 then (some 0) else (some 1))) else none))
def fX11_readNumber (g : STt) : Option (STt × Int32) :=
  bnd1 (fX11_isDigit g) fun r_2 => (if r_2 = 0 then (bnd1 (fX11_faulty g) fun g_5 => (some (g_5, 0))) else (if inB (g.1 37 0) 100 = true then (bnd1 (fX11_isDigit (sS g 37 0 ((g.1 37 0) + 1))) fun r_6 => (if r_6 = 0 then (some (sS g 37 0 ((g.1 37 0) + 1), (g.2.1 58 0 (g.1 37 0).toNatClampNeg) - 48)) else (if inB ((sS g 37 0 ((g.1 37 0) + 1)).1 37 0) 100 = true then (some (sS (sS g 37 0 ((g.1 37 0) + 1)) 37 0 (((sS g 37 0 ((g.1 37 0) + 1)).1 37 0) + 1), ((10 * ((g.2.1 58 0 (g.1 37 0).toNatClampNeg) - 48)) + ((sS g 37 0 ((g.1 37 0) + 1)).2.1 58 0 ((sS g 37 0 ((g.1 37 0) + 1)).1 37 0).toNatClampNeg)) - 48)) else none))) else none))
def fX11_takes (g : STt) (x1 : Int32) : Option STt :=
  bnd1 (fX11_isHere g x1) fun r_2 => (if r_2 = 0 then (bnd1 (fX11_faulty g) fun g_5 => (some g_5)) else (some (sS g 37 0 ((g.1 37 0) + 1))))
def FX11_both (qX11_both : STt → Int32 → Option STt) (qX11_either : STt → Int32 → Option STt) (qX11_one : STt → Int32 → Option STt) (g : STt) (x1 : Int32) : Option STt :=
  bnd1 (qX11_one g x1) fun g_2 => (bnd1 (fX11_isHere g_2 38) fun r_4 => (if r_4 = 0 then (some g_2) else (bnd1 (qX11_both (sS g_2 37 0 ((g_2.1 37 0) + 1)) x1) fun g_7 => (bnd1 (fX11_lay g_7 2) fun g_9 => (some g_9)))))
def FX11_either (qX11_both : STt → Int32 → Option STt) (qX11_either : STt → Int32 → Option STt) (qX11_one : STt → Int32 → Option STt) (g : STt) (x1 : Int32) : Option STt :=
  bnd1 (qX11_both g x1) fun g_2 => (bnd1 (fX11_isHere g_2 124) fun r_4 => (if r_4 = 0 then (some g_2) else (bnd1 (qX11_either (sS g_2 37 0 ((g_2.1 37 0) + 1)) x1) fun g_7 => (bnd1 (fX11_lay g_7 3) fun g_9 => (some g_9)))))
def fX11_one_j206 (qX11_both : STt → Int32 → Option STt) (qX11_either : STt → Int32 → Option STt) (qX11_one : STt → Int32 → Option STt) (g : STt) (l2 : Int32) : Option STt :=
  bnd (fX11_readNumber g) fun g_2 r_3 => (if inB l2 700 = true then (bnd1 (fX11_lay (sA1 g_2 67 0 l2.toNatClampNeg r_3) 0) fun g_6 => (some g_6)) else none)
def fX11_one_j189 (qX11_both : STt → Int32 → Option STt) (qX11_either : STt → Int32 → Option STt) (qX11_one : STt → Int32 → Option STt) (g : STt) (l2 : Int32) : Option STt :=
  fX11_one_j206 qX11_both qX11_either qX11_one (sS g 37 0 ((g.1 37 0) + 1)) l2
def fX11_one_j161 (qX11_both : STt → Int32 → Option STt) (qX11_either : STt → Int32 → Option STt) (qX11_one : STt → Int32 → Option STt) (g : STt) (l2 : Int32) (s0 : Int32) (s1 : Int32) : Option STt :=
  if inB s1 700 = true then (bnd1 (fX11_isHere (sA1 g 66 0 s1.toNatClampNeg s0) 60) fun r_3 => (if r_3 = 0 then (bnd1 (fX11_isHere (sA1 g 66 0 s1.toNatClampNeg s0) 61) fun r_6 => (if r_6 = 0 then (bnd1 (fX11_isHere (sA1 g 66 0 s1.toNatClampNeg s0) 62) fun r_9 => (if r_9 = 0 then (bnd1 (fX11_faulty (sA1 g 66 0 s1.toNatClampNeg s0)) fun g_12 => (fX11_one_j206 qX11_both qX11_either qX11_one g_12 l2)) else (fX11_one_j189 qX11_both qX11_either qX11_one (sA1 g 66 0 s1.toNatClampNeg s0) l2))) else (fX11_one_j189 qX11_both qX11_either qX11_one (sA1 g 66 0 s1.toNatClampNeg s0) l2))) else (fX11_one_j189 qX11_both qX11_either qX11_one (sA1 g 66 0 s1.toNatClampNeg s0) l2))) else none
def fX11_one_j87 (qX11_both : STt → Int32 → Option STt) (qX11_either : STt → Int32 → Option STt) (qX11_one : STt → Int32 → Option STt) (g : STt) : Option STt :=
  bnd1 (fX11_isLetter g) fun r_2 => (if r_2 = 0 then (bnd1 (fX11_faulty g) fun g_5 => (some g_5)) else (if inB (g.1 37 0) 100 = true then (if inB ((100 * (g.1 35 0)) + (g.1 39 0)) 700 = true then (if ((sS (sA1 g 65 0 ((100 * (g.1 35 0)) + (g.1 39 0)).toNatClampNeg (g.2.1 58 0 (g.1 37 0).toNatClampNeg)) 37 0 (((sA1 g 65 0 ((100 * (g.1 35 0)) + (g.1 39 0)).toNatClampNeg (g.2.1 58 0 (g.1 37 0).toNatClampNeg)).1 37 0) + 1)).1 34 0) ≤ ((sS (sA1 g 65 0 ((100 * (g.1 35 0)) + (g.1 39 0)).toNatClampNeg (g.2.1 58 0 (g.1 37 0).toNatClampNeg)) 37 0 (((sA1 g 65 0 ((100 * (g.1 35 0)) + (g.1 39 0)).toNatClampNeg (g.2.1 58 0 (g.1 37 0).toNatClampNeg)).1 37 0) + 1)).1 37 0) then (fX11_one_j161 qX11_both qX11_either qX11_one (sS (sA1 g 65 0 ((100 * (g.1 35 0)) + (g.1 39 0)).toNatClampNeg (g.2.1 58 0 (g.1 37 0).toNatClampNeg)) 37 0 (((sA1 g 65 0 ((100 * (g.1 35 0)) + (g.1 39 0)).toNatClampNeg (g.2.1 58 0 (g.1 37 0).toNatClampNeg)).1 37 0) + 1)) ((100 * (g.1 35 0)) + (g.1 39 0)) 0 ((100 * (g.1 35 0)) + (g.1 39 0))) else (if inB ((sS (sA1 g 65 0 ((100 * (g.1 35 0)) + (g.1 39 0)).toNatClampNeg (g.2.1 58 0 (g.1 37 0).toNatClampNeg)) 37 0 (((sA1 g 65 0 ((100 * (g.1 35 0)) + (g.1 39 0)).toNatClampNeg (g.2.1 58 0 (g.1 37 0).toNatClampNeg)).1 37 0) + 1)).1 37 0) 100 = true then (fX11_one_j161 qX11_both qX11_either qX11_one (sS (sA1 g 65 0 ((100 * (g.1 35 0)) + (g.1 39 0)).toNatClampNeg (g.2.1 58 0 (g.1 37 0).toNatClampNeg)) 37 0 (((sA1 g 65 0 ((100 * (g.1 35 0)) + (g.1 39 0)).toNatClampNeg (g.2.1 58 0 (g.1 37 0).toNatClampNeg)).1 37 0) + 1)) ((100 * (g.1 35 0)) + (g.1 39 0)) ((sS (sA1 g 65 0 ((100 * (g.1 35 0)) + (g.1 39 0)).toNatClampNeg (g.2.1 58 0 (g.1 37 0).toNatClampNeg)) 37 0 (((sA1 g 65 0 ((100 * (g.1 35 0)) + (g.1 39 0)).toNatClampNeg (g.2.1 58 0 (g.1 37 0).toNatClampNeg)).1 37 0) + 1)).2.1 58 0 ((sS (sA1 g 65 0 ((100 * (g.1 35 0)) + (g.1 39 0)).toNatClampNeg (g.2.1 58 0 (g.1 37 0).toNatClampNeg)) 37 0 (((sA1 g 65 0 ((100 * (g.1 35 0)) + (g.1 39 0)).toNatClampNeg (g.2.1 58 0 (g.1 37 0).toNatClampNeg)).1 37 0) + 1)).1 37 0).toNatClampNeg) ((100 * (g.1 35 0)) + (g.1 39 0))) else none)) else none) else none))
def fX11_one_j47 (qX11_both : STt → Int32 → Option STt) (qX11_either : STt → Int32 → Option STt) (qX11_one : STt → Int32 → Option STt) (g : STt) (l1 : Int32) : Option STt :=
  if 4 ≤ l1 then (fX11_one_j87 qX11_both qX11_either qX11_one g) else (bnd1 (fX11_isHere g 40) fun r_3 => (if r_3 = 0 then (fX11_one_j87 qX11_both qX11_either qX11_one g) else (bnd1 (qX11_either (sS g 37 0 ((g.1 37 0) + 1)) (l1 + 1)) fun g_6 => (bnd1 (fX11_takes g_6 41) fun g_8 => (some g_8)))))
def FX11_one (qX11_both : STt → Int32 → Option STt) (qX11_either : STt → Int32 → Option STt) (qX11_one : STt → Int32 → Option STt) (g : STt) (x1 : Int32) : Option STt :=
  if (g.1 38 0) < 0 then (if 4 ≤ x1 then (fX11_one_j47 qX11_both qX11_either qX11_one g x1) else (bnd1 (fX11_isHere g 33) fun r_4 => (if r_4 = 0 then (fX11_one_j47 qX11_both qX11_either qX11_one g x1) else (bnd1 (qX11_one (sS g 37 0 ((g.1 37 0) + 1)) (x1 + 1)) fun g_7 => (bnd1 (fX11_lay g_7 1) fun g_9 => (some g_9)))))) else (some g)
def RGX11_both : Nat → (STt → Int32 → Option STt) × (STt → Int32 → Option STt) × (STt → Int32 → Option STt)
  | 0 => (fun _ _ => none, fun _ _ => none, fun _ _ => none)
  | n + 1 => (FX11_both ((RGX11_both n).1) ((RGX11_both n).2.1) ((RGX11_both n).2.2), FX11_either ((RGX11_both n).1) ((RGX11_both n).2.1) ((RGX11_both n).2.2), FX11_one ((RGX11_both n).1) ((RGX11_both n).2.1) ((RGX11_both n).2.2))
def fuelX11_both : Nat := 320
def fX11_both (n : Nat) (g : STt) (x1 : Int32) : Option STt := (RGX11_both n).1 g x1
def fX11_either (n : Nat) (g : STt) (x1 : Int32) : Option STt := (RGX11_both n).2.1 g x1
def fX11_one (n : Nat) (g : STt) (x1 : Int32) : Option STt := (RGX11_both n).2.2 g x1
def fX11_readWord_j117 (K9 : (Int32 × Int32 × Int32) → Option (STt × Int32)) (g : STt) (l1 : Int32) (l2 : Int32) (l3 : Int32) : Option (STt × Int32) :=
  K9 (l1, l2, l3 + 1)
def fX11_readWord_j87 (K9 : (Int32 × Int32 × Int32) → Option (STt × Int32)) (K27 : (Int32 × Int32 × Int32 × Int32) → Option (STt × Int32)) (g : STt) (l1 : Int32) (l2 : Int32) (l3 : Int32) (l4 : Int32) (l5 : Int32) (s0 : Int32) : Option (STt × Int32) :=
  K27 (l1 + 1, l4, l5, s0)
def fX11_readWord_j71 (K9 : (Int32 × Int32 × Int32) → Option (STt × Int32)) (K27 : (Int32 × Int32 × Int32 × Int32) → Option (STt × Int32)) (g : STt) (l1 : Int32) (l2 : Int32) (l3 : Int32) (l4 : Int32) (l5 : Int32) : Option (STt × Int32) :=
  if inB l1 31 = true then (if (g.2.1 68 0 l1.toNatClampNeg) = 32 then (fX11_readWord_j87 K9 K27 g l1 l2 l3 l4 l5 0) else (fX11_readWord_j87 K9 K27 g l1 l2 l3 l4 l5 1)) else none
def fX11_readWord_j68 (K9 : (Int32 × Int32 × Int32) → Option (STt × Int32)) (K27 : (Int32 × Int32 × Int32 × Int32) → Option (STt × Int32)) (g : STt) (l1 : Int32) (l2 : Int32) (l3 : Int32) (l4 : Int32) : Option (STt × Int32) :=
  fX11_readWord_j71 K9 K27 g l1 l2 l3 l4 0
def fX11_readWord_l27c (K9 : (Int32 × Int32 × Int32) → Option (STt × Int32)) (K27 : (Int32 × Int32 × Int32 × Int32) → Option (STt × Int32)) (g : STt) (l2 : Int32) (l3 : Int32) (l1 : Int32) (l4 : Int32) (l5 : Int32) (l6 : Int32) : Option (STt × Int32) :=
  if l6 = 0 then (if l5 = 0 then (if l4 ≤ l2 then (fX11_readWord_j117 K9 g l1 l2 l3) else (fX11_readWord_j117 K9 g l1 l4 l3)) else (some (sS g 37 0 l4, l3))) else (if l5 = 0 then (fX11_readWord_j68 K9 K27 g l1 l2 l3 l4) else (if (g.1 34 0) ≤ l4 then (fX11_readWord_j68 K9 K27 g l1 l2 l3 l4) else (if inB l4 100 = true then (if inB l1 31 = true then (if (g.2.1 58 0 l4.toNatClampNeg) = (g.2.1 68 0 l1.toNatClampNeg) then (fX11_readWord_j71 K9 K27 g l1 l2 l3 (l4 + 1) l5) else (fX11_readWord_j68 K9 K27 g l1 l2 l3 l4)) else none) else none)))
def fX11_readWord_l27 (K9 : (Int32 × Int32 × Int32) → Option (STt × Int32)) (g : STt) (l2 : Int32) (l3 : Int32) (l1 : Int32) (l4 : Int32) (l5 : Int32) (l6 : Int32) : Option (STt × Int32) :=
  iterO (fun K z => fX11_readWord_l27c K9 K g l2 l3 z.1 z.2.1 z.2.2.1 z.2.2.2) fuelN (l1, l4, l5, l6)
def fX11_readWord_l9c (K9 : (Int32 × Int32 × Int32) → Option (STt × Int32)) (g : STt) (l1 : Int32) (l2 : Int32) (l3 : Int32) : Option (STt × Int32) :=
  if 6 < l3 then (bnd1 (fX11_faulty (sS g 37 0 l2)) fun g_3 => (some (g_3, (-1)))) else (fX11_readWord_l27 K9 g l2 l3 l1 (g.1 37 0) 1 1)
def fX11_readWord_l9 (g : STt) (l1 : Int32) (l2 : Int32) (l3 : Int32) : Option (STt × Int32) :=
  iterO (fun K z => fX11_readWord_l9c K g z.1 z.2.1 z.2.2) fuelN (l1, l2, l3)
def fX11_readWord (g : STt) : Option (STt × Int32) :=
  fX11_readWord_l9 g 0 (g.1 37 0) 0
def fX11_clause_j87 (g : STt) (l1 : Int32) : Option STt :=
  if inB l1 70 = true then (if inB ((sA1 g 63 0 l1.toNatClampNeg (g.1 39 0)).1 35 0) 7 = true then (if inB ((sA1 g 63 0 l1.toNatClampNeg (g.1 39 0)).1 35 0) 7 = true then (some (sA1 (sA1 g 63 0 l1.toNatClampNeg (g.1 39 0)) 59 0 ((sA1 g 63 0 l1.toNatClampNeg (g.1 39 0)).1 35 0).toNatClampNeg (((sA1 g 63 0 l1.toNatClampNeg (g.1 39 0)).2.1 59 0 ((sA1 g 63 0 l1.toNatClampNeg (g.1 39 0)).1 35 0).toNatClampNeg) + 1))) else none) else none) else none
def fX11_clause_j48 (g : STt) (l1 : Int32) (s0 : Int32) (s1 : Int32) : Option STt :=
  if inB s1 70 = true then (if inB l1 70 = true then (if 0 ≤ ((sA1 (sA1 g 61 0 s1.toNatClampNeg s0) 62 0 l1.toNatClampNeg ((sA1 g 61 0 s1.toNatClampNeg s0).1 39 0)).1 38 0) then (fX11_clause_j87 (sA1 (sA1 g 61 0 s1.toNatClampNeg s0) 62 0 l1.toNatClampNeg ((sA1 g 61 0 s1.toNatClampNeg s0).1 39 0)) l1) else (if inB l1 70 = true then (if 2 < ((sA1 (sA1 g 61 0 s1.toNatClampNeg s0) 62 0 l1.toNatClampNeg ((sA1 g 61 0 s1.toNatClampNeg s0).1 39 0)).2.1 60 0 l1.toNatClampNeg) then (fX11_clause_j87 (sA1 (sA1 g 61 0 s1.toNatClampNeg s0) 62 0 l1.toNatClampNeg ((sA1 g 61 0 s1.toNatClampNeg s0).1 39 0)) l1) else (bnd1 (fX11_takes (sA1 (sA1 g 61 0 s1.toNatClampNeg s0) 62 0 l1.toNatClampNeg ((sA1 g 61 0 s1.toNatClampNeg s0).1 39 0)) 32) fun g_7 => (bnd1 (fX11_either fuelX11_both g_7 0) fun g_9 => (fX11_clause_j87 g_9 l1)))) else none)) else none) else none
def fX11_clause (g : STt) : Option STt :=
  if inB (g.1 35 0) 7 = true then (bnd (fX11_readWord g) fun g_3 r_4 => (if inB ((10 * (g.1 35 0)) + (g.2.1 59 0 (g.1 35 0).toNatClampNeg)) 70 = true then (if 0 ≤ ((sA1 g_3 60 0 ((10 * (g.1 35 0)) + (g.2.1 59 0 (g.1 35 0).toNatClampNeg)).toNatClampNeg r_4).1 38 0) then (fX11_clause_j48 (sA1 g_3 60 0 ((10 * (g.1 35 0)) + (g.2.1 59 0 (g.1 35 0).toNatClampNeg)).toNatClampNeg r_4) ((10 * (g.1 35 0)) + (g.2.1 59 0 (g.1 35 0).toNatClampNeg)) 0 ((10 * (g.1 35 0)) + (g.2.1 59 0 (g.1 35 0).toNatClampNeg))) else (bnd (fX11_readNumber (sA1 g_3 60 0 ((10 * (g.1 35 0)) + (g.2.1 59 0 (g.1 35 0).toNatClampNeg)).toNatClampNeg r_4)) fun g_8 r_9 => (fX11_clause_j48 g_8 ((10 * (g.1 35 0)) + (g.2.1 59 0 (g.1 35 0).toNatClampNeg)) r_9 ((10 * (g.1 35 0)) + (g.2.1 59 0 (g.1 35 0).toNatClampNeg))))) else none)) else none
def fX11_law_j96 (g : STt) : Option (STt × Int32) :=
  if ((sS g 34 0 0).1 38 0) < 0 then (some (sS (sS (sS g 34 0 0) 36 0 ((sS g 34 0 0).1 35 0)) 35 0 (((sS (sS g 34 0 0) 36 0 ((sS g 34 0 0).1 35 0)).1 35 0) + 1), ((sS (sS (sS g 34 0 0) 36 0 ((sS g 34 0 0).1 35 0)) 35 0 (((sS (sS g 34 0 0) 36 0 ((sS g 34 0 0).1 35 0)).1 35 0) + 1)).1 35 0) - 1)) else (some (sS g 34 0 0, (-10) - ((sS g 34 0 0).1 38 0)))
def fX11_law_j81 (g : STt) : Option (STt × Int32) :=
  if (g.1 34 0) ≤ (g.1 37 0) then (fX11_law_j96 g) else (bnd1 (fX11_faulty g) fun g_3 => (fX11_law_j96 g_3))
def fX11_law_l41c (K41 : STt → Option (STt × Int32)) (g : STt) : Option (STt × Int32) :=
  bnd1 (fX11_isHere g 59) fun r_2 => (if r_2 = 0 then (fX11_law_j81 g) else (if inB (g.1 35 0) 7 = true then (if 10 ≤ (g.2.1 59 0 (g.1 35 0).toNatClampNeg) then (fX11_law_j81 g) else (bnd1 (fX11_clause (sS g 37 0 ((g.1 37 0) + 1))) fun g_7 => (K41 (g_7)))) else none))
def fX11_law_l41 (g : STt) : Option (STt × Int32) :=
  iterO (fun K z => fX11_law_l41c K z) fuelN (g)
def fX11_law (g : STt) : Option (STt × Int32) :=
  if (g.1 35 0) = 6 then (some (g, (-4))) else (if inB ((sS (sS (sS g 37 0 0) 38 0 (-1)) 39 0 0).1 35 0) 7 = true then (bnd1 (fX11_clause (sA1 (sS (sS (sS g 37 0 0) 38 0 (-1)) 39 0 0) 59 0 ((sS (sS (sS g 37 0 0) 38 0 (-1)) 39 0 0).1 35 0).toNatClampNeg 0)) fun g_4 => (fX11_law_l41 g_4)) else none)
def fX11_judge_j143 (g : STt) (l3 : Int32) : Option (STt × Int32) :=
  bnd1 (fX11_layBack g) fun g_2 => (some (g_2, l3))
def fX11_judge_j137 (K57 : (STt × Int32 × Int32) → Option (STt × Int32)) (g : STt) (l1 : Int32) (l2 : Int32) (l3 : Int32) (l4 : Int32) : Option (STt × Int32) :=
  K57 (g, l3, l4 + 1)
def fX11_judge_l57c (K57 : (STt × Int32 × Int32) → Option (STt × Int32)) (l1 : Int32) (l2 : Int32) (g : STt) (l3 : Int32) (l4 : Int32) : Option (STt × Int32) :=
  if (g.1 42 0) ≤ l4 then (fX11_judge_j143 g l3) else (if 0 ≤ l3 then (fX11_judge_j143 g l3) else (if inB l1 6 = true then (if (lg_cmp (l2.toInt64 + l4.toInt64) ((g.2.1 75 0 l1.toNatClampNeg).toInt64)) < 0 then (if inB l4 12 = true then (bnd (fX11_does g (g.2.1 70 0 l4.toNatClampNeg)) fun g_7 r_8 => (if inB (((60 * l1) + l2) + l4) 360 = true then (if inB 12 15 = true then (if (lg_cmp (g_7.2.2.1 76 0 (((60 * l1) + l2) + l4).toNatClampNeg) ((g_7.2.1 57 0 (12 : Int32).toNatClampNeg).toInt64)) = 0 then (fX11_judge_j137 K57 g_7 l1 l2 l3 l4) else (fX11_judge_j137 K57 g_7 l1 l2 l4 l4)) else none) else none)) else none) else (fX11_judge_j137 K57 g l1 l2 (100 + l4) l4)) else none))
def fX11_judge_l57 (l1 : Int32) (l2 : Int32) (g : STt) (l3 : Int32) (l4 : Int32) : Option (STt × Int32) :=
  iterO (fun K z => fX11_judge_l57c K l1 l2 z.1 z.2.1 z.2.2) fuelN (g, l3, l4)
def fX11_judge (g : STt) (x1 : Int32) (x2 : Int32) : Option (STt × Int32) :=
  bnd1 (fX11_isTape g x1) fun r_2 => (if r_2 = 0 then (some (g, (-1))) else (if inB x1 6 = true then (if (g.2.1 74 0 x1.toNatClampNeg) ≤ 0 then (if (g.1 42 0) = 0 then (some (g, (-5))) else (if inB x1 6 = true then (if (g.2.1 74 0 x1.toNatClampNeg) < 0 then (some (g, 100)) else (if 0 ≤ x2 then (bnd1 (fX11_keepNow g) fun g_11 => (fX11_judge_l57 x1 x2 g_11 (-5) 0)) else (some (g, 100)))) else none)) else (some (g, (-12)))) else none))
def fX11_as (g : STt) (x0 : Int32) (x1 : Int64) : Option Int64 :=
  if x0 = 0 then (some x1.toInt32.toInt8.toInt32.toInt64) else (if x0 = 1 then (some x1.toInt32.toInt16.toInt32.toInt64) else (if x0 = 2 then (some x1.toInt32.toInt64) else (if x0 = 3 then (some x1) else (if (lg_cmp x1 0) = 0 then (some 0) else (some 1)))))
def fX11_item (g : STt) (x1 : Int32) (x2 : Int32) (x3 : Int64) : Option (STt × Int32) :=
  bnd1 (fX11_isTape g x1) fun r_2 => (if r_2 = 0 then (some (g, (-1))) else (if inB x1 6 = true then (if 0 ≤ (g.2.1 74 0 x1.toNatClampNeg) then (if inB x1 6 = true then (bnd1 (fX11_in g x2 0 ((g.2.1 75 0 x1.toNatClampNeg) - 1)) fun r_8 => (if r_8 = 0 then (some (g, (-13))) else (if inB x1 6 = true then (bnd1 (fX11_as g (g.2.1 74 0 x1.toNatClampNeg) x3) fun r_12 => (if inB ((60 * x1) + x2) 360 = true then (some (sL1 g 76 0 ((60 * x1) + x2).toNatClampNeg r_12, 1)) else none)) else none))) else none) else (some (g, (-11)))) else none))
def fX11_image_l111c (K111 : (STt × Int32) → Option (STt × Int32)) (g : STt) (l1 : Int32) : Option (STt × Int32) :=
  if 4 ≤ l1 then (if inB 12 15 = true then (some (g, g.2.1 57 0 (12 : Int32).toNatClampNeg)) else none) else (if inB l1 4 = true then (if inB l1 4 = true then (K111 ((sA1 g 81 0 l1.toNatClampNeg (g.2.1 72 0 l1.toNatClampNeg)), l1 + 1)) else none) else none)
def fX11_image_l111 (g : STt) (l1 : Int32) : Option (STt × Int32) :=
  iterO (fun K z => fX11_image_l111c K z.1 z.2) fuelN (g, l1)
def fX11_image_l73c (K73 : (STt × Int32) → Option (STt × Int32)) (g : STt) (l1 : Int32) : Option (STt × Int32) :=
  if 12 ≤ l1 then (fX11_image_l111 g 0) else (if inB l1 12 = true then (if inB l1 12 = true then (if inB l1 12 = true then (if inB l1 12 = true then (K73 ((sA1 (sA1 g 79 0 l1.toNatClampNeg (g.2.1 70 0 l1.toNatClampNeg)) 80 0 l1.toNatClampNeg ((sA1 g 79 0 l1.toNatClampNeg (g.2.1 70 0 l1.toNatClampNeg)).2.1 73 0 l1.toNatClampNeg)), l1 + 1)) else none) else none) else none) else none)
def fX11_image_l73 (g : STt) (l1 : Int32) : Option (STt × Int32) :=
  iterO (fun K z => fX11_image_l73c K z.1 z.2) fuelN (g, l1)
def fX11_image_l47c (K47 : (STt × Int32) → Option (STt × Int32)) (g : STt) (l1 : Int32) : Option (STt × Int32) :=
  if 15 ≤ l1 then (fX11_image_l73 g 0) else (if inB l1 15 = true then (if inB l1 15 = true then (K47 ((sA1 g 78 0 l1.toNatClampNeg (g.2.1 57 0 l1.toNatClampNeg)), l1 + 1)) else none) else none)
def fX11_image_l47 (g : STt) (l1 : Int32) : Option (STt × Int32) :=
  iterO (fun K z => fX11_image_l47c K z.1 z.2) fuelN (g, l1)
def fX11_image (g : STt) : Option (STt × Int32) :=
  fX11_image_l47 (sS (sS (sS (sS (sS (sS g 47 0 1) 48 0 ((sS g 47 0 1).1 36 0)) 49 0 ((sS (sS g 47 0 1) 48 0 ((sS g 47 0 1).1 36 0)).1 44 0)) 50 0 ((sS (sS (sS g 47 0 1) 48 0 ((sS g 47 0 1).1 36 0)) 49 0 ((sS (sS g 47 0 1) 48 0 ((sS g 47 0 1).1 36 0)).1 44 0)).1 42 0)) 51 0 ((sS (sS (sS (sS g 47 0 1) 48 0 ((sS g 47 0 1).1 36 0)) 49 0 ((sS (sS g 47 0 1) 48 0 ((sS g 47 0 1).1 36 0)).1 44 0)) 50 0 ((sS (sS (sS g 47 0 1) 48 0 ((sS g 47 0 1).1 36 0)) 49 0 ((sS (sS g 47 0 1) 48 0 ((sS g 47 0 1).1 36 0)).1 44 0)).1 42 0)).1 46 0)) 52 0 ((sS (sS (sS (sS (sS g 47 0 1) 48 0 ((sS g 47 0 1).1 36 0)) 49 0 ((sS (sS g 47 0 1) 48 0 ((sS g 47 0 1).1 36 0)).1 44 0)) 50 0 ((sS (sS (sS g 47 0 1) 48 0 ((sS g 47 0 1).1 36 0)) 49 0 ((sS (sS g 47 0 1) 48 0 ((sS g 47 0 1).1 36 0)).1 44 0)).1 42 0)) 51 0 ((sS (sS (sS (sS g 47 0 1) 48 0 ((sS g 47 0 1).1 36 0)) 49 0 ((sS (sS g 47 0 1) 48 0 ((sS g 47 0 1).1 36 0)).1 44 0)) 50 0 ((sS (sS (sS g 47 0 1) 48 0 ((sS g 47 0 1).1 36 0)) 49 0 ((sS (sS g 47 0 1) 48 0 ((sS g 47 0 1).1 36 0)).1 44 0)).1 42 0)).1 46 0)).1 45 0)) 0
def fX11_hand_l33c (K33 : (STt × Int32) → Option (STt × Int32)) (l1 : Int32) (l2 : Int32) (g : STt) (l3 : Int32) : Option (STt × Int32) :=
  if l1 ≤ l3 then (bnd1 (fX11_nowOf g l2) fun r_3 => (bnd1 (fX11_layBack g) fun g_5 => (some (g_5, r_3)))) else (if inB l3 12 = true then (bnd (fX11_does g (g.2.1 70 0 l3.toNatClampNeg)) fun g_4 r_5 => (K33 (g_4, l3 + 1))) else none)
def fX11_hand_l33 (l1 : Int32) (l2 : Int32) (g : STt) (l3 : Int32) : Option (STt × Int32) :=
  iterO (fun K z => fX11_hand_l33c K l1 l2 z.1 z.2) fuelN (g, l3)
def fX11_hand (g : STt) (x1 : Int32) (x2 : Int32) : Option (STt × Int32) :=
  bnd1 (fX11_in g x2 0 15) fun r_2 => (if r_2 = 0 then (some (g, (-1))) else (bnd1 (fX11_in g x1 0 (g.1 42 0)) fun r_5 => (if r_5 = 0 then (some (g, (-2))) else (bnd1 (fX11_keepNow g) fun g_8 => (fX11_hand_l33 x1 x2 g_8 0)))))
def fX11_go_j30 (g : STt) (l1 : Int32) (s0 : Int32) (s1 : Int32) : Option (STt × Int32) :=
  if (s1 + s0) ≤ 9999 then (bnd (fX11_does g l1) fun g_3 r_4 => (some (g_3, r_4))) else (some (g, (-3)))
def fX11_go (g : STt) (x1 : Int32) : Option (STt × Int32) :=
  bnd1 (fX11_isAct g x1) fun r_2 => (if r_2 = 0 then (some (g, (-1))) else (if inB 14 15 = true then (if x1 = 6 then (bnd1 (fX11_fordHalves g) fun r_7 => (fX11_go_j30 g x1 r_7 (g.2.1 57 0 (14 : Int32).toNatClampNeg))) else (fX11_go_j30 g x1 1 (g.2.1 57 0 (14 : Int32).toNatClampNeg))) else none))
def fX11_gentlest_j94 (K43 : (STt × Int32 × Int32 × Int32) → Option (STt × Int32)) (g : STt) (l1 : Int32) (l2 : Int32) (l3 : Int32) (l4 : Int32) (l5 : Int32) : Option (STt × Int32) :=
  K43 (g, l3, l4, l5 + 1)
def fX11_gentlest_j85 (K43 : (STt × Int32 × Int32 × Int32) → Option (STt × Int32)) (g : STt) (l1 : Int32) (l2 : Int32) (l5 : Int32) : Option (STt × Int32) :=
  fX11_gentlest_j94 K43 g l1 l2 l5 (g.1 43 0) l5
def fX11_gentlest_l43c (K43 : (STt × Int32 × Int32 × Int32) → Option (STt × Int32)) (l1 : Int32) (l2 : Int32) (g : STt) (l3 : Int32) (l4 : Int32) (l5 : Int32) : Option (STt × Int32) :=
  bnd1 (fX11_rowsOf g l1) fun r_2 => (if r_2 ≤ l5 then (if 0 ≤ l3 then (if 0 ≤ l2 then (bnd1 (fX11_actOf g l3 l2 l1) fun r_7 => (some (g, r_7))) else (some (g, l4))) else (some (g, (-5)))) else (bnd (fX11_atBehind g l5 l1) fun g_5 r_6 => (if inB 12 15 = true then (if r_6 ≤ (g_5.2.1 57 0 (12 : Int32).toNatClampNeg) then (fX11_gentlest_j94 K43 g_5 l1 l2 l3 l4 l5) else (if l3 < 0 then (fX11_gentlest_j85 K43 g_5 l1 l2 l5) else (if (g_5.1 43 0) < l4 then (fX11_gentlest_j85 K43 g_5 l1 l2 l5) else (fX11_gentlest_j94 K43 g_5 l1 l2 l3 l4 l5)))) else none)))
def fX11_gentlest_l43 (l1 : Int32) (l2 : Int32) (g : STt) (l3 : Int32) (l4 : Int32) (l5 : Int32) : Option (STt × Int32) :=
  iterO (fun K z => fX11_gentlest_l43c K l1 l2 z.1 z.2.1 z.2.2.1 z.2.2.2) fuelN (g, l3, l4, l5)
def fX11_gentlest (g : STt) (x1 : Int32) (x2 : Int32) : Option (STt × Int32) :=
  bnd1 (fX11_in g x1 1 4) fun r_2 => (if r_2 = 0 then (some (g, (-2))) else (bnd1 (fX11_in g x2 (-1) (x1 - 1)) fun r_5 => (if r_5 = 0 then (some (g, (-1))) else (bnd1 (fX11_isOver g) fun r_8 => (if r_8 = 0 then (fX11_gentlest_l43 x1 x2 g (-1) 0 0) else (some (g, (-3))))))))
def fX11_film (g : STt) (x1 : Int32) : Option (STt × Int32) :=
  if x1 = (-1) then (some (sS g 46 0 0, 0)) else (bnd1 (fX11_in g x1 0 3) fun r_3 => (if r_3 = 0 then (some (g, (-1))) else (if (g.1 46 0) = 12 then (some (g, (-4))) else (if inB (g.1 46 0) 12 = true then (some (sS (sA1 g 73 0 (g.1 46 0).toNatClampNeg x1) 46 0 (((sA1 g 73 0 (g.1 46 0).toNatClampNeg x1).1 46 0) + 1), (sS (sA1 g 73 0 (g.1 46 0).toNatClampNeg x1) 46 0 (((sA1 g 73 0 (g.1 46 0).toNatClampNeg x1).1 46 0) + 1)).1 46 0)) else none))))
def fX11_feed (g : STt) (x1 : Int32) : Option (STt × Int32) :=
  bnd1 (fX11_in g x1 0 127) fun r_2 => (if r_2 = 0 then (some (g, (-2))) else (if (g.1 34 0) = 100 then (some (g, (-4))) else (if inB (g.1 34 0) 100 = true then (some (sS (sA1 g 58 0 (g.1 34 0).toNatClampNeg (vp_nar .byte x1.toInt8.toInt32)) 34 0 (((sA1 g 58 0 (g.1 34 0).toNatClampNeg (vp_nar .byte x1.toInt8.toInt32)).1 34 0) + 1), (sS (sA1 g 58 0 (g.1 34 0).toNatClampNeg (vp_nar .byte x1.toInt8.toInt32)) 34 0 (((sA1 g 58 0 (g.1 34 0).toNatClampNeg (vp_nar .byte x1.toInt8.toInt32)).1 34 0) + 1)).1 34 0)) else none)))
def fX11_drive (g : STt) (x1 : Int32) : Option (STt × Int32) :=
  bnd1 (fX11_isAct g x1) fun r_2 => (if r_2 = 0 then (some (g, (-100001))) else (bnd1 (fX11_isOver g) fun r_5 => (if r_5 = 0 then (bnd (fX11_driveBy g x1) fun g_8 r_9 => (some (g_8, r_9))) else (some (g, (-100003))))))
def fX11_days_j128 (g : STt) (s0 : Int32) : Option (STt × Int32) :=
  bnd1 (fX11_layBack g) fun g_2 => (some (g_2, s0))
def fX11_days_l62c (K30 : (STt × Int32) → Option (STt × Int32)) (K62 : (STt × Int32) → Option (STt × Int32)) (l1 : Int32) (l2 : Int32) (l3 : Int32) (g : STt) (l4 : Int32) : Option (STt × Int32) :=
  if (g.1 42 0) ≤ l4 then (K30 (g, l3 + 1)) else (if inB l4 12 = true then (bnd (fX11_does g (g.2.1 70 0 l4.toNatClampNeg)) fun g_4 r_5 => (K62 (g_4, l4 + 1))) else none)
def fX11_days_l62 (K30 : (STt × Int32) → Option (STt × Int32)) (l1 : Int32) (l2 : Int32) (l3 : Int32) (g : STt) (l4 : Int32) : Option (STt × Int32) :=
  iterO (fun K z => fX11_days_l62c K30 K l1 l2 l3 z.1 z.2) fuelN (g, l4)
def fX11_days_l30c (K30 : (STt × Int32) → Option (STt × Int32)) (l1 : Int32) (l2 : Int32) (g : STt) (l3 : Int32) : Option (STt × Int32) :=
  if l1 ≤ l3 then (if l2 = 0 then (bnd1 (fX11_learnt g) fun r_4 => (fX11_days_j128 g r_4)) else (if l2 = 1 then (if inB 6 15 = true then (fX11_days_j128 g (g.2.1 57 0 (6 : Int32).toNatClampNeg)) else none) else (if inB 12 15 = true then (fX11_days_j128 g (g.2.1 57 0 (12 : Int32).toNatClampNeg)) else none))) else (if inB 12 15 = true then (if inB 9 15 = true then (if inB 13 15 = true then (fX11_days_l62 K30 l1 l2 l3 (sA1 (sA1 (sA1 g 57 0 (12 : Int32).toNatClampNeg 0) 57 0 (9 : Int32).toNatClampNeg 0) 57 0 (13 : Int32).toNatClampNeg 0) 0) else none) else none) else none)
def fX11_days_l30 (l1 : Int32) (l2 : Int32) (g : STt) (l3 : Int32) : Option (STt × Int32) :=
  iterO (fun K z => fX11_days_l30c K l1 l2 z.1 z.2) fuelN (g, l3)
def fX11_days (g : STt) (x1 : Int32) (x2 : Int32) : Option (STt × Int32) :=
  bnd1 (fX11_in g x2 0 2) fun r_2 => (if r_2 = 0 then (some (g, (-1))) else (bnd1 (fX11_in g x1 0 99) fun r_5 => (if r_5 = 0 then (some (g, (-2))) else (bnd1 (fX11_keepNow g) fun g_8 => (fX11_days_l30 x1 x2 g_8 0)))))
def fX11_count (g : STt) (x1 : Int32) : Option Int32 :=
  if x1 = 0 then (some (g.1 33 0)) else (if x1 = 1 then (some (g.1 35 0)) else (if x1 = 2 then (some (g.1 42 0)) else (if x1 = 3 then (some (g.1 46 0)) else (if x1 = 4 then (some (g.1 45 0)) else (if x1 = 5 then (some (g.1 34 0)) else (if x1 = 6 then (some (g.1 53 0)) else (some (-2))))))))
def fX11_beast (g : STt) (x1 : Int32) : Option (STt × Int32) :=
  if x1 = (-1) then (some (sS g 45 0 0, 0)) else (bnd1 (fX11_in g x1 0 99) fun r_3 => (if r_3 = 0 then (some (g, (-2))) else (if (g.1 45 0) = 4 then (some (g, (-4))) else (if inB (g.1 45 0) 4 = true then (some (sS (sA1 g 72 0 (g.1 45 0).toNatClampNeg x1) 45 0 (((sA1 g 72 0 (g.1 45 0).toNatClampNeg x1).1 45 0) + 1), (sS (sA1 g 72 0 (g.1 45 0).toNatClampNeg x1) 45 0 (((sA1 g 72 0 (g.1 45 0).toNatClampNeg x1).1 45 0) + 1)).1 45 0)) else none))))
def fX10_isAct (g : STt) (x0 : Int32) : Option Int32 :=
  if x0 < 0 then (some 0) else (if 7 < x0 then (some 0) else (some 1))
def fX9_doneBy (g : STt) (x0 : Int32) : Option Int32 :=
  if x0 ≤ 0 then (if x0 < (-14) then (if x0 < (-39) then (some 3) else (some 2)) else (some 0)) else (some 1)
def fX1_get (g : STt) (d0 : Nat) (x1 : Int32) : Option Int32 :=
  if x1 < 0 then (some 0) else (if 15 ≤ x1 then (some 0) else (if inB x1 15 = true then (some (g.2.1 22 d0 x1.toNatClampNeg)) else none))
def fX4_has (g : STt) (x1 : Int32) : Option Int32 :=
  if x1 < 0 then (some 0) else (if (g.1 2 0) ≤ x1 then (some 0) else (some 1))
def fX9_isOver (g : STt) (d1 : Nat) : Option Int32 :=
  bnd1 (fX1_get g d1 12) fun r_2 => (bnd1 (fX4_has g r_2) fun r_4 => (if r_4 = 0 then (some 1) else (some 0)))
def fX1_sits (g : STt) (d0 : Nat) : Option Int32 :=
  if inB 13 15 = true then (if (g.2.1 22 d0 (13 : Int32).toNatClampNeg) = 0 then (some 0) else (some 1)) else none
def fX2_isTrue_j271 (g : STt) (l4 : Int32) : Option Int32 :=
  if (l4 &&& 1) = 1 then (some 1) else (some 0)
def fX2_isTrue_j265 (K57 : (Int32 × Int32) → Option Int32) (g : STt) (l0 : Nat) (l3 : Int32) (l4 : Int32) (l5 : Int32) : Option Int32 :=
  K57 (l4, l5 + 1)
def fX2_isTrue_j262 (K57 : (Int32 × Int32) → Option Int32) (g : STt) (l0 : Nat) (l3 : Int32) (l5 : Int32) (s0 : Int32) (s1 : Int32) : Option Int32 :=
  fX2_isTrue_j265 K57 g l0 l3 (s1 ||| s0) l5
def fX2_isTrue_j246 (K57 : (Int32 × Int32) → Option Int32) (g : STt) (l0 : Nat) (l3 : Int32) (l4 : Int32) (l5 : Int32) (s0 : Int32) : Option Int32 :=
  if s0 = 0 then (fX2_isTrue_j262 K57 g l0 l3 l5 0 (l4 <<< (1 &&& 31))) else (fX2_isTrue_j262 K57 g l0 l3 l5 1 (l4 <<< (1 &&& 31)))
def fX2_isTrue_j191 (K57 : (Int32 × Int32) → Option Int32) (g : STt) (l0 : Nat) (l3 : Int32) (l4 : Int32) (l5 : Int32) (l9 : Int32) (l10 : Int32) (s0 : Int32) : Option Int32 :=
  if l9 = 0 then (if l10 ≤ s0 then (fX2_isTrue_j246 K57 g l0 l3 l4 l5 0) else (fX2_isTrue_j246 K57 g l0 l3 l4 l5 1)) else (if l9 = 1 then (if s0 = l10 then (fX2_isTrue_j246 K57 g l0 l3 l4 l5 1) else (fX2_isTrue_j246 K57 g l0 l3 l4 l5 0)) else (if s0 ≤ l10 then (fX2_isTrue_j246 K57 g l0 l3 l4 l5 0) else (fX2_isTrue_j246 K57 g l0 l3 l4 l5 1)))
def fX2_isTrue_j190 (K57 : (Int32 × Int32) → Option Int32) (g : STt) (l0 : Nat) (l3 : Int32) (l4 : Int32) (l5 : Int32) (l9 : Int32) (l10 : Int32) : Option Int32 :=
  fX2_isTrue_j191 K57 g l0 l3 l4 l5 l9 l10 0
def fX2_isTrue_l57c (K57 : (Int32 × Int32) → Option Int32) (g : STt) (l0 : Nat) (l3 : Int32) (l4 : Int32) (l5 : Int32) : Option Int32 :=
  if l5 < 0 then (fX2_isTrue_j271 g l4) else (if l3 ≤ l5 then (fX2_isTrue_j271 g l4) else (if 100 ≤ l5 then (fX2_isTrue_j271 g l4) else (if inB l5 100 = true then (if (g.2.1 28 l0 l5.toNatClampNeg) = (-1) then (fX2_isTrue_j265 K57 g l0 l3 (l4 ^^^ 1) l5) else (if (g.2.1 28 l0 l5.toNatClampNeg) = (-2) then (fX2_isTrue_j265 K57 g l0 l3 ((l4 >>> (1 &&& 31)) &&& ((l4 &&& 1) ||| (-2))) l5) else (if (g.2.1 28 l0 l5.toNatClampNeg) = (-3) then (fX2_isTrue_j265 K57 g l0 l3 ((l4 >>> (1 &&& 31)) ||| (l4 &&& 1)) l5) else (if ((g.2.1 28 l0 l5.toNatClampNeg) / 1000) < 0 then (fX2_isTrue_j190 K57 g l0 l3 l4 l5 (((g.2.1 28 l0 l5.toNatClampNeg) / 100) - ((g.2.1 28 l0 l5.toNatClampNeg) / 100) / 10 * 10) ((g.2.1 28 l0 l5.toNatClampNeg) - (g.2.1 28 l0 l5.toNatClampNeg) / 100 * 100)) else (if 9 ≤ ((g.2.1 28 l0 l5.toNatClampNeg) / 1000) then (fX2_isTrue_j190 K57 g l0 l3 l4 l5 (((g.2.1 28 l0 l5.toNatClampNeg) / 100) - ((g.2.1 28 l0 l5.toNatClampNeg) / 100) / 10 * 10) ((g.2.1 28 l0 l5.toNatClampNeg) - (g.2.1 28 l0 l5.toNatClampNeg) / 100 * 100)) else (if inB ((g.2.1 28 l0 l5.toNatClampNeg) / 1000) 9 = true then (fX2_isTrue_j191 K57 g l0 l3 l4 l5 (((g.2.1 28 l0 l5.toNatClampNeg) / 100) - ((g.2.1 28 l0 l5.toNatClampNeg) / 100) / 10 * 10) ((g.2.1 28 l0 l5.toNatClampNeg) - (g.2.1 28 l0 l5.toNatClampNeg) / 100 * 100) (g.2.1 7 0 ((g.2.1 28 l0 l5.toNatClampNeg) / 1000).toNatClampNeg)) else none)))))) else none)))
def fX2_isTrue_l57 (g : STt) (l0 : Nat) (l3 : Int32) (l4 : Int32) (l5 : Int32) : Option Int32 :=
  iterO (fun K z => fX2_isTrue_l57c K g l0 l3 z.1 z.2) fuelN (l4, l5)
def fX2_isTrue_j45 (g : STt) (l0 : Nat) (l1 : Int32) (s0 : Int32) : Option Int32 :=
  if inB l1 10 = true then (fX2_isTrue_l57 g l0 s0 0 (g.2.1 27 l0 l1.toNatClampNeg)) else none
def fX2_isTrue_j41 (g : STt) (l0 : Nat) (l1 : Int32) : Option Int32 :=
  fX2_isTrue_j45 g l0 l1 (g.1 24 l0)
def fX2_isTrue (g : STt) (d0 : Nat) (x1 : Int32) : Option Int32 :=
  if x1 < 0 then (some 0) else (if x1 < 10 then (if (g.1 23 d0) ≤ (x1 + 1) then (fX2_isTrue_j41 g d0 x1) else (if 10 ≤ (x1 + 1) then (fX2_isTrue_j41 g d0 x1) else (if inB (x1 + 1) 10 = true then (fX2_isTrue_j45 g d0 x1 (g.2.1 27 d0 (x1 + 1).toNatClampNeg)) else none))) else (some 0))
def fX2_together_j52 (K5 : (Int32 × Int32) → Option Int32) (g : STt) (l0 : Nat) (l1 : Int32) (l3 : Int32) (l4 : Int32) : Option Int32 :=
  K5 (l3, l4 + 1)
def fX2_together_l5c (K5 : (Int32 × Int32) → Option Int32) (g : STt) (l0 : Nat) (l1 : Int32) (l3 : Int32) (l4 : Int32) : Option Int32 :=
  if (g.1 23 l0) ≤ l4 then (some l3) else (if 10 ≤ l4 then (some l3) else (if inB l4 10 = true then (if (g.2.1 25 l0 l4.toNatClampNeg) = l1 then (bnd1 (fX2_isTrue g l0 l4) fun r_6 => (if r_6 = 0 then (fX2_together_j52 K5 g l0 l1 l3 l4) else (if inB l4 10 = true then (fX2_together_j52 K5 g l0 l1 (l3 + (g.2.1 26 l0 l4.toNatClampNeg)) l4) else none))) else (fX2_together_j52 K5 g l0 l1 l3 l4)) else none))
def fX2_together_l5 (g : STt) (l0 : Nat) (l1 : Int32) (l3 : Int32) (l4 : Int32) : Option Int32 :=
  iterO (fun K z => fX2_together_l5c K g l0 l1 z.1 z.2) fuelN (l3, l4)
def fX2_together (g : STt) (d0 : Nat) (x1 : Int32) : Option Int32 :=
  fX2_together_l5 g d0 x1 0 0
def fX4_kindOf (g : STt) (x1 : Int32) : Option Int32 :=
  if x1 < 0 then (some (-1)) else (if (g.1 2 0) ≤ x1 then (some (-1)) else (if 10 ≤ x1 then (some (-1)) else (if inB x1 10 = true then (some (g.2.1 3 0 x1.toNatClampNeg)) else none)))
def fX4_numberOf (g : STt) (x1 : Int32) : Option Int32 :=
  if x1 < 0 then (some 0) else (if (g.1 2 0) ≤ x1 then (some 0) else (if 10 ≤ x1 then (some 0) else (if inB x1 10 = true then (some (g.2.1 4 0 x1.toNatClampNeg)) else none)))
def fX4_thingOf (g : STt) (x1 : Int32) : Option Int32 :=
  if x1 < 0 then (some (-1)) else (if (g.1 2 0) ≤ x1 then (some (-1)) else (if 10 ≤ x1 then (some (-1)) else (if inB x1 10 = true then (some (g.2.1 5 0 x1.toNatClampNeg)) else none)))
def fX9_fearThatCounts_j42 (g : STt) (l1 : Nat) (l3 : Int32) (s0 : Int32) : Option Int32 :=
  bnd1 (fX4_kindOf g l3) fun r_2 => (if r_2 = 1 then (some (s0 * 2)) else (if r_2 = 4 then (bnd1 (fX4_numberOf g l3) fun r_6 => (bnd1 (fX1_get g l1 9) fun r_8 => (some (if (0 : Int32) < ((s0 * 2) - (r_6 * r_8)) then ((s0 * 2) - (r_6 * r_8)) else (0 : Int32))))) else (some s0)))
def fX9_fearThatCounts (g : STt) (d1 : Nat) (x2 : Int32) : Option Int32 :=
  if x2 = 3 then (some 0) else (bnd1 (fX1_get g d1 12) fun r_3 => (bnd1 (fX4_thingOf g r_3) fun r_5 => (bnd1 (fX1_get g d1 r_5) fun r_7 => (if x2 = 2 then (fX9_fearThatCounts_j42 g d1 r_3 (r_7 / 2)) else (fX9_fearThatCounts_j42 g d1 r_3 r_7)))))
def fX9_lookAround (g : STt) (d1 : Nat) : Option STt :=
  bnd1 (fX1_get g d1 10) fun r_2 => (bnd1 (fX1_get g d1 11) fun r_4 => (bnd1 (fX1_get g d1 12) fun r_6 => (bnd1 (fX4_thingOf g r_6) fun r_8 => (bnd1 (fX1_get g d1 r_8) fun r_10 => (if inB 0 9 = true then (bnd1 (fX1_get (sA1 g 7 0 (0 : Int32).toNatClampNeg r_10) d1 7) fun r_13 => (if inB 1 9 = true then (bnd1 (fX1_get (sA1 (sA1 g 7 0 (0 : Int32).toNatClampNeg r_10) 7 0 (1 : Int32).toNatClampNeg r_13) d1 6) fun r_16 => (if inB 2 9 = true then (bnd1 (fX1_get (sA1 (sA1 (sA1 g 7 0 (0 : Int32).toNatClampNeg r_10) 7 0 (1 : Int32).toNatClampNeg r_13) 7 0 (2 : Int32).toNatClampNeg r_16) d1 8) fun r_19 => (if inB 3 9 = true then (if inB 4 9 = true then (if inB 5 9 = true then (if inB 6 9 = true then (bnd1 (fX4_kindOf (sA1 (sA1 (sA1 (sA1 (sA1 (sA1 (sA1 g 7 0 (0 : Int32).toNatClampNeg r_10) 7 0 (1 : Int32).toNatClampNeg r_13) 7 0 (2 : Int32).toNatClampNeg r_16) 7 0 (3 : Int32).toNatClampNeg r_19) 7 0 (4 : Int32).toNatClampNeg (if 0 ≤ (r_2 - r_4) then (r_2 - r_4) else 0 - (r_2 - r_4))) 7 0 (5 : Int32).toNatClampNeg (if (r_2 + r_4) < (99 : Int32) then (r_2 + r_4) else (99 : Int32))) 7 0 (6 : Int32).toNatClampNeg r_6) r_6) fun r_25 => (if inB 7 9 = true then (bnd1 (fX1_get (sA1 (sA1 (sA1 (sA1 (sA1 (sA1 (sA1 (sA1 g 7 0 (0 : Int32).toNatClampNeg r_10) 7 0 (1 : Int32).toNatClampNeg r_13) 7 0 (2 : Int32).toNatClampNeg r_16) 7 0 (3 : Int32).toNatClampNeg r_19) 7 0 (4 : Int32).toNatClampNeg (if 0 ≤ (r_2 - r_4) then (r_2 - r_4) else 0 - (r_2 - r_4))) 7 0 (5 : Int32).toNatClampNeg (if (r_2 + r_4) < (99 : Int32) then (r_2 + r_4) else (99 : Int32))) 7 0 (6 : Int32).toNatClampNeg r_6) 7 0 (7 : Int32).toNatClampNeg r_25) d1 14) fun r_28 => (if inB 8 9 = true then (some (sA1 (sA1 (sA1 (sA1 (sA1 (sA1 (sA1 (sA1 (sA1 g 7 0 (0 : Int32).toNatClampNeg r_10) 7 0 (1 : Int32).toNatClampNeg r_13) 7 0 (2 : Int32).toNatClampNeg r_16) 7 0 (3 : Int32).toNatClampNeg r_19) 7 0 (4 : Int32).toNatClampNeg (if 0 ≤ (r_2 - r_4) then (r_2 - r_4) else 0 - (r_2 - r_4))) 7 0 (5 : Int32).toNatClampNeg (if (r_2 + r_4) < (99 : Int32) then (r_2 + r_4) else (99 : Int32))) 7 0 (6 : Int32).toNatClampNeg r_6) 7 0 (7 : Int32).toNatClampNeg r_25) 7 0 (8 : Int32).toNatClampNeg (r_28 - r_28 / 60 * 60))) else none)) else none)) else none) else none) else none) else none)) else none)) else none)) else none)))))
def fX2_last_j63 (K32 : (Int32 × Int32) → Option Int32) (g : STt) (l0 : Nat) (l1 : Int32) (l2 : Int32) (l3 : Int32) : Option Int32 :=
  K32 (l2, l3 + 1)
def fX2_last_l32c (K32 : (Int32 × Int32) → Option Int32) (g : STt) (l0 : Nat) (l1 : Int32) (l2 : Int32) (l3 : Int32) : Option Int32 :=
  if (g.1 23 l0) ≤ l3 then (some l2) else (if 10 ≤ l3 then (some l2) else (if inB l3 10 = true then (if (g.2.1 25 l0 l3.toNatClampNeg) = l1 then (if inB l3 10 = true then (fX2_last_j63 K32 g l0 l1 (g.2.1 26 l0 l3.toNatClampNeg) l3) else none) else (fX2_last_j63 K32 g l0 l1 l2 l3)) else none))
def fX2_last_l32 (g : STt) (l0 : Nat) (l1 : Int32) (l2 : Int32) (l3 : Int32) : Option Int32 :=
  iterO (fun K z => fX2_last_l32c K g l0 l1 z.1 z.2) fuelN (l2, l3)
def fX2_last_j29 (g : STt) (l0 : Nat) (l1 : Int32) (s0 : Int32) : Option Int32 :=
  fX2_last_l32 g l0 l1 s0 0
def fX2_last (g : STt) (d0 : Nat) (x1 : Int32) : Option Int32 :=
  if x1 = 3 then (fX2_last_j29 g d0 x1 3) else (if x1 = 4 then (fX2_last_j29 g d0 x1 5) else (if x1 = 5 then (fX2_last_j29 g d0 x1 2) else (fX2_last_j29 g d0 x1 9)))
def fX9_moreBy (g : STt) (d1 : Nat) (x2 : Int32) : Option Int32 :=
  if x2 = 1 then (if g.2.2.2 < 7 then (bnd1 (fX2_last g g.2.2.2 3) fun r_4 => (some r_4)) else none) else (if x2 = 2 then (some 0) else (if x2 = 3 then (some (-20)) else (if x2 = 4 then (bnd1 (fX1_get g d1 7) fun r_6 => (some (r_6 / 2))) else (if x2 = 5 then (some 0) else (if x2 = 6 then (some 0) else (if x2 = 7 then (if g.2.2.2 < 7 then (bnd1 (fX2_last g g.2.2.2 4) fun r_10 => (some r_10)) else none) else (some 0)))))))
def fX9_weigh_l234c (K234 : (Int32 × Int32) → Option (STt × Int32)) (g : STt) (l7 : Int32) (l8 : Int32) : Option (STt × Int32) :=
  if 7 ≤ l8 then (some (g, l7)) else (if inB l8 7 = true then (K234 (l7 - (g.2.1 8 0 l8.toNatClampNeg), l8 + 1)) else none)
def fX9_weigh_l234 (g : STt) (l7 : Int32) (l8 : Int32) : Option (STt × Int32) :=
  iterO (fun K z => fX9_weigh_l234c K g z.1 z.2) fuelN (l7, l8)
def fX9_weigh_j209 (g : STt) (l1 : Nat) (l2 : Int32) (s0 : Int32) (s1 : Int32) : Option (STt × Int32) :=
  if inB s1 7 = true then (if (sA1 g 8 0 s1.toNatClampNeg s0).2.2.2 < 7 then (bnd1 (fX2_together (sA1 g 8 0 s1.toNatClampNeg s0) ((sA1 g 8 0 s1.toNatClampNeg s0).2.2.2) 0) fun r_4 => (bnd1 (fX9_moreBy (sA1 g 8 0 s1.toNatClampNeg s0) l1 l2) fun r_6 => (fX9_weigh_l234 (sA1 g 8 0 s1.toNatClampNeg s0) (r_4 + r_6) 0))) else none) else none
def fX9_weigh_j189 (g : STt) (l1 : Nat) (l2 : Int32) (s0 : Int32) (s1 : Int32) : Option (STt × Int32) :=
  if inB s1 7 = true then (bnd1 (fX1_sits (sA1 g 8 0 s1.toNatClampNeg s0) l1) fun r_3 => (if r_3 = 0 then (fX9_weigh_j209 (sA1 g 8 0 s1.toNatClampNeg s0) l1 l2 0 6) else (fX9_weigh_j209 (sA1 g 8 0 s1.toNatClampNeg s0) l1 l2 15 6))) else none
def fX9_weigh_j162 (g : STt) (l1 : Nat) (l2 : Int32) (l3 : Int32) (l4 : Int32) (s0 : Int32) (s1 : Int32) : Option (STt × Int32) :=
  if inB s1 7 = true then (if l4 = 6 then (bnd1 (fX4_numberOf (sA1 g 8 0 s1.toNatClampNeg s0) l3) fun r_4 => (fX9_weigh_j189 (sA1 g 8 0 s1.toNatClampNeg s0) l1 l2 (r_4 * l3) 5)) else (fX9_weigh_j189 (sA1 g 8 0 s1.toNatClampNeg s0) l1 l2 0 5)) else none
def fX9_weigh_j138 (g : STt) (l1 : Nat) (l2 : Int32) (l3 : Int32) (l4 : Int32) (s0 : Int32) (s1 : Int32) : Option (STt × Int32) :=
  if inB s1 7 = true then (if l4 = 5 then (bnd1 (fX1_get (sA1 g 8 0 s1.toNatClampNeg s0) l1 8) fun r_4 => (fX9_weigh_j162 (sA1 g 8 0 s1.toNatClampNeg s0) l1 l2 l3 l4 (r_4 / 2) 4)) else (fX9_weigh_j162 (sA1 g 8 0 s1.toNatClampNeg s0) l1 l2 l3 l4 0 4)) else none
def fX9_weigh_j117 (g : STt) (l1 : Nat) (l2 : Int32) (l3 : Int32) (l4 : Int32) (l6 : Int32) (s0 : Int32) (s1 : Int32) : Option (STt × Int32) :=
  if inB s1 7 = true then (if l6 = 0 then (fX9_weigh_j138 (sA1 g 8 0 s1.toNatClampNeg s0) l1 l2 l3 l4 0 3) else (bnd1 (fX1_get (sA1 g 8 0 s1.toNatClampNeg s0) l1 6) fun r_4 => (fX9_weigh_j138 (sA1 g 8 0 s1.toNatClampNeg s0) l1 l2 l3 l4 r_4 3))) else none
def fX9_weigh_j54 (g : STt) (l1 : Nat) (l2 : Int32) (l3 : Int32) (l4 : Int32) (l5 : Int32) (s0 : Int32) : Option (STt × Int32) :=
  bnd1 (fX9_lookAround g l1) fun g_2 => (if g_2.2.2.2 < 7 then (bnd1 (fX2_together g_2 g_2.2.2.2 1) fun r_5 => (if inB 0 7 = true then (bnd1 (fX9_fearThatCounts (sA1 g_2 8 0 (0 : Int32).toNatClampNeg r_5) l1 l2) fun r_8 => (if inB 1 7 = true then (if l5 = 0 then (fX9_weigh_j117 (sA1 (sA1 g_2 8 0 (0 : Int32).toNatClampNeg r_5) 8 0 (1 : Int32).toNatClampNeg r_8) l1 l2 l3 l4 s0 0 2) else (if (sA1 (sA1 g_2 8 0 (0 : Int32).toNatClampNeg r_5) 8 0 (1 : Int32).toNatClampNeg r_8).2.2.2 < 7 then (bnd1 (fX2_together (sA1 (sA1 g_2 8 0 (0 : Int32).toNatClampNeg r_5) 8 0 (1 : Int32).toNatClampNeg r_8) ((sA1 (sA1 g_2 8 0 (0 : Int32).toNatClampNeg r_5) 8 0 (1 : Int32).toNatClampNeg r_8).2.2.2) 2) fun r_13 => (fX9_weigh_j117 (sA1 (sA1 g_2 8 0 (0 : Int32).toNatClampNeg r_5) 8 0 (1 : Int32).toNatClampNeg r_8) l1 l2 l3 l4 s0 r_13 2)) else none)) else none)) else none)) else none)
def fX9_weigh_j49 (g : STt) (l1 : Nat) (l2 : Int32) (l3 : Int32) (l4 : Int32) (l5 : Int32) : Option (STt × Int32) :=
  fX9_weigh_j54 g l1 l2 l3 l4 l5 1
def fX9_weigh_j34 (g : STt) (l1 : Nat) (l2 : Int32) (l3 : Int32) (l4 : Int32) (s0 : Int32) : Option (STt × Int32) :=
  if l4 = 3 then (fX9_weigh_j49 g l1 l2 l3 l4 s0) else (if l4 = 6 then (fX9_weigh_j49 g l1 l2 l3 l4 s0) else (fX9_weigh_j54 g l1 l2 l3 l4 s0 0))
def fX9_weigh_j29 (g : STt) (l1 : Nat) (l2 : Int32) (l3 : Int32) (l4 : Int32) : Option (STt × Int32) :=
  fX9_weigh_j34 g l1 l2 l3 l4 1
def fX9_weigh (g : STt) (d1 : Nat) (x2 : Int32) : Option (STt × Int32) :=
  bnd1 (fX1_get g d1 12) fun r_2 => (bnd1 (fX4_kindOf g r_2) fun r_4 => (if r_4 = 2 then (fX9_weigh_j29 g d1 x2 r_2 r_4) else (if r_4 = 5 then (fX9_weigh_j29 g d1 x2 r_2 r_4) else (fX9_weigh_j34 g d1 x2 r_2 r_4 0))))
def fX9_doing (g : STt) (d1 : Nat) (x2 : Int32) : Option (STt × Int32) :=
  bnd1 (fX9_isOver g d1) fun r_2 => (if r_2 = 0 then (if x2 = 6 then (some (g, 1)) else (bnd (fX9_weigh g d1 x2) fun g_6 r_7 => (bnd1 (fX9_doneBy g_6 r_7) fun r_9 => (some (g_6, r_9))))) else (some (g, (-5))))
def fX10_would (g : STt) (x1 : Int32) : Option (STt × Int32) :=
  bnd1 (fX10_isAct g x1) fun r_2 => (if r_2 = 0 then (some (g, (-1))) else (bnd (fX9_doing g 0 x1) fun g_5 r_6 => (some (g_5, r_6))))
def fX10_isOver (g : STt) : Option Int32 :=
  bnd1 (fX9_isOver g 0) fun r_2 => (if vp_nar .boolean r_2 = r_2 then (some r_2) else none)
def fX9_mostAgainst_j42 (K16 : (Int32 × Int32) → Option (STt × Int32)) (g : STt) (l2 : Int32) (l3 : Int32) : Option (STt × Int32) :=
  K16 (l2, l3 + 1)
def fX9_mostAgainst_l16c (K16 : (Int32 × Int32) → Option (STt × Int32)) (g : STt) (l2 : Int32) (l3 : Int32) : Option (STt × Int32) :=
  if 7 ≤ l3 then (some (g, l2)) else (if inB l3 7 = true then (if inB l2 7 = true then (if (g.2.1 8 0 l3.toNatClampNeg) ≤ (g.2.1 8 0 l2.toNatClampNeg) then (fX9_mostAgainst_j42 K16 g l2 l3) else (fX9_mostAgainst_j42 K16 g l3 l3)) else none) else none)
def fX9_mostAgainst_l16 (g : STt) (l2 : Int32) (l3 : Int32) : Option (STt × Int32) :=
  iterO (fun K z => fX9_mostAgainst_l16c K g z.1 z.2) fuelN (l2, l3)
def fX9_mostAgainst (g : STt) (d1 : Nat) : Option (STt × Int32) :=
  bnd (fX9_weigh g d1 0) fun g_2 r_3 => (if r_3 ≤ 0 then (fX9_mostAgainst_l16 g_2 0 1) else (some (g_2, (-5))))
def fX10_why (g : STt) : Option (STt × Int32) :=
  bnd1 (fX10_isOver g) fun r_2 => (if r_2 = 0 then (bnd (fX9_mostAgainst g 0) fun g_5 r_6 => (some (g_5, r_6))) else (some (g, (-5))))
def fX10_wander (g : STt) (x1 : Int32) : Option (STt × Int32) :=
  if x1 < 0 then (some (g, (-2))) else (if x1 ≤ 10 then (some (sS g 18 0 x1, g.1 18 0)) else (some (g, (-2))))
def fX1_become (g : STt) (d0 : Nat) (d1 : Nat) : Option STt :=
  if cpB 0 0 15 15 15 = true then (some (sA g 22 d0 (va_cpy (g.2.1 22 d1) (g.2.1 22 d0) (0 : Int32).toNatClampNeg (0 : Int32).toNatClampNeg (15 : Int32).toNatClampNeg))) else none
def fX8_stage_j26 (g : STt) (s0 : Nat) : Option Nat :=
  some s0
def fX8_stage_j22 (g : STt) : Option Nat :=
  fX8_stage_j26 g 9
def fX8_stage (g : STt) (x1 : Int32) : Option Nat :=
  if x1 < 0 then (fX8_stage_j22 g) else (if 7 ≤ x1 then (fX8_stage_j22 g) else (if inB x1 7 = true then (fX8_stage_j26 g (2 + x1.toNatClampNeg)) else none))
def fX8_begin (g : STt) : Option (STt × Nat) :=
  bnd1 (fX8_stage g 0) fun r_2 => (if r_2 < 10 then (bnd1 (fX1_become g r_2 0) fun g_5 => (bnd1 (fX1_get g_5 r_2 12) fun r_7 => (some (sS g_5 11 0 (r_7 + 1), r_2)))) else none)
def fX1_addTo_j61 (g : STt) (s0 : Int32) (s1 : Int32) (s2 : Nat) : Option STt :=
  if inB s1 15 = true then (some (sA1 g 22 s2 s1.toNatClampNeg s0)) else none
def fX1_addTo (g : STt) (d0 : Nat) (x1 : Int32) (x2 : Int32) : Option STt :=
  if x1 < 0 then (some g) else (if 15 ≤ x1 then (some g) else (if 15 ≤ x1 then (some g) else (if inB x1 15 = true then (if 0 ≤ ((g.2.1 22 d0 x1.toNatClampNeg) + x2) then (if inB x1 15 = true then (if ((g.2.1 22 d0 x1.toNatClampNeg) + x2) ≤ (mostF x1.toNatClampNeg) then (fX1_addTo_j61 g ((g.2.1 22 d0 x1.toNatClampNeg) + x2) x1 d0) else (if inB x1 15 = true then (fX1_addTo_j61 g (mostF x1.toNatClampNeg) x1 d0) else none)) else none) else (fX1_addTo_j61 g 0 x1 d0)) else none)))
def fX9_answer_j69 (g : STt) (s0 : Int32) (s1 : Int32) (s2 : Nat) : Option STt :=
  bnd1 (fX1_addTo g s2 s1 s0) fun g_2 => (some g_2)
def fX9_answer_j88 (g : STt) (l0 : Nat) (s0 : Int32) (s1 : Int32) (s2 : Nat) : Option STt :=
  bnd1 (fX1_addTo g s2 s1 s0) fun g_2 => (bnd1 (fX1_addTo g_2 l0 7 (-3)) fun g_4 => (some g_4))
def fX9_answer_j150 (g : STt) (s0 : Int32) (s1 : Int32) (s2 : Nat) : Option STt :=
  bnd1 (fX1_addTo g s2 s1 s0) fun g_2 => (some g_2)
def fX9_answer_j133 (g : STt) (l0 : Nat) (l4 : Int32) (s0 : Int32) (s1 : Int32) (s2 : Nat) : Option STt :=
  bnd1 (fX1_addTo g s2 s1 s0) fun g_2 => (if l4 = 0 then (fX9_answer_j150 g_2 (-2) 6 l0) else (fX9_answer_j150 g_2 0 6 l0))
def fX9_answer_j10 (g : STt) (l0 : Nat) (l1 : Int32) (l3 : Int32) (s0 : Int32) : Option STt :=
  if l1 = 1 then (if s0 = 0 then (fX9_answer_j69 g (-1) 6 l0) else (fX9_answer_j69 g 0 6 l0)) else (if l1 = 2 then (some g) else (if l1 = 3 then (some g) else (if l1 = 4 then (if s0 = 0 then (fX9_answer_j88 g l0 5 6 l0) else (fX9_answer_j88 g l0 (-1) 6 l0)) else (if l1 = 5 then (bnd1 (fX1_addTo g l0 10 (-5)) fun g_7 => (bnd1 (fX1_addTo g_7 l0 11 (-5)) fun g_9 => (some g_9))) else (if l1 = 6 then (some g) else (if l1 = 7 then (if s0 = 0 then (fX9_answer_j133 g l0 s0 3 l3 l0) else (fX9_answer_j133 g l0 s0 0 l3 l0)) else (some g)))))))
def fX9_answer (g : STt) (d0 : Nat) (x1 : Int32) (x2 : Int32) (x3 : Int32) : Option STt :=
  if x2 = 1 then (fX9_answer_j10 g d0 x1 x3 1) else (fX9_answer_j10 g d0 x1 x3 0)
def fX1_put (g : STt) (d0 : Nat) (x1 : Int32) (x2 : Int32) : Option STt :=
  if x1 < 0 then (some g) else (if 15 ≤ x1 then (some g) else (if inB x1 15 = true then (some (sA1 g 22 d0 x1.toNatClampNeg x2)) else none))
def fX9_leave (g : STt) (d0 : Nat) (x1 : Int32) : Option STt :=
  bnd1 (fX1_addTo g d0 12 x1) fun g_2 => (bnd1 (fX1_put g_2 d0 9 0) fun g_4 => (bnd1 (fX1_put g_4 d0 13 0) fun g_6 => (some g_6)))
def fX9_follow_j79 (g : STt) (l1 : Nat) : Option STt :=
  bnd1 (fX1_put g l1 13 0) fun g_2 => (some g_2)
def fX9_follow (g : STt) (d1 : Nat) (x2 : Int32) (x3 : Int32) (x4 : Int32) : Option STt :=
  if x3 = 0 then (if x2 = 7 then (fX9_follow_j79 g d1) else (if g.2.2.2 < 7 then (bnd1 (fX2_last g g.2.2.2 5) fun r_5 => (bnd1 (fX1_addTo g d1 x4 (-r_5)) fun g_7 => (bnd1 (fX1_addTo g_7 d1 9 1) fun g_9 => (fX9_follow_j79 g_9 d1)))) else none)) else (if x3 = 1 then (bnd1 (fX1_addTo g d1 x4 (-5)) fun g_4 => (bnd1 (fX1_addTo g_4 d1 8 1) fun g_6 => (bnd1 (fX9_leave g_6 d1 1) fun g_8 => (some g_8)))) else (if x3 = 2 then (bnd1 (fX9_leave g d1 (-1)) fun g_5 => (some g_5)) else (bnd1 (fX1_put g d1 13 1) fun g_5 => (bnd1 (fX1_addTo g_5 d1 8 (-1)) fun g_7 => (some g_7)))))
def fX9_halfMinutesOf (g : STt) (x1 : Int32) : Option Int32 :=
  if x1 = 6 then (if g.2.2.2 < 7 then (bnd1 (fX2_last g g.2.2.2 6) fun r_4 => (some (if (1 : Int32) < r_4 then r_4 else (1 : Int32)))) else none) else (some 1)
def fX9_step_j83 (g : STt) (l1 : Nat) (l2 : Int32) (l4 : Int32) : Option (STt × Int32) :=
  bnd1 (fX9_halfMinutesOf g l2) fun r_2 => (bnd1 (fX1_addTo g l1 14 r_2) fun g_4 => (some (g_4, l4)))
def fX9_step (g : STt) (d1 : Nat) (x2 : Int32) (x3 : Int32) : Option (STt × Int32) :=
  bnd1 (fX9_isOver g d1) fun r_2 => (if r_2 = 0 then (if x2 = 6 then (bnd1 (fX1_addTo g d1 6 10) fun g_6 => (bnd1 (fX9_leave g_6 d1 1) fun g_8 => (fX9_step_j83 g_8 d1 x2 1))) else (bnd (fX9_weigh g d1 x2) fun g_6 r_7 => (bnd1 (fX9_doneBy g_6 (r_7 - x3)) fun r_9 => (bnd1 (fX1_get g_6 d1 12) fun r_11 => (bnd1 (fX4_thingOf g_6 r_11) fun r_13 => (bnd1 (fX9_follow g_6 d1 x2 r_9 r_13) fun g_15 => (bnd1 (fX9_answer g_15 d1 x2 r_9 r_13) fun g_17 => (fX9_step_j83 g_17 d1 x2 r_9)))))))) else (some (g, (-5))))
def fX8_waiting_l7c (K7 : (STt × Int32) → Option (STt × Int32)) (l1 : Nat) (g : STt) (l2 : Int32) : Option (STt × Int32) :=
  if 60 < l2 then (some (g, (-5))) else (bnd (fX9_step g l1 0 0) fun g_3 r_4 => (bnd1 (fX1_get g_3 l1 12) fun r_6 => (if r_6 = (g_3.1 11 0) then (some (g_3, l2)) else (K7 (g_3, l2 + 1)))))
def fX8_waiting_l7 (l1 : Nat) (g : STt) (l2 : Int32) : Option (STt × Int32) :=
  iterO (fun K z => fX8_waiting_l7c K l1 z.1 z.2) fuelN (g, l2)
def fX8_waiting (g : STt) : Option (STt × Int32) :=
  bnd (fX8_begin g) fun g_2 r_3 => (if r_3 < 10 then (fX8_waiting_l7 r_3 g_2 1) else none)
def fX10_waits (g : STt) : Option (STt × Int32) :=
  bnd1 (fX10_isOver g) fun r_2 => (if r_2 = 0 then (bnd (fX8_waiting g) fun g_5 r_6 => (some (g_5, r_6))) else (some (g, (-3))))
def fX10_heldLaw_j34 (g : STt) (s0 : Nat) : Option Nat :=
  some s0
def fX10_heldLaw_j30 (g : STt) : Option Nat :=
  fX10_heldLaw_j34 g 6
def fX10_heldLaw (g : STt) : Option Nat :=
  if (g.1 19 0) < 0 then (fX10_heldLaw_j30 g) else (if 6 ≤ (g.1 19 0) then (fX10_heldLaw_j30 g) else (if inB (g.1 19 0) 6 = true then (fX10_heldLaw_j34 g ((g.1 19 0).toNatClampNeg)) else none))
def fX5_add (g : STt) (d0 : Nat) (x1 : Int32) : Option (STt × Int32) :=
  if (g.1 20 d0) < 0 then (some (g, 0)) else (if (g.1 20 d0) < (Int32.ofNat (lnS d0)) then (if inB (g.1 20 d0) (lnS d0) = true then (some (sS (sA1 g 21 d0 (g.1 20 d0).toNatClampNeg x1) 20 d0 (((sA1 g 21 d0 (g.1 20 d0).toNatClampNeg x1).1 20 d0) + 1), 1)) else none) else (some (g, 0)))
def fX5_clear (g : STt) (d0 : Nat) : Option STt :=
  some (sS g 20 d0 0)
def fX5_get (g : STt) (d0 : Nat) (x1 : Int32) : Option Int32 :=
  if x1 < 0 then (some (-1)) else (if (g.1 20 d0) ≤ x1 then (some (-1)) else (if (Int32.ofNat (lnS d0)) ≤ x1 then (some (-1)) else (if inB x1 (lnS d0) = true then (some (g.2.1 21 d0 x1.toNatClampNeg)) else none)))
def fX5_size (g : STt) (d0 : Nat) : Option Int32 :=
  some (g.1 20 d0)
def fX5_become_l6c (K6 : (STt × Int32) → Option STt) (l0 : Nat) (l1 : Nat) (g : STt) (l2 : Int32) : Option STt :=
  bnd1 (fX5_size g l1) fun r_2 => (if r_2 ≤ l2 then (some g) else (bnd1 (fX5_get g l1 l2) fun r_5 => (bnd (fX5_add g l0 r_5) fun g_7 r_8 => (K6 (g_7, l2 + 1)))))
def fX5_become_l6 (l0 : Nat) (l1 : Nat) (g : STt) (l2 : Int32) : Option STt :=
  iterO (fun K z => fX5_become_l6c K l0 l1 z.1 z.2) fuelN (g, l2)
def fX5_become (g : STt) (d0 : Nat) (d1 : Nat) : Option STt :=
  bnd1 (fX5_clear g d0) fun g_2 => (fX5_become_l6 d0 d1 g_2 0)
def fX3_become (g : STt) (d0 : Nat) (d1 : Nat) : Option STt :=
  bnd1 (fX1_become g d0 d1) fun g_2 => (bnd1 (fX5_become g_2 (1 + 3 * d0) (1 + 3 * d1)) fun g_4 => (bnd1 (fX5_become g_4 (2 + 3 * d0) (2 + 3 * d1)) fun g_6 => (bnd1 (fX5_become g_6 (3 + 3 * d0) (3 + 3 * d1)) fun g_8 => (some (sS (sS g_8 18 d0 (g_8.1 18 d1)) 19 d0 ((sS g_8 18 d0 (g_8.1 18 d1)).1 19 d1))))))
def fX9_obey (g : STt) (d1 : Nat) : Option STt :=
  some (sW g d1)
def fX10_undo (g : STt) : Option (STt × Int32) :=
  if (g.1 1 0) = 0 then (some (g, (-3))) else (bnd1 (fX3_become g 0 1) fun g_3 => (bnd1 (fX10_heldLaw g_3) fun r_5 => (if r_5 < 7 then (bnd1 (fX9_obey g_3 r_5) fun g_8 => (bnd1 (fX1_get g_8 0 12) fun r_10 => (some (g_8, r_10)))) else none)))
def fX0_kept (g : STt) (x1 : Int32) : Option Int32 :=
  bnd1 (fX5_get g 7 x1) fun r_2 => (some r_2)
def fX10_trace (g : STt) (x1 : Int32) : Option Int32 :=
  bnd1 (fX0_kept g x1) fun r_2 => (some r_2)
def fX9_lastOf (g : STt) (x1 : Int32) : Option Int32 :=
  if g.2.2.2 < 7 then (bnd1 (fX2_last g g.2.2.2 x1) fun r_3 => (some r_3)) else none
def fX9_togetherOf (g : STt) (d1 : Nat) (x2 : Int32) : Option (STt × Int32) :=
  bnd1 (fX9_lookAround g d1) fun g_2 => (if g_2.2.2.2 < 7 then (bnd1 (fX2_together g_2 g_2.2.2.2 x2) fun r_5 => (some (g_2, r_5))) else none)
def fX10_told (g : STt) (x1 : Int32) : Option (STt × Int32) :=
  if x1 < 0 then (some (g, (-1))) else (if x1 ≤ 6 then (if x1 ≤ 2 then (bnd1 (fX10_isOver g) fun r_5 => (if r_5 = 0 then (bnd (fX9_togetherOf g 0 x1) fun g_8 r_9 => (some (g_8, r_9))) else (some (g, (-3))))) else (bnd1 (fX9_lastOf g x1) fun r_5 => (some (g, r_5)))) else (some (g, (-1))))
def fX10_tapeOf_j22 (g : STt) : Option (Option Nat) :=
  some none
def fX10_tapeOf (g : STt) (x1 : Int32) : Option (Option Nat) :=
  if x1 < 0 then (fX10_tapeOf_j22 g) else (if 6 ≤ x1 then (fX10_tapeOf_j22 g) else (if inB x1 6 = true then (some (some x1.toNatClampNeg)) else none))
def fJ7_fill_d0a16_l6c (K6 : (STt × Int32) → Option STt) (l0 : Nat) (l1 : Int64) (l4 : Int32) (g : STt) (l3 : Int32) : Option STt :=
  if l4 ≤ l3 then (some g) else (if inB l3 60 = true then (K6 ((sL1 g 31 l0 l3.toNatClampNeg l1), l3 + 1)) else none)
def fJ7_fill_d0a16_l6 (l0 : Nat) (l1 : Int64) (l4 : Int32) (g : STt) (l3 : Int32) : Option STt :=
  iterO (fun K z => fJ7_fill_d0a16_l6c K l0 l1 l4 z.1 z.2) fuelN (g, l3)
def fJ7_fill_d0a16 (g : STt) (d0 : Nat) (x1 : Int64) : Option STt :=
  fJ7_fill_d0a16_l6 d0 x1 60 g 0
def fX6_renew (g : STt) (d0 : Nat) (x1 : Int32) (x2 : Int32) : Option STt :=
  bnd1 (fJ7_fill_d0a16 (sS (sS g 29 d0 x1) 30 d0 (if (0 : Int32) < (if x2 < (60 : Int32) then x2 else (60 : Int32)) then (if x2 < (60 : Int32) then x2 else (60 : Int32)) else (0 : Int32))) d0 0) fun g_2 => (some g_2)
def fX10_tape (g : STt) (x1 : Int32) (x2 : Int32) (x3 : Int32) : Option (STt × Int32) :=
  bnd1 (fX10_tapeOf g x1) fun r_2 => (ocase r_2 (some (g, (-1))) (fun q_4 => if q_4 < 6 then (if x2 = (-1) then (bnd1 (fX6_renew g q_4 (-1) 0) fun g_7 => (some (g_7, 1))) else (if x2 < 0 then (some (g, (-2))) else (if 4 < x2 then (some (g, (-2))) else (if x3 ≤ 60 then (if 0 ≤ x3 then (bnd1 (fX6_renew g q_4 x2 x3) fun g_11 => (some (g_11, 1))) else (some (g, (-14)))) else (some (g, (-2))))))) else none))
def fX4_aboveOf (g : STt) (x0 : Int32) : Option Int32 :=
  if x0 < 0 then (some (-1)) else (if 7 ≤ x0 then (some (-1)) else (if inB x0 7 = true then (some (aboveF x0.toNatClampNeg)) else none))
def fX4_isUnder_l4c (K4 : (Int32 × Int32) → Option Int32) (g : STt) (l1 : Int32) (l2 : Int32) (l3 : Int32) : Option Int32 :=
  if 7 ≤ l3 then (some 0) else (if l2 < 0 then (some 0) else (if l2 = l1 then (some 1) else (bnd1 (fX4_aboveOf g l2) fun r_5 => (K4 (r_5, l3 + 1)))))
def fX4_isUnder_l4 (g : STt) (l1 : Int32) (l2 : Int32) (l3 : Int32) : Option Int32 :=
  iterO (fun K z => fX4_isUnder_l4c K g l1 z.1 z.2) fuelN (l2, l3)
def fX4_isUnder (g : STt) (x0 : Int32) (x1 : Int32) : Option Int32 :=
  fX4_isUnder_l4 g x1 x0 0
def fX10_taken (g : STt) (x1 : Int32) (x2 : Int32) : Option Int32 :=
  if x2 < 0 then (some (-2)) else (if x2 ≤ 6 then (bnd1 (fX4_has g x1) fun r_4 => (if r_4 = 0 then (some (-11)) else (bnd1 (fX4_kindOf g x1) fun r_7 => (bnd1 (fX4_isUnder g r_7 x2) fun r_9 => (if r_9 = 0 then (some (-12)) else (some r_7)))))) else (some (-2)))
def fX8_stageAfter (g : STt) (x1 : Int32) : Option (STt × Nat) :=
  bnd1 (fX8_stage g (x1 + 1)) fun r_2 => (if r_2 < 10 then (bnd1 (fX8_stage g x1) fun r_5 => (if r_5 < 10 then (bnd1 (fX1_become g r_2 r_5) fun g_8 => (some (g_8, r_2))) else none)) else none)
def fX8_waysFrom_j11 (qX8_waysFrom : STt → Int32 → Int32 → Option (STt × Int64)) (qX8_waysWith : STt → Int32 → Int32 → Int32 → Option (STt × Int64)) (g : STt) (l1 : Int32) : Option (STt × Int64) :=
  bnd1 (fX8_stage g l1) fun r_2 => (if r_2 < 10 then (bnd1 (fX1_get g r_2 12) fun r_5 => (if r_5 < (g.1 11 0) then (some (g, 0)) else (some (g, 1)))) else none)
def fX8_waysFrom_j61 (qX8_waysFrom : STt → Int32 → Int32 → Option (STt × Int64)) (qX8_waysWith : STt → Int32 → Int32 → Int32 → Option (STt × Int64)) (g : STt) (l1 : Int32) (l2 : Int32) (s0 : Int32) : Option (STt × Int64) :=
  bnd (qX8_waysWith g l1 l2 0) fun g_2 r_3 => (bnd (qX8_waysWith g_2 l1 l2 10) fun g_5 r_6 => (some (g_5, (((10 - s0).toInt64) * r_3) + (s0.toInt64 * r_6))))
def FX8_waysFrom (qX8_waysFrom : STt → Int32 → Int32 → Option (STt × Int64)) (qX8_waysWith : STt → Int32 → Int32 → Int32 → Option (STt × Int64)) (g : STt) (x1 : Int32) (x2 : Int32) : Option (STt × Int64) :=
  if x2 ≤ x1 then (fX8_waysFrom_j11 qX8_waysFrom qX8_waysWith g x1) else (if x1 < 6 then (bnd1 (fX5_get g 1 x1) fun r_4 => (if r_4 = 6 then (fX8_waysFrom_j61 qX8_waysFrom qX8_waysWith g x1 x2 0) else (fX8_waysFrom_j61 qX8_waysFrom qX8_waysWith g x1 x2 (g.1 18 0)))) else (fX8_waysFrom_j11 qX8_waysFrom qX8_waysWith g x1))
def FX8_waysWith (qX8_waysFrom : STt → Int32 → Int32 → Option (STt × Int64)) (qX8_waysWith : STt → Int32 → Int32 → Int32 → Option (STt × Int64)) (g : STt) (x1 : Int32) (x2 : Int32) (x3 : Int32) : Option (STt × Int64) :=
  bnd (fX8_stageAfter g x1) fun g_2 r_3 => (if r_3 < 10 then (bnd1 (fX5_get g_2 1 x1) fun r_6 => (bnd (fX9_step g_2 r_3 r_6 x3) fun g_8 r_9 => (bnd (qX8_waysFrom g_8 (x1 + 1) x2) fun g_11 r_12 => (some (g_11, r_12))))) else none)
def RGX8_waysFrom : Nat → (STt → Int32 → Int32 → Option (STt × Int64)) × (STt → Int32 → Int32 → Int32 → Option (STt × Int64))
  | 0 => (fun _ _ _ => none, fun _ _ _ _ => none)
  | n + 1 => (FX8_waysFrom ((RGX8_waysFrom n).1) ((RGX8_waysFrom n).2), FX8_waysWith ((RGX8_waysFrom n).1) ((RGX8_waysFrom n).2))
def fuelX8_waysFrom : Nat := 20
def fX8_waysFrom (n : Nat) (g : STt) (x1 : Int32) (x2 : Int32) : Option (STt × Int64) := (RGX8_waysFrom n).1 g x1 x2
def fX8_waysWith (n : Nat) (g : STt) (x1 : Int32) (x2 : Int32) (x3 : Int32) : Option (STt × Int64) := (RGX8_waysFrom n).2 g x1 x2 x3
def fX8_chanceOf_j125 (K48 : (Int64 × Int64 × Int32) → Option (STt × Int64)) (g : STt) (l2 : Int32) (l3 : Int64) (l5 : Int64) (l7 : Int32) : Option (STt × Int64) :=
  K48 (l3, l5, l7 + 1)
def fX8_chanceOf_j90 (K48 : (Int64 × Int64 × Int32) → Option (STt × Int64)) (g : STt) (l2 : Int32) (l3 : Int64) (l5 : Int64) (l7 : Int32) : Option (STt × Int64) :=
  if (lg_cmp (l3 - l3 / 5 * 5) 0) = 0 then (if (lg_cmp (l5 - l5 / 5 * 5) 0) = 0 then (fX8_chanceOf_j125 K48 g l2 (l3 / 5) (l5 / 5) l7) else (fX8_chanceOf_j125 K48 g l2 l3 l5 l7)) else (fX8_chanceOf_j125 K48 g l2 l3 l5 l7)
def fX8_chanceOf_l48c (K48 : (Int64 × Int64 × Int32) → Option (STt × Int64)) (g : STt) (l2 : Int32) (l3 : Int64) (l5 : Int64) (l7 : Int32) : Option (STt × Int64) :=
  if 6 ≤ l7 then (if l2 = 0 then (some (g, l3)) else (some (g, l5))) else (if (lg_cmp (l3 - l3 / 2 * 2) 0) = 0 then (if (lg_cmp (l5 - l5 / 2 * 2) 0) = 0 then (fX8_chanceOf_j90 K48 g l2 (l3 / 2) (l5 / 2) l7) else (fX8_chanceOf_j90 K48 g l2 l3 l5 l7)) else (fX8_chanceOf_j90 K48 g l2 l3 l5 l7))
def fX8_chanceOf_l48 (g : STt) (l2 : Int32) (l3 : Int64) (l5 : Int64) (l7 : Int32) : Option (STt × Int64) :=
  iterO (fun K z => fX8_chanceOf_l48c K g l2 z.1 z.2.1 z.2.2) fuelN (l3, l5, l7)
def fX8_chanceOf_j45 (g : STt) (l2 : Int32) (l3 : Int64) (l5 : Int64) : Option (STt × Int64) :=
  fX8_chanceOf_l48 g l2 l3 l5 0
def fX8_chanceOf_l18c (K18 : (Int64 × Int32) → Option (STt × Int64)) (g : STt) (l1 : Int32) (l2 : Int32) (l3 : Int64) (l5 : Int64) (l7 : Int32) : Option (STt × Int64) :=
  if l1 ≤ l7 then (fX8_chanceOf_j45 g l2 l3 l5) else (if 6 ≤ l7 then (fX8_chanceOf_j45 g l2 l3 l5) else (K18 (l5 * 10, l7 + 1)))
def fX8_chanceOf_l18 (g : STt) (l1 : Int32) (l2 : Int32) (l3 : Int64) (l5 : Int64) (l7 : Int32) : Option (STt × Int64) :=
  iterO (fun K z => fX8_chanceOf_l18c K g l1 l2 l3 z.1 z.2) fuelN (l5, l7)
def fX8_chanceOf (g : STt) (x1 : Int32) (x2 : Int32) : Option (STt × Int64) :=
  bnd (fX8_begin g) fun g_2 r_3 => (if r_3 < 10 then (bnd (fX8_waysFrom fuelX8_waysFrom g_2 0 x1) fun g_6 r_7 => (fX8_chanceOf_l18 g_6 x1 x2 r_7 1 0)) else none)
def fX10_sure (g : STt) (x1 : Int32) (x2 : Int32) : Option (STt × Int64) :=
  if x1 < 1 then (some (g, (-9223372036854775808))) else (if 6 < x1 then (some (g, (-9223372036854775808))) else (bnd1 (fX5_size g 1) fun r_4 => (if r_4 < x1 then (some (g, (-9223372036854775808))) else (if x2 < 0 then (some (g, (-9223372036854775808))) else (if x2 ≤ 1 then (bnd (fX8_chanceOf g x1 x2) fun g_9 r_10 => (some (g_9, r_10))) else (some (g, (-9223372036854775808))))))))
def fX5_placeOfLeast_j31 (K4 : (Int32 × Int32) → Option Int32) (g : STt) (l0 : Nat) (l1 : Int32) (l2 : Int32) : Option Int32 :=
  K4 (l1, l2 + 1)
def fX5_placeOfLeast_j29 (K4 : (Int32 × Int32) → Option Int32) (g : STt) (l0 : Nat) (l2 : Int32) : Option Int32 :=
  fX5_placeOfLeast_j31 K4 g l0 l2 l2
def fX5_placeOfLeast_l4c (K4 : (Int32 × Int32) → Option Int32) (g : STt) (l0 : Nat) (l1 : Int32) (l2 : Int32) : Option Int32 :=
  if (g.1 20 l0) ≤ l2 then (some l1) else (if l1 < 0 then (fX5_placeOfLeast_j29 K4 g l0 l2) else (bnd1 (fX5_get g l0 l2) fun r_4 => (bnd1 (fX5_get g l0 l1) fun r_6 => (if r_6 ≤ r_4 then (fX5_placeOfLeast_j31 K4 g l0 l1 l2) else (fX5_placeOfLeast_j29 K4 g l0 l2)))))
def fX5_placeOfLeast_l4 (g : STt) (l0 : Nat) (l1 : Int32) (l2 : Int32) : Option Int32 :=
  iterO (fun K z => fX5_placeOfLeast_l4c K g l0 z.1 z.2) fuelN (l1, l2)
def fX5_placeOfLeast (g : STt) (d0 : Nat) : Option Int32 :=
  fX5_placeOfLeast_l4 g d0 (-1) 0
def fX9_fearThere (g : STt) (d1 : Nat) : Option Int32 :=
  bnd1 (fX1_get g d1 12) fun r_2 => (bnd1 (fX4_thingOf g r_2) fun r_4 => (bnd1 (fX1_get g d1 r_4) fun r_6 => (some r_6)))
def fX10_string (g : STt) (x1 : Int32) : Option (STt × Int32) :=
  if x1 < 0 then (some (g, (-1))) else (if x1 ≤ 2 then (bnd1 (fX10_isOver g) fun r_4 => (if r_4 = 0 then (bnd1 (fX5_placeOfLeast g 3) fun r_7 => (if 0 ≤ r_7 then (if x1 = 0 then (some (g, r_7)) else (bnd1 (fX9_fearThere g 0) fun r_11 => (bnd1 (fX5_get g 3 r_7) fun r_13 => (if x1 = 1 then (some (g, (if (0 : Int32) < (r_11 - r_13) then (r_11 - r_13) else (0 : Int32)) / 10)) else (bnd (fX9_weigh g 0 1) fun g_16 r_17 => (if (r_17 + ((if (0 : Int32) < (r_11 - r_13) then (r_11 - r_13) else (0 : Int32)) / 10)) ≤ 0 then (some (g_16, 0)) else (some (g_16, 1)))))))) else (some (g, (-5))))) else (some (g, (-3))))) else (some (g, (-1))))
def fX8_keepTried (g : STt) (x1 : Int32) : Option STt :=
  if cpB 0 0 4 4 4 = true then (some (sA (sS g 9 0 x1) 13 0 (va_cpy ((sS g 9 0 x1).2.1 12 0) ((sS g 9 0 x1).2.1 13 0) (0 : Int32).toNatClampNeg (0 : Int32).toNatClampNeg (4 : Int32).toNatClampNeg))) else none
def fX8_trySooner_j20 (qX8_trySooner : STt → Int32 → Option STt) (qX8_trySoonerWith : STt → Int32 → Int32 → Option STt) (K2 : (STt × Int32) → Option STt) (g : STt) (l1 : Int32) (l2 : Int32) : Option STt :=
  K2 (g, l2 + 1)
def fX8_trySooner_l2c (qX8_trySooner : STt → Int32 → Option STt) (qX8_trySoonerWith : STt → Int32 → Int32 → Option STt) (K2 : (STt × Int32) → Option STt) (l1 : Int32) (g : STt) (l2 : Int32) : Option STt :=
  if 7 < l2 then (some g) else (if l2 = 6 then (fX8_trySooner_j20 qX8_trySooner qX8_trySoonerWith K2 g l1 l2) else (bnd1 (qX8_trySoonerWith g l1 l2) fun g_4 => (fX8_trySooner_j20 qX8_trySooner qX8_trySoonerWith K2 g_4 l1 l2)))
def fX8_trySooner_l2 (qX8_trySooner : STt → Int32 → Option STt) (qX8_trySoonerWith : STt → Int32 → Int32 → Option STt) (l1 : Int32) (g : STt) (l2 : Int32) : Option STt :=
  iterO (fun K z => fX8_trySooner_l2c qX8_trySooner qX8_trySoonerWith K l1 z.1 z.2) fuelN (g, l2)
def FX8_trySooner (qX8_trySooner : STt → Int32 → Option STt) (qX8_trySoonerWith : STt → Int32 → Int32 → Option STt) (g : STt) (x1 : Int32) : Option STt :=
  fX8_trySooner_l2 qX8_trySooner qX8_trySoonerWith x1 g 0
def FX8_trySoonerWith (qX8_trySooner : STt → Int32 → Option STt) (qX8_trySoonerWith : STt → Int32 → Int32 → Option STt) (g : STt) (x1 : Int32) (x2 : Int32) : Option STt :=
  if x1 < 0 then (some g) else (if 4 ≤ x1 then (some g) else (if (x1 + 1) < (g.1 9 0) then (bnd (fX8_stageAfter g x1) fun g_5 r_6 => (if r_6 < 10 then (bnd (fX9_step g_5 r_6 x2 0) fun g_9 r_10 => (if inB x1 4 = true then (bnd1 (fX1_get (sA1 g_9 12 0 x1.toNatClampNeg x2) r_6 12) fun r_13 => (if r_13 = ((sA1 g_9 12 0 x1.toNatClampNeg x2).1 11 0) then (bnd1 (fX8_keepTried (sA1 g_9 12 0 x1.toNatClampNeg x2) (x1 + 1)) fun g_16 => (some g_16)) else (bnd1 (qX8_trySooner (sA1 g_9 12 0 x1.toNatClampNeg x2) (x1 + 1)) fun g_16 => (some g_16)))) else none)) else none)) else (some g)))
def RGX8_trySooner : Nat → (STt → Int32 → Option STt) × (STt → Int32 → Int32 → Option STt)
  | 0 => (fun _ _ => none, fun _ _ _ => none)
  | n + 1 => (FX8_trySooner ((RGX8_trySooner n).1) ((RGX8_trySooner n).2), FX8_trySoonerWith ((RGX8_trySooner n).1) ((RGX8_trySooner n).2))
def fuelX8_trySooner : Nat := 20
def fX8_trySooner (n : Nat) (g : STt) (x1 : Int32) : Option STt := (RGX8_trySooner n).1 g x1
def fX8_trySoonerWith (n : Nat) (g : STt) (x1 : Int32) (x2 : Int32) : Option STt := (RGX8_trySooner n).2 g x1 x2
def fX8_findSoonest_j31 (g : STt) : Option (STt × Int32) :=
  some (g, g.1 9 0)
def fX8_findSoonest (g : STt) (x1 : Int32) : Option (STt × Int32) :=
  bnd (fX8_begin g) fun g_2 r_3 => (if r_3 < 10 then (bnd1 (fX8_trySooner fuelX8_trySooner (sS g_2 9 0 (x1 + 1)) 0) fun g_6 => (if (g_6.1 9 0) ≤ x1 then (fX8_findSoonest_j31 g_6) else (fX8_findSoonest_j31 (sS g_6 9 0 (-5))))) else none)
def fX8_found (g : STt) (x1 : Int32) : Option Int32 :=
  if x1 < 0 then (some (-5)) else (if (g.1 9 0) ≤ x1 then (some (-5)) else (if 4 ≤ x1 then (some (-5)) else (if inB x1 4 = true then (some (g.2.1 13 0 x1.toNatClampNeg)) else none)))
def fX10_soonest (g : STt) (x1 : Int32) (x2 : Int32) : Option (STt × Int32) :=
  if x2 < (-1) then (some (g, (-1))) else (if x2 < 4 then (if x1 < 0 then (some (g, (-2))) else (if x1 ≤ 4 then (bnd1 (fX10_isOver g) fun r_6 => (if r_6 = 0 then (bnd (fX8_findSoonest g x1) fun g_9 r_10 => (if x2 = (-1) then (some (g_9, r_10)) else (bnd1 (fX8_found g_9 x2) fun r_13 => (some (g_9, r_13))))) else (some (g, (-3))))) else (some (g, (-2))))) else (some (g, (-1))))
def fX8_hurtWith (g : STt) (x1 : Int32) : Option (STt × Int32) :=
  bnd (fX8_begin g) fun g_2 r_3 => (if r_3 < 10 then (bnd1 (fX1_get g_2 r_3 10) fun r_6 => (bnd1 (fX1_get g_2 r_3 11) fun r_8 => (if (r_6 - x1) < 0 then (some (g_2, (-1))) else (if 99 < (r_6 - x1) then (some (g_2, (-1))) else (if (r_8 + x1) < 0 then (some (g_2, (-1))) else (if (r_8 + x1) ≤ 99 then (bnd1 (fX1_put g_2 r_3 10 (r_6 - x1)) fun g_14 => (bnd1 (fX1_put g_14 r_3 11 (r_8 + x1)) fun g_16 => (bnd (fX9_togetherOf g_16 r_3 2) fun g_18 r_19 => (some (g_18, r_19))))) else (some (g_2, (-1))))))))) else none)
def fX8_bestShift_j54 (K10 : (STt × Int32 × Int32 × Int32) → Option (STt × Int32)) (K19 : (STt × Int32 × Int32 × Int32) → Option (STt × Int32)) (g : STt) (l1 : Int32) (l2 : Int32) (l3 : Int32) (l4 : Int32) : Option (STt × Int32) :=
  K19 (g, l1, l2, l4 + (-2))
def fX8_bestShift_l19c (K10 : (STt × Int32 × Int32 × Int32) → Option (STt × Int32)) (K19 : (STt × Int32 × Int32 × Int32) → Option (STt × Int32)) (l3 : Int32) (g : STt) (l1 : Int32) (l2 : Int32) (l4 : Int32) : Option (STt × Int32) :=
  if l4 < (-1) then (K10 (g, l1, l2, l3 + 1)) else (bnd (fX8_hurtWith g (l3 * l4)) fun g_3 r_4 => (if r_4 < 0 then (fX8_bestShift_j54 K10 K19 g_3 l1 l2 l3 l4) else (if l1 ≤ r_4 then (fX8_bestShift_j54 K10 K19 g_3 l1 l2 l3 l4) else (fX8_bestShift_j54 K10 K19 g_3 r_4 (l3 * l4) l3 l4))))
def fX8_bestShift_l19 (K10 : (STt × Int32 × Int32 × Int32) → Option (STt × Int32)) (l3 : Int32) (g : STt) (l1 : Int32) (l2 : Int32) (l4 : Int32) : Option (STt × Int32) :=
  iterO (fun K z => fX8_bestShift_l19c K10 K l3 z.1 z.2.1 z.2.2.1 z.2.2.2) fuelN (g, l1, l2, l4)
def fX8_bestShift_l10c (K10 : (STt × Int32 × Int32 × Int32) → Option (STt × Int32)) (g : STt) (l1 : Int32) (l2 : Int32) (l3 : Int32) : Option (STt × Int32) :=
  if 99 < l3 then (some (g, l2)) else (fX8_bestShift_l19 K10 l3 g l1 l2 1)
def fX8_bestShift_l10 (g : STt) (l1 : Int32) (l2 : Int32) (l3 : Int32) : Option (STt × Int32) :=
  iterO (fun K z => fX8_bestShift_l10c K z.1 z.2.1 z.2.2.1 z.2.2.2) fuelN (g, l1, l2, l3)
def fX8_bestShift (g : STt) : Option (STt × Int32) :=
  bnd (fX8_hurtWith g 0) fun g_2 r_3 => (fX8_bestShift_l10 g_2 r_3 0 1)
def fX10_shiftLoad (g : STt) : Option (STt × Int32) :=
  bnd1 (fX10_isOver g) fun r_2 => (if r_2 = 0 then (bnd (fX8_bestShift g) fun g_5 r_6 => (some (g_5, r_6))) else (some (g, (-100003))))
def fX6_spans (g : STt) (d0 : Nat) (x1 : Int32) (x2 : Int32) : Option Int32 :=
  if x2 < 0 then (some 0) else (if x1 < 0 then (some 0) else (if (g.1 30 d0) < x2 then (some 0) else (if ((g.1 30 d0) - x2) < x1 then (some 0) else (some 1))))
def fX6_copyIn (g : STt) (d0 : Nat) (x1 : Int32) (d2 : Nat) (x3 : Int32) (x4 : Int32) : Option STt :=
  bnd1 (fX6_spans g d0 x1 x4) fun r_2 => (if r_2 = 0 then (some g) else (bnd1 (fX6_spans g d2 x3 x4) fun r_5 => (if r_5 = 0 then (some g) else (if cpB x3 x1 x4 60 60 = true then (some (sL g 31 d0 (va_cpy (g.2.2.1 31 d2) (g.2.2.1 31 d0) x3.toNatClampNeg x1.toNatClampNeg x4.toNatClampNeg))) else none))))
def fX6_holdsSomething (g : STt) (d0 : Nat) : Option Int32 :=
  if (g.1 29 d0) = (-1) then (some 0) else (some 1)
def fX6_sort (g : STt) (d0 : Nat) : Option Int32 :=
  some (g.1 29 d0)
def fX10_shift (g : STt) (x1 : Int32) (x2 : Int32) (x3 : Int32) (x4 : Int32) (x5 : Int32) : Option (STt × Int32) :=
  bnd1 (fX10_tapeOf g x1) fun r_2 => (ocase r_2 (bnd1 (fX10_tapeOf g x3) fun r_6 => (ocase r_6 (some (g, (-1))) (fun q_8 => if q_8 < 6 then (some (g, (-1))) else none))) (fun q_4 => if q_4 < 6 then (bnd1 (fX10_tapeOf g x3) fun r_6 => (ocase r_6 (some (g, (-1))) (fun q_8 => if q_8 < 6 then (bnd1 (fX6_holdsSomething g q_4) fun r_10 => (if r_10 = 0 then (some (g, (-11))) else (bnd1 (fX6_holdsSomething g q_8) fun r_13 => (if r_13 = 0 then (some (g, (-11))) else (bnd1 (fX6_sort g q_4) fun r_16 => (bnd1 (fX6_sort g q_8) fun r_18 => (if r_16 = r_18 then (bnd1 (fX6_spans g q_4 x2 x5) fun r_21 => (if r_21 = 0 then (some (g, (-13))) else (bnd1 (fX6_spans g q_8 x4 x5) fun r_24 => (if r_24 = 0 then (some (g, (-13))) else (bnd1 (fX6_copyIn g q_8 x4 q_4 x2 x5) fun g_27 => (some (g_27, x5))))))) else (some (g, (-12)))))))))) else none))) else none))
def fX1_mostOf (g : STt) (x0 : Int32) : Option Int32 :=
  if x0 < 0 then (some 0) else (if 15 ≤ x0 then (some 0) else (if inB x0 15 = true then (some (mostF x0.toNatClampNeg)) else none))
def fX4_size (g : STt) : Option Int32 :=
  some (g.1 2 0)
def fX10_set_j32 (g : STt) (l1 : Int32) (l2 : Int32) (s0 : Int32) : Option (STt × Int32) :=
  if l2 < 0 then (some (g, (-2))) else (if l2 ≤ s0 then (bnd1 (fX1_get g 0 l1) fun r_4 => (bnd1 (fX1_put g 0 l1 l2) fun g_6 => (some (g_6, r_4)))) else (some (g, (-2))))
def fX10_set (g : STt) (x1 : Int32) (x2 : Int32) : Option (STt × Int32) :=
  if x1 < 0 then (some (g, (-1))) else (if x1 ≤ 13 then (if x1 = 12 then (bnd1 (fX4_size g) fun r_5 => (fX10_set_j32 g x1 x2 r_5)) else (bnd1 (fX1_mostOf g x1) fun r_5 => (fX10_set_j32 g x1 x2 r_5))) else (some (g, (-1))))
def fX10_addOrClear (g : STt) (d0 : Nat) (x1 : Int32) : Option (STt × Int32) :=
  if x1 = (-1) then (bnd1 (fX5_clear g d0) fun g_3 => (some (g_3, 0))) else (bnd (fX5_add g d0 x1) fun g_3 r_4 => (if r_4 = 0 then (some (g_3, (-4))) else (bnd1 (fX5_size g_3 d0) fun r_7 => (some (g_3, r_7)))))
def fX10_row_j14 (g : STt) (l1 : Int32) : Option (STt × Int32) :=
  bnd (fX10_addOrClear g 1 l1) fun g_2 r_3 => (some (g_2, r_3))
def fX10_row (g : STt) (x1 : Int32) : Option (STt × Int32) :=
  if x1 = (-1) then (fX10_row_j14 g x1) else (bnd1 (fX10_isAct g x1) fun r_3 => (if r_3 = 0 then (some (g, (-1))) else (fX10_row_j14 g x1)))
def fX10_round_j37 (g : STt) : Option (STt × Int32) :=
  some (g, 1)
def fX10_round (g : STt) : Option (STt × Int32) :=
  bnd1 (fX10_isOver g) fun r_2 => (if r_2 = 0 then (bnd (fX8_waiting g) fun g_5 r_6 => (if r_6 = (-5) then (fX10_round_j37 g_5) else (bnd1 (fX9_halfMinutesOf g_5 6) fun r_9 => (if r_6 ≤ r_9 then (some (g_5, 0)) else (fX10_round_j37 g_5))))) else (some (g, (-3))))
def fX6_has (g : STt) (d0 : Nat) (x1 : Int32) : Option Int32 :=
  if x1 < 0 then (some 0) else (if (g.1 30 d0) ≤ x1 then (some 0) else (if 60 ≤ x1 then (some 0) else (some 1)))
def fX6_get (g : STt) (d0 : Nat) (x1 : Int32) : Option Int64 :=
  bnd1 (fX6_has g d0 x1) fun r_2 => (if r_2 = 0 then (some 0) else (if inB x1 60 = true then (some (g.2.2.1 31 d0 x1.toNatClampNeg)) else none))
def fX10_read (g : STt) (x1 : Int32) (x2 : Int32) : Option Int64 :=
  bnd1 (fX10_tapeOf g x1) fun r_2 => (ocase r_2 (some (-9223372036854775808)) (fun q_4 => if q_4 < 6 then (bnd1 (fX6_has g q_4 x2) fun r_6 => (if r_6 = 0 then (some (-9223372036854775808)) else (bnd1 (fX6_get g q_4 x2) fun r_9 => (some r_9)))) else none))
def fX4_add (g : STt) (x1 : Int32) (x2 : Int32) (x3 : Int32) : Option (STt × Int32) :=
  if (g.1 2 0) < 0 then (some (g, (-4))) else (if (g.1 2 0) < 10 then (if inB (g.1 2 0) 10 = true then (if inB ((sA1 g 3 0 (g.1 2 0).toNatClampNeg x1).1 2 0) 10 = true then (if inB ((sA1 (sA1 g 3 0 (g.1 2 0).toNatClampNeg x1) 4 0 ((sA1 g 3 0 (g.1 2 0).toNatClampNeg x1).1 2 0).toNatClampNeg x2).1 2 0) 10 = true then (some (sS (sA1 (sA1 (sA1 g 3 0 (g.1 2 0).toNatClampNeg x1) 4 0 ((sA1 g 3 0 (g.1 2 0).toNatClampNeg x1).1 2 0).toNatClampNeg x2) 5 0 ((sA1 (sA1 g 3 0 (g.1 2 0).toNatClampNeg x1) 4 0 ((sA1 g 3 0 (g.1 2 0).toNatClampNeg x1).1 2 0).toNatClampNeg x2).1 2 0).toNatClampNeg x3) 2 0 (((sA1 (sA1 (sA1 g 3 0 (g.1 2 0).toNatClampNeg x1) 4 0 ((sA1 g 3 0 (g.1 2 0).toNatClampNeg x1).1 2 0).toNatClampNeg x2) 5 0 ((sA1 (sA1 g 3 0 (g.1 2 0).toNatClampNeg x1) 4 0 ((sA1 g 3 0 (g.1 2 0).toNatClampNeg x1).1 2 0).toNatClampNeg x2).1 2 0).toNatClampNeg x3).1 2 0) + 1), ((sS (sA1 (sA1 (sA1 g 3 0 (g.1 2 0).toNatClampNeg x1) 4 0 ((sA1 g 3 0 (g.1 2 0).toNatClampNeg x1).1 2 0).toNatClampNeg x2) 5 0 ((sA1 (sA1 g 3 0 (g.1 2 0).toNatClampNeg x1) 4 0 ((sA1 g 3 0 (g.1 2 0).toNatClampNeg x1).1 2 0).toNatClampNeg x2).1 2 0).toNatClampNeg x3) 2 0 (((sA1 (sA1 (sA1 g 3 0 (g.1 2 0).toNatClampNeg x1) 4 0 ((sA1 g 3 0 (g.1 2 0).toNatClampNeg x1).1 2 0).toNatClampNeg x2) 5 0 ((sA1 (sA1 g 3 0 (g.1 2 0).toNatClampNeg x1) 4 0 ((sA1 g 3 0 (g.1 2 0).toNatClampNeg x1).1 2 0).toNatClampNeg x2).1 2 0).toNatClampNeg x3).1 2 0) + 1)).1 2 0) - 1)) else none) else none) else none) else (some (g, (-4))))
def fX10_place (g : STt) (x1 : Int32) (x2 : Int32) (x3 : Int32) : Option (STt × Int32) :=
  if x1 < 0 then (some (g, (-1))) else (if 6 < x1 then (some (g, (-1))) else (if x3 < 0 then (some (g, (-1))) else (if x3 ≤ 5 then (if x2 < 0 then (some (g, (-2))) else (if x2 ≤ 9 then (bnd1 (fX4_size g) fun r_8 => (if r_8 < 10 then (bnd (fX4_add g x1 x2 x3) fun g_11 r_12 => (some (g_11, r_12))) else (some (g, (-4))))) else (some (g, (-2))))) else (some (g, (-1))))))
def fX0_bodyOf_l4c (K4 : (Int32 × Int32) → Option Int32) (g : STt) (l1 : Int32) (l2 : Int32) (l3 : Int32) : Option Int32 :=
  if 21 ≤ l3 then (some 0) else (if l2 < 0 then (some 0) else (if ((l2 * 3) + l1) < 0 then (some 0) else (if ((l2 * 3) + l1) < 21 then (if inB ((l2 * 3) + l1) 21 = true then (if (bodiesF ((l2 * 3) + l1).toNatClampNeg) = 0 then (bnd1 (fX4_aboveOf g l2) fun r_8 => (K4 (r_8, l3 + 1))) else (if inB ((l2 * 3) + l1) 21 = true then (some (bodiesF ((l2 * 3) + l1).toNatClampNeg)) else none)) else none) else (some 0))))
def fX0_bodyOf_l4 (g : STt) (l1 : Int32) (l2 : Int32) (l3 : Int32) : Option Int32 :=
  iterO (fun K z => fX0_bodyOf_l4c K g l1 z.1 z.2) fuelN (l2, l3)
def fX0_bodyOf (g : STt) (x0 : Int32) (x1 : Int32) : Option Int32 :=
  fX0_bodyOf_l4 g x1 x0 0
def FX0_answer (qX0_answer : STt → Int32 → Int32 → Int32 → Option (STt × Int32)) (qX0_run : STt → Int32 → Int32 → Int32 → Int32 → Option (STt × Int32)) (g : STt) (x1 : Int32) (x2 : Int32) (x3 : Int32) : Option (STt × Int32) :=
  if x1 = 10 then (some (g, x2 + (g.1 17 0))) else (if x1 = 11 then (bnd (qX0_run g (g.1 15 0) 0 x2 x3) fun g_4 r_5 => (some (g_4, r_5 - (g_4.1 16 0)))) else (if x1 = 12 then (bnd (qX0_run g (g.1 15 0) 1 x2 x3) fun g_5 r_6 => (some (g_5, r_6 * 2))) else (if x1 = 20 then (bnd (qX0_run g 0 1 x2 x3) fun g_6 r_7 => (some (g_6, r_7 ^^^ 6))) else (if x1 = 30 then (bnd (qX0_run g 0 0 (x2 * 3) x3) fun g_7 r_8 => (some (g_7, r_8))) else (if x1 = 40 then (bnd (qX0_run g 0 2 x2 x3) fun g_8 r_9 => (bnd (qX0_run g_8 (g_8.1 15 0) 1 1 x3) fun g_11 r_12 => (some (g_11, r_9 + r_12)))) else (if x1 = 50 then (bnd (qX0_run g 1 0 x2 x3) fun g_9 r_10 => (some (g_9, -r_10))) else (if x1 = 51 then (bnd (qX0_run g 1 1 (x2 + 1) x3) fun g_10 r_11 => (some (g_10, r_11))) else (if x1 = 60 then (bnd (qX0_run g 2 2 (x2 - (g.1 17 0)) x3) fun g_11 r_12 => (some (g_11, r_12))) else (if x1 = 70 then (bnd (qX0_run g 3 1 x2 x3) fun g_12 r_13 => (bnd (qX0_run g_12 3 0 2 x3) fun g_15 r_16 => (some (g_15, r_13 + r_16)))) else (if x1 = 71 then (bnd (qX0_run g 3 0 x2 x3) fun g_13 r_14 => (some (g_13, r_14 ^^^ (g_13.1 16 0)))) else (some (g, 0))))))))))))
def FX0_run (qX0_answer : STt → Int32 → Int32 → Int32 → Option (STt × Int32)) (qX0_run : STt → Int32 → Int32 → Int32 → Int32 → Option (STt × Int32)) (g : STt) (x1 : Int32) (x2 : Int32) (x3 : Int32) (x4 : Int32) : Option (STt × Int32) :=
  if x4 < 40 then (bnd1 (fX0_bodyOf g x1 x2) fun r_3 => (bnd (fX5_add (sS g 14 0 ((g.1 14 0) + 1)) 7 r_3) fun g_5 r_6 => (bnd (qX0_answer g_5 r_3 x3 (x4 + 1)) fun g_8 r_9 => (some (g_8, r_9))))) else (some (g, 0))
def RGX0_answer : Nat → (STt → Int32 → Int32 → Int32 → Option (STt × Int32)) × (STt → Int32 → Int32 → Int32 → Int32 → Option (STt × Int32))
  | 0 => (fun _ _ _ _ => none, fun _ _ _ _ _ => none)
  | n + 1 => (FX0_answer ((RGX0_answer n).1) ((RGX0_answer n).2), FX0_run ((RGX0_answer n).1) ((RGX0_answer n).2))
def fuelX0_answer : Nat := 40
def fX0_answer (n : Nat) (g : STt) (x1 : Int32) (x2 : Int32) (x3 : Int32) : Option (STt × Int32) := (RGX0_answer n).1 g x1 x2 x3
def fX0_run (n : Nat) (g : STt) (x1 : Int32) (x2 : Int32) (x3 : Int32) (x4 : Int32) : Option (STt × Int32) := (RGX0_answer n).2 g x1 x2 x3 x4
def fX0_ask (g : STt) (x1 : Int32) (x2 : Int32) (x3 : Int32) : Option (STt × Int32) :=
  bnd1 (fX5_clear g 7) fun g_2 => (bnd1 (fX4_has (sS g_2 14 0 0) x1) fun r_4 => (if r_4 = 0 then (some (sS g_2 14 0 0, 0)) else (if x2 < 0 then (some (sS g_2 14 0 0, 0)) else (if x2 ≤ 2 then (bnd1 (fX4_kindOf (sS g_2 14 0 0) x1) fun r_9 => (bnd1 (fX4_numberOf (sS (sS g_2 14 0 0) 15 0 r_9) x1) fun r_11 => (bnd (fX0_run fuelX0_answer (sS (sS (sS (sS g_2 14 0 0) 15 0 r_9) 16 0 r_11) 17 0 x1) ((sS (sS (sS (sS g_2 14 0 0) 15 0 r_9) 16 0 r_11) 17 0 x1).1 15 0) x2 x3 0) fun g_13 r_14 => (some (g_13, r_14))))) else (some (sS g_2 14 0 0, 0))))))
def fX10_part (g : STt) (x1 : Int32) (x2 : Int32) (x3 : Int32) : Option (STt × Int32) :=
  bnd (fX0_ask g x1 x2 x3) fun g_2 r_3 => (some (g_2, r_3))
def fX8_firstOtherwise_l7c (K7 : (STt × Int32) → Option (STt × Int32)) (l1 : Nat) (g : STt) (l2 : Int32) : Option (STt × Int32) :=
  bnd1 (fX5_size g 1) fun r_2 => (if r_2 ≤ l2 then (some (g, (-5))) else (bnd1 (fX5_size g 2) fun r_5 => (if r_5 ≤ l2 then (some (g, (-5))) else (bnd1 (fX5_get g 1 l2) fun r_8 => (bnd (fX9_step g l1 r_8 0) fun g_10 r_11 => (bnd1 (fX5_get g_10 2 l2) fun r_13 => (if r_11 = r_13 then (K7 (g_10, l2 + 1)) else (some (g_10, l2)))))))))
def fX8_firstOtherwise_l7 (l1 : Nat) (g : STt) (l2 : Int32) : Option (STt × Int32) :=
  iterO (fun K z => fX8_firstOtherwise_l7c K l1 z.1 z.2) fuelN (g, l2)
def fX8_firstOtherwise (g : STt) : Option (STt × Int32) :=
  bnd (fX8_begin g) fun g_2 r_3 => (if r_3 < 10 then (fX8_firstOtherwise_l7 r_3 g_2 0) else none)
def fX10_off (g : STt) : Option (STt × Int32) :=
  bnd (fX8_firstOtherwise g) fun g_2 r_3 => (some (g_2, r_3))
def fX10_of (g : STt) (x1 : Int32) (x2 : Int32) : Option Int32 :=
  bnd1 (fX4_has g x1) fun r_2 => (if r_2 = 0 then (some (-1)) else (if x2 = 0 then (bnd1 (fX4_kindOf g x1) fun r_6 => (some r_6)) else (if x2 = 1 then (bnd1 (fX4_numberOf g x1) fun r_7 => (some r_7)) else (if x2 = 2 then (bnd1 (fX4_thingOf g x1) fun r_8 => (some r_8)) else (some (-1))))))
def fX1_learnt_l4c (K4 : (Int32 × Int32) → Option Int32) (g : STt) (l0 : Nat) (l1 : Int32) (l2 : Int32) : Option Int32 :=
  if 6 < l2 then (some l1) else (if 15 ≤ l2 then (some l1) else (if inB l2 15 = true then (K4 (l1 + (g.2.1 22 l0 l2.toNatClampNeg), l2 + 1)) else none))
def fX1_learnt_l4 (g : STt) (l0 : Nat) (l1 : Int32) (l2 : Int32) : Option Int32 :=
  iterO (fun K z => fX1_learnt_l4c K g l0 z.1 z.2) fuelN (l1, l2)
def fX1_learnt (g : STt) (d0 : Nat) : Option Int32 :=
  fX1_learnt_l4 g d0 0 0
def fX1_tell (g : STt) (d0 : Nat) (x1 : Int32) : Option Int32 :=
  if x1 = 15 then (bnd1 (fX1_learnt g d0) fun r_3 => (some r_3)) else (bnd1 (fX1_get g d0 x1) fun r_3 => (some r_3))
def fX10_now_j10 (g : STt) : Option Int32 :=
  some (-1)
def fX10_now (g : STt) (x1 : Int32) : Option Int32 :=
  if x1 < 0 then (fX10_now_j10 g) else (if x1 ≤ 15 then (bnd1 (fX1_tell g 0 x1) fun r_4 => (some r_4)) else (fX10_now_j10 g))
def fX7_clear (g : STt) : Option STt :=
  bnd1 (fX5_clear g 0) fun g_2 => (some g_2)
def fX2_clear (g : STt) (d0 : Nat) : Option STt :=
  some (sS (sS g 23 d0 0) 24 d0 0)
def fX7_next (g : STt) (x1 : Int32) : Option (STt × Int32) :=
  bnd1 (fX5_get g 0 (g.1 6 0)) fun r_2 => (if r_2 = x1 then (some (sS g 6 0 ((g.1 6 0) + 1), 1)) else (some (g, 0)))
def fX2_addCode (g : STt) (d0 : Nat) (x1 : Int32) : Option STt :=
  if (g.1 24 d0) < 0 then (some g) else (if 100 ≤ (g.1 24 d0) then (some g) else (if inB (g.1 24 d0) 100 = true then (some (sS (sA1 g 28 d0 (g.1 24 d0).toNatClampNeg x1) 24 d0 (((sA1 g 28 d0 (g.1 24 d0).toNatClampNeg x1).1 24 d0) + 1))) else none))
def fX2_codeOf (g : STt) (x0 : Int32) (x1 : Int32) (x2 : Int32) : Option Int32 :=
  some (((x0 * 1000) + (x1 * 100)) + x2)
def fJ0_isLatin1_aae02 (g : STt) (d0 : Nat) : Option Int32 :=
  if (1 : Int32) = 0 then (some 0) else (if (0 : Int32) = 0 then (some 1) else (some 0))
def fJ0_coder_7d493 (g : STt) (d0 : Nat) : Option Int32 :=
  if (1 : Int32) = 0 then (some 1) else (some 0)
def fJ0_length_8abf5 (g : STt) (d0 : Nat) : Option Int32 :=
  bnd1 (fJ0_coder_7d493 g d0) fun r_2 => (some ((Int32.ofNat (sL_len.getD d0 0)) >>> (r_2 &&& 31)))
def fJ1_canEncode_9a6ad (g : STt) (x0 : Int32) : Option Int32 :=
  if x0 < 0 then (some 0) else (if 255 < x0 then (some 0) else (some 1))
def fJ1_indexOfChar_4cfef_l7c (K7 : Int32 → Option Int32) (g : STt) (l0 : Nat) (l3 : Int32) (l4 : Int32) (l5 : Int32) : Option Int32 :=
  if l3 ≤ l5 then (some (-1)) else (if inB l5 (sL_len.getD l0 0) = true then (if ((sL_byt.getD l0 []).getD l5.toNatClampNeg 0) = l4 then (some l5) else (K7 (l5 + 1))) else none)
def fJ1_indexOfChar_4cfef_l7 (g : STt) (l0 : Nat) (l3 : Int32) (l4 : Int32) (l5 : Int32) : Option Int32 :=
  iterO (fun K z => fJ1_indexOfChar_4cfef_l7c K g l0 l3 l4 z) fuelN (l5)
def fJ1_indexOfChar_4cfef (g : STt) (d0 : Nat) (x1 : Int32) (x2 : Int32) (x3 : Int32) : Option Int32 :=
  fJ1_indexOfChar_4cfef_l7 g d0 x3 x1.toInt8.toInt32 x2
def fJ1_indexOf_4cfef (g : STt) (d0 : Nat) (x1 : Int32) (x2 : Int32) (x3 : Int32) : Option Int32 :=
  bnd1 (fJ1_canEncode_9a6ad g x1) fun r_2 => (if r_2 = 0 then (some (-1)) else (if (if x2 < (0 : Int32) then (0 : Int32) else x2) < (if (Int32.ofNat (sL_len.getD d0 0)) < x3 then (Int32.ofNat (sL_len.getD d0 0)) else x3) then (bnd1 (fJ1_indexOfChar_4cfef g d0 x1 (if x2 < (0 : Int32) then (0 : Int32) else x2) (if (Int32.ofNat (sL_len.getD d0 0)) < x3 then (Int32.ofNat (sL_len.getD d0 0)) else x3)) fun r_6 => (some r_6)) else (some (-1))))
def fJ0_indexOf_7cf53 (g : STt) (d0 : Nat) (x1 : Int32) (x2 : Int32) : Option Int32 :=
  bnd1 (fJ0_isLatin1_aae02 g d0) fun r_2 => (if r_2 = 0 then (bnd1 (fJ0_length_8abf5 g d0) fun r_5 => (none)) else (bnd1 (fJ0_length_8abf5 g d0) fun r_5 => (bnd1 (fJ1_indexOf_4cfef g d0 x1 x2 r_5) fun r_7 => (some r_7))))
def fJ0_indexOf_0f7a4 (g : STt) (d0 : Nat) (x1 : Int32) : Option Int32 :=
  bnd1 (fJ0_indexOf_7cf53 g d0 x1 0) fun r_2 => (some r_2)
def fX7_placeIn (g : STt) (d1 : Nat) : Option Int32 :=
  bnd1 (fX5_get g 0 (g.1 6 0)) fun r_2 => (if 0 ≤ r_2 then (bnd1 (fJ0_indexOf_0f7a4 g d1 ((r_2.toUInt32 % 65536).toInt32)) fun r_5 => (some r_5)) else (some (-1)))
def fX7_readNumber_j50 (K4 : (STt × Int32 × Int32) → Option (STt × Int32)) (g : STt) (l2 : Int32) (s0 : Int32) : Option (STt × Int32) :=
  K4 ((sS g 6 0 ((g.1 6 0) + 1)), s0, l2 + 1)
def fX7_readNumber_l4c (K4 : (STt × Int32 × Int32) → Option (STt × Int32)) (g : STt) (l1 : Int32) (l2 : Int32) : Option (STt × Int32) :=
  if 2 ≤ l2 then (some (g, l1)) else (bnd1 (fX5_get g 0 (g.1 6 0)) fun r_3 => (if (r_3 - 48) < 0 then (some (g, l1)) else (if (r_3 - 48) ≤ 9 then (if l2 = 0 then (fX7_readNumber_j50 K4 g l2 (r_3 - 48)) else (fX7_readNumber_j50 K4 g l2 ((l1 * 10) + (r_3 - 48)))) else (some (g, l1)))))
def fX7_readNumber_l4 (g : STt) (l1 : Int32) (l2 : Int32) : Option (STt × Int32) :=
  iterO (fun K z => fX7_readNumber_l4c K z.1 z.2.1 z.2.2) fuelN (g, l1, l2)
def fX7_readNumber (g : STt) : Option (STt × Int32) :=
  fX7_readNumber_l4 g (-1) 0
def fX7_readTest (g : STt) (d1 : Nat) : Option (STt × Int32) :=
  bnd1 (fX7_placeIn g 7) fun r_2 => (if 0 ≤ r_2 then (bnd1 (fX7_placeIn (sS g 6 0 ((g.1 6 0) + 1)) 8) fun r_5 => (if 0 ≤ r_5 then (bnd (fX7_readNumber (sS (sS g 6 0 ((g.1 6 0) + 1)) 6 0 (((sS g 6 0 ((g.1 6 0) + 1)).1 6 0) + 1))) fun g_8 r_9 => (if 0 ≤ r_9 then (bnd1 (fX2_codeOf g_8 r_2 r_5 r_9) fun r_12 => (bnd1 (fX2_addCode g_8 d1 r_12) fun g_14 => (some (g_14, 1)))) else (some (g_8, 0)))) else (some (sS g 6 0 ((g.1 6 0) + 1), 0)))) else (some (g, 0)))
def fX7_readBoth_j52 (qX7_readBoth : STt → Nat → Int32 → Option (STt × Int32)) (qX7_readEither : STt → Nat → Int32 → Option (STt × Int32)) (qX7_readSingle : STt → Nat → Int32 → Option (STt × Int32)) (K5 : (STt × Int32 × Int32) → Option (STt × Int32)) (g : STt) (l1 : Nat) (l2 : Int32) (l4 : Int32) (s0 : Int32) : Option (STt × Int32) :=
  K5 (g, s0, l4 + 1)
def fX7_readBoth_j38 (qX7_readBoth : STt → Nat → Int32 → Option (STt × Int32)) (qX7_readEither : STt → Nat → Int32 → Option (STt × Int32)) (qX7_readSingle : STt → Nat → Int32 → Option (STt × Int32)) (K5 : (STt × Int32 × Int32) → Option (STt × Int32)) (g : STt) (l1 : Nat) (l2 : Int32) (l4 : Int32) : Option (STt × Int32) :=
  bnd (fX7_next g 38) fun g_2 r_3 => (if r_3 = 0 then (fX7_readBoth_j52 qX7_readBoth qX7_readEither qX7_readSingle K5 g_2 l1 l2 l4 1) else (fX7_readBoth_j52 qX7_readBoth qX7_readEither qX7_readSingle K5 g_2 l1 l2 l4 0))
def fX7_readBoth_l5c (qX7_readBoth : STt → Nat → Int32 → Option (STt × Int32)) (qX7_readEither : STt → Nat → Int32 → Option (STt × Int32)) (qX7_readSingle : STt → Nat → Int32 → Option (STt × Int32)) (K5 : (STt × Int32 × Int32) → Option (STt × Int32)) (l1 : Nat) (l2 : Int32) (g : STt) (l3 : Int32) (l4 : Int32) : Option (STt × Int32) :=
  if 100 ≤ l4 then (if vp_nar .boolean l3 = l3 then (some (g, l3)) else none) else (if l3 = 0 then (bnd (qX7_readSingle g l1 l2) fun g_4 r_5 => (if r_5 = 0 then (some (g_4, 0)) else (if l4 ≤ 0 then (fX7_readBoth_j38 qX7_readBoth qX7_readEither qX7_readSingle K5 g_4 l1 l2 l4) else (bnd1 (fX2_addCode g_4 l1 (-2)) fun g_9 => (fX7_readBoth_j38 qX7_readBoth qX7_readEither qX7_readSingle K5 g_9 l1 l2 l4))))) else (if vp_nar .boolean l3 = l3 then (some (g, l3)) else none))
def fX7_readBoth_l5 (qX7_readBoth : STt → Nat → Int32 → Option (STt × Int32)) (qX7_readEither : STt → Nat → Int32 → Option (STt × Int32)) (qX7_readSingle : STt → Nat → Int32 → Option (STt × Int32)) (l1 : Nat) (l2 : Int32) (g : STt) (l3 : Int32) (l4 : Int32) : Option (STt × Int32) :=
  iterO (fun K z => fX7_readBoth_l5c qX7_readBoth qX7_readEither qX7_readSingle K l1 l2 z.1 z.2.1 z.2.2) fuelN (g, l3, l4)
def FX7_readBoth (qX7_readBoth : STt → Nat → Int32 → Option (STt × Int32)) (qX7_readEither : STt → Nat → Int32 → Option (STt × Int32)) (qX7_readSingle : STt → Nat → Int32 → Option (STt × Int32)) (g : STt) (d1 : Nat) (x2 : Int32) : Option (STt × Int32) :=
  fX7_readBoth_l5 qX7_readBoth qX7_readEither qX7_readSingle d1 x2 g 0 0
def fX7_readEither_j52 (qX7_readBoth : STt → Nat → Int32 → Option (STt × Int32)) (qX7_readEither : STt → Nat → Int32 → Option (STt × Int32)) (qX7_readSingle : STt → Nat → Int32 → Option (STt × Int32)) (K5 : (STt × Int32 × Int32) → Option (STt × Int32)) (g : STt) (l1 : Nat) (l2 : Int32) (l4 : Int32) (s0 : Int32) : Option (STt × Int32) :=
  K5 (g, s0, l4 + 1)
def fX7_readEither_j38 (qX7_readBoth : STt → Nat → Int32 → Option (STt × Int32)) (qX7_readEither : STt → Nat → Int32 → Option (STt × Int32)) (qX7_readSingle : STt → Nat → Int32 → Option (STt × Int32)) (K5 : (STt × Int32 × Int32) → Option (STt × Int32)) (g : STt) (l1 : Nat) (l2 : Int32) (l4 : Int32) : Option (STt × Int32) :=
  bnd (fX7_next g 124) fun g_2 r_3 => (if r_3 = 0 then (fX7_readEither_j52 qX7_readBoth qX7_readEither qX7_readSingle K5 g_2 l1 l2 l4 1) else (fX7_readEither_j52 qX7_readBoth qX7_readEither qX7_readSingle K5 g_2 l1 l2 l4 0))
def fX7_readEither_l5c (qX7_readBoth : STt → Nat → Int32 → Option (STt × Int32)) (qX7_readEither : STt → Nat → Int32 → Option (STt × Int32)) (qX7_readSingle : STt → Nat → Int32 → Option (STt × Int32)) (K5 : (STt × Int32 × Int32) → Option (STt × Int32)) (l1 : Nat) (l2 : Int32) (g : STt) (l3 : Int32) (l4 : Int32) : Option (STt × Int32) :=
  if 100 ≤ l4 then (if vp_nar .boolean l3 = l3 then (some (g, l3)) else none) else (if l3 = 0 then (bnd (qX7_readBoth g l1 l2) fun g_4 r_5 => (if r_5 = 0 then (some (g_4, 0)) else (if l4 ≤ 0 then (fX7_readEither_j38 qX7_readBoth qX7_readEither qX7_readSingle K5 g_4 l1 l2 l4) else (bnd1 (fX2_addCode g_4 l1 (-3)) fun g_9 => (fX7_readEither_j38 qX7_readBoth qX7_readEither qX7_readSingle K5 g_9 l1 l2 l4))))) else (if vp_nar .boolean l3 = l3 then (some (g, l3)) else none))
def fX7_readEither_l5 (qX7_readBoth : STt → Nat → Int32 → Option (STt × Int32)) (qX7_readEither : STt → Nat → Int32 → Option (STt × Int32)) (qX7_readSingle : STt → Nat → Int32 → Option (STt × Int32)) (l1 : Nat) (l2 : Int32) (g : STt) (l3 : Int32) (l4 : Int32) : Option (STt × Int32) :=
  iterO (fun K z => fX7_readEither_l5c qX7_readBoth qX7_readEither qX7_readSingle K l1 l2 z.1 z.2.1 z.2.2) fuelN (g, l3, l4)
def FX7_readEither (qX7_readBoth : STt → Nat → Int32 → Option (STt × Int32)) (qX7_readEither : STt → Nat → Int32 → Option (STt × Int32)) (qX7_readSingle : STt → Nat → Int32 → Option (STt × Int32)) (g : STt) (d1 : Nat) (x2 : Int32) : Option (STt × Int32) :=
  fX7_readEither_l5 qX7_readBoth qX7_readEither qX7_readSingle d1 x2 g 0 0
def fX7_readSingle_l92c (qX7_readBoth : STt → Nat → Int32 → Option (STt × Int32)) (qX7_readEither : STt → Nat → Int32 → Option (STt × Int32)) (qX7_readSingle : STt → Nat → Int32 → Option (STt × Int32)) (K92 : (STt × Int32) → Option (STt × Int32)) (l1 : Nat) (l3 : Int32) (l5 : Int32) (g : STt) (l6 : Int32) : Option (STt × Int32) :=
  if l3 ≤ l6 then (if vp_nar .boolean l5 = l5 then (some (g, l5)) else none) else (if l5 = 0 then (if vp_nar .boolean l5 = l5 then (some (g, l5)) else none) else (bnd1 (fX2_addCode g l1 (-1)) fun g_4 => (K92 (g_4, l6 + 1))))
def fX7_readSingle_l92 (qX7_readBoth : STt → Nat → Int32 → Option (STt × Int32)) (qX7_readEither : STt → Nat → Int32 → Option (STt × Int32)) (qX7_readSingle : STt → Nat → Int32 → Option (STt × Int32)) (l1 : Nat) (l3 : Int32) (l5 : Int32) (g : STt) (l6 : Int32) : Option (STt × Int32) :=
  iterO (fun K z => fX7_readSingle_l92c qX7_readBoth qX7_readEither qX7_readSingle K l1 l3 l5 z.1 z.2) fuelN (g, l6)
def fX7_readSingle_j87 (qX7_readBoth : STt → Nat → Int32 → Option (STt × Int32)) (qX7_readEither : STt → Nat → Int32 → Option (STt × Int32)) (qX7_readSingle : STt → Nat → Int32 → Option (STt × Int32)) (g : STt) (l1 : Nat) (l3 : Int32) (s0 : Int32) : Option (STt × Int32) :=
  fX7_readSingle_l92 qX7_readBoth qX7_readEither qX7_readSingle l1 l3 s0 g 0
def fX7_readSingle_j78 (qX7_readBoth : STt → Nat → Int32 → Option (STt × Int32)) (qX7_readEither : STt → Nat → Int32 → Option (STt × Int32)) (qX7_readSingle : STt → Nat → Int32 → Option (STt × Int32)) (g : STt) (l1 : Nat) (l3 : Int32) : Option (STt × Int32) :=
  fX7_readSingle_j87 qX7_readBoth qX7_readEither qX7_readSingle g l1 l3 0
def fX7_readSingle_j45 (qX7_readBoth : STt → Nat → Int32 → Option (STt × Int32)) (qX7_readEither : STt → Nat → Int32 → Option (STt × Int32)) (qX7_readSingle : STt → Nat → Int32 → Option (STt × Int32)) (g : STt) (l1 : Nat) (l2 : Int32) (l3 : Int32) (s0 : Int32) : Option (STt × Int32) :=
  if s0 = 0 then (bnd (fX7_readTest g l1) fun g_3 r_4 => (fX7_readSingle_j87 qX7_readBoth qX7_readEither qX7_readSingle g_3 l1 l3 r_4)) else (bnd (qX7_readEither g l1 ((l2 + l3) + 1)) fun g_3 r_4 => (if r_4 = 0 then (fX7_readSingle_j78 qX7_readBoth qX7_readEither qX7_readSingle g_3 l1 l3) else (bnd (fX7_next g_3 41) fun g_7 r_8 => (if r_8 = 0 then (fX7_readSingle_j78 qX7_readBoth qX7_readEither qX7_readSingle g_7 l1 l3) else (fX7_readSingle_j87 qX7_readBoth qX7_readEither qX7_readSingle g_7 l1 l3 1)))))
def fX7_readSingle_j44 (qX7_readBoth : STt → Nat → Int32 → Option (STt × Int32)) (qX7_readEither : STt → Nat → Int32 → Option (STt × Int32)) (qX7_readSingle : STt → Nat → Int32 → Option (STt × Int32)) (g : STt) (l1 : Nat) (l2 : Int32) (l3 : Int32) : Option (STt × Int32) :=
  fX7_readSingle_j45 qX7_readBoth qX7_readEither qX7_readSingle g l1 l2 l3 0
def fX7_readSingle_j24 (qX7_readBoth : STt → Nat → Int32 → Option (STt × Int32)) (qX7_readEither : STt → Nat → Int32 → Option (STt × Int32)) (qX7_readSingle : STt → Nat → Int32 → Option (STt × Int32)) (g : STt) (l1 : Nat) (l2 : Int32) (l3 : Int32) : Option (STt × Int32) :=
  if 4 ≤ (l2 + l3) then (fX7_readSingle_j44 qX7_readBoth qX7_readEither qX7_readSingle g l1 l2 l3) else (bnd (fX7_next g 40) fun g_3 r_4 => (if r_4 = 0 then (fX7_readSingle_j44 qX7_readBoth qX7_readEither qX7_readSingle g_3 l1 l2 l3) else (fX7_readSingle_j45 qX7_readBoth qX7_readEither qX7_readSingle g_3 l1 l2 l3 1)))
def fX7_readSingle_l2c (qX7_readBoth : STt → Nat → Int32 → Option (STt × Int32)) (qX7_readEither : STt → Nat → Int32 → Option (STt × Int32)) (qX7_readSingle : STt → Nat → Int32 → Option (STt × Int32)) (K2 : (STt × Int32) → Option (STt × Int32)) (l1 : Nat) (l2 : Int32) (g : STt) (l3 : Int32) : Option (STt × Int32) :=
  if 4 ≤ (l2 + l3) then (fX7_readSingle_j24 qX7_readBoth qX7_readEither qX7_readSingle g l1 l2 l3) else (bnd (fX7_next g 33) fun g_3 r_4 => (if r_4 = 0 then (fX7_readSingle_j24 qX7_readBoth qX7_readEither qX7_readSingle g_3 l1 l2 l3) else (K2 (g_3, l3 + 1))))
def fX7_readSingle_l2 (qX7_readBoth : STt → Nat → Int32 → Option (STt × Int32)) (qX7_readEither : STt → Nat → Int32 → Option (STt × Int32)) (qX7_readSingle : STt → Nat → Int32 → Option (STt × Int32)) (l1 : Nat) (l2 : Int32) (g : STt) (l3 : Int32) : Option (STt × Int32) :=
  iterO (fun K z => fX7_readSingle_l2c qX7_readBoth qX7_readEither qX7_readSingle K l1 l2 z.1 z.2) fuelN (g, l3)
def FX7_readSingle (qX7_readBoth : STt → Nat → Int32 → Option (STt × Int32)) (qX7_readEither : STt → Nat → Int32 → Option (STt × Int32)) (qX7_readSingle : STt → Nat → Int32 → Option (STt × Int32)) (g : STt) (d1 : Nat) (x2 : Int32) : Option (STt × Int32) :=
  fX7_readSingle_l2 qX7_readBoth qX7_readEither qX7_readSingle d1 x2 g 0
def RGX7_readBoth : Nat → (STt → Nat → Int32 → Option (STt × Int32)) × (STt → Nat → Int32 → Option (STt × Int32)) × (STt → Nat → Int32 → Option (STt × Int32))
  | 0 => (fun _ _ _ => none, fun _ _ _ => none, fun _ _ _ => none)
  | n + 1 => (FX7_readBoth ((RGX7_readBoth n).1) ((RGX7_readBoth n).2.1) ((RGX7_readBoth n).2.2), FX7_readEither ((RGX7_readBoth n).1) ((RGX7_readBoth n).2.1) ((RGX7_readBoth n).2.2), FX7_readSingle ((RGX7_readBoth n).1) ((RGX7_readBoth n).2.1) ((RGX7_readBoth n).2.2))
def fuelX7_readBoth : Nat := 40
def fX7_readBoth (n : Nat) (g : STt) (d1 : Nat) (x2 : Int32) : Option (STt × Int32) := (RGX7_readBoth n).1 g d1 x2
def fX7_readEither (n : Nat) (g : STt) (d1 : Nat) (x2 : Int32) : Option (STt × Int32) := (RGX7_readBoth n).2.1 g d1 x2
def fX7_readSingle (n : Nat) (g : STt) (d1 : Nat) (x2 : Int32) : Option (STt × Int32) := (RGX7_readBoth n).2.2 g d1 x2
def fX2_beginClause (g : STt) (d0 : Nat) (x1 : Int32) (x2 : Int32) : Option STt :=
  if (g.1 23 d0) < 0 then (some g) else (if 10 ≤ (g.1 23 d0) then (some g) else (if inB (g.1 23 d0) 10 = true then (if inB ((sA1 g 25 d0 (g.1 23 d0).toNatClampNeg x1).1 23 d0) 10 = true then (if inB ((sA1 (sA1 g 25 d0 (g.1 23 d0).toNatClampNeg x1) 26 d0 ((sA1 g 25 d0 (g.1 23 d0).toNatClampNeg x1).1 23 d0).toNatClampNeg x2).1 23 d0) 10 = true then (some (sS (sA1 (sA1 (sA1 g 25 d0 (g.1 23 d0).toNatClampNeg x1) 26 d0 ((sA1 g 25 d0 (g.1 23 d0).toNatClampNeg x1).1 23 d0).toNatClampNeg x2) 27 d0 ((sA1 (sA1 g 25 d0 (g.1 23 d0).toNatClampNeg x1) 26 d0 ((sA1 g 25 d0 (g.1 23 d0).toNatClampNeg x1).1 23 d0).toNatClampNeg x2).1 23 d0).toNatClampNeg ((sA1 (sA1 g 25 d0 (g.1 23 d0).toNatClampNeg x1) 26 d0 ((sA1 g 25 d0 (g.1 23 d0).toNatClampNeg x1).1 23 d0).toNatClampNeg x2).1 24 d0)) 23 d0 (((sA1 (sA1 (sA1 g 25 d0 (g.1 23 d0).toNatClampNeg x1) 26 d0 ((sA1 g 25 d0 (g.1 23 d0).toNatClampNeg x1).1 23 d0).toNatClampNeg x2) 27 d0 ((sA1 (sA1 g 25 d0 (g.1 23 d0).toNatClampNeg x1) 26 d0 ((sA1 g 25 d0 (g.1 23 d0).toNatClampNeg x1).1 23 d0).toNatClampNeg x2).1 23 d0).toNatClampNeg ((sA1 (sA1 g 25 d0 (g.1 23 d0).toNatClampNeg x1) 26 d0 ((sA1 g 25 d0 (g.1 23 d0).toNatClampNeg x1).1 23 d0).toNatClampNeg x2).1 24 d0)).1 23 d0) + 1))) else none) else none) else none))
def fJ0_checkIndex_df160 (g : STt) (x0 : Int32) (x1 : Int32) : Option Unit :=
  if x0 < 0 then none else if x0 < x1 then some () else none
def fJ1_charAt_3b067 (g : STt) (d0 : Nat) (x1 : Int32) : Option Int32 :=
  bnd1 (fJ0_checkIndex_df160 g x1 (Int32.ofNat (sL_len.getD d0 0))) fun u_2 => (if inB x1 (sL_len.getD d0 0) = true then (if vp_nar .char (((((sL_byt.getD d0 []).getD x1.toNatClampNeg 0) &&& 255).toUInt32 % 65536).toInt32) = (((((sL_byt.getD d0 []).getD x1.toNatClampNeg 0) &&& 255).toUInt32 % 65536).toInt32) then (some (((((sL_byt.getD d0 []).getD x1.toNatClampNeg 0) &&& 255).toUInt32 % 65536).toInt32)) else none) else none)
def fJ0_charAt_5068e (g : STt) (d0 : Nat) (x1 : Int32) : Option Int32 :=
  bnd1 (fJ0_isLatin1_aae02 g d0) fun r_2 => (if r_2 = 0 then (none) else (bnd1 (fJ1_charAt_3b067 g d0 x1) fun r_5 => (if vp_nar .char r_5 = r_5 then (some r_5) else none)))
def fX7_wordOf (g : STt) (x0 : Int32) : Option Nat :=
  if x0 = 0 then (some 0) else (if x0 = 1 then (some 1) else (if x0 = 2 then (some 2) else (if x0 = 3 then (some 3) else (if x0 = 4 then (some 4) else (if x0 = 5 then (some 5) else (some 6))))))
def fX7_readWord_j56 (K4 : (Int32 × Int32) → Option (STt × Int32)) (g : STt) (l1 : Int32) (l2 : Int32) (l3 : Nat) (l4 : Int32) : Option (STt × Int32) :=
  bnd1 (fJ0_length_8abf5 g l3) fun r_2 => (if l4 = r_2 then (some (sS g 6 0 ((g.1 6 0) + l4), l2)) else (K4 ((if l1 < l4 then l4 else l1), l2 + 1)))
def fX7_readWord_l18c (K4 : (Int32 × Int32) → Option (STt × Int32)) (K18 : Int32 → Option (STt × Int32)) (g : STt) (l1 : Int32) (l2 : Int32) (l3 : Nat) (l4 : Int32) : Option (STt × Int32) :=
  bnd1 (fJ0_length_8abf5 g l3) fun r_2 => (if r_2 ≤ l4 then (fX7_readWord_j56 K4 g l1 l2 l3 l4) else (bnd1 (fX5_get g 0 ((g.1 6 0) + l4)) fun r_5 => (bnd1 (fJ0_charAt_5068e g l3 l4) fun r_7 => (if r_5 = r_7 then (K18 (l4 + 1)) else (fX7_readWord_j56 K4 g l1 l2 l3 l4)))))
def fX7_readWord_l18 (K4 : (Int32 × Int32) → Option (STt × Int32)) (g : STt) (l1 : Int32) (l2 : Int32) (l3 : Nat) (l4 : Int32) : Option (STt × Int32) :=
  iterO (fun K z => fX7_readWord_l18c K4 K g l1 l2 l3 z) fuelN (l4)
def fX7_readWord_l4c (K4 : (Int32 × Int32) → Option (STt × Int32)) (g : STt) (l1 : Int32) (l2 : Int32) : Option (STt × Int32) :=
  if 6 < l2 then (some (sS g 6 0 ((g.1 6 0) + l1), (-1))) else (bnd1 (fX7_wordOf g l2) fun r_3 => (if r_3 < 9 then (fX7_readWord_l18 K4 g l1 l2 r_3 0) else none))
def fX7_readWord_l4 (g : STt) (l1 : Int32) (l2 : Int32) : Option (STt × Int32) :=
  iterO (fun K z => fX7_readWord_l4c K g z.1 z.2) fuelN (l1, l2)
def fX7_readWord (g : STt) : Option (STt × Int32) :=
  fX7_readWord_l4 g 0 0
def fX7_readHead (g : STt) (d1 : Nat) : Option (STt × Int32) :=
  bnd (fX7_readWord g) fun g_2 r_3 => (if r_3 < 0 then (some (g_2, (-1))) else (bnd (fX7_next g_2 32) fun g_6 r_7 => (if r_7 = 0 then (some (g_6, (-1))) else (bnd (fX7_readNumber g_6) fun g_10 r_11 => (if 0 ≤ r_11 then (bnd1 (fX2_beginClause g_10 d1 r_3 r_11) fun g_14 => (some (g_14, r_3))) else (some (g_10, (-1))))))))
def fX7_readLaw_j103 (g : STt) : Option (STt × Int32) :=
  some (g, g.1 6 0)
def fX7_readLaw_j72 (K11 : (STt × Int32) → Option (STt × Int32)) (g : STt) (l1 : Nat) (l2 : Int32) : Option (STt × Int32) :=
  bnd1 (fX5_size g 0) fun r_2 => (if (g.1 6 0) = r_2 then (some (g, (-1))) else (if l2 = 10 then (fX7_readLaw_j103 g) else (bnd (fX7_next g 59) fun g_6 r_7 => (if r_7 = 0 then (fX7_readLaw_j103 g_6) else (K11 (g_6, l2 + 1))))))
def fX7_readLaw_j67 (g : STt) : Option (STt × Int32) :=
  some (g, g.1 6 0)
def fX7_readLaw_j42 (K11 : (STt × Int32) → Option (STt × Int32)) (g : STt) (l1 : Nat) (l2 : Int32) (s0 : Int32) : Option (STt × Int32) :=
  if s0 = 0 then (fX7_readLaw_j72 K11 g l1 l2) else (bnd (fX7_next g 32) fun g_3 r_4 => (if r_4 = 0 then (fX7_readLaw_j67 g_3) else (bnd (fX7_readEither fuelX7_readBoth g_3 l1 0) fun g_7 r_8 => (if r_8 = 0 then (fX7_readLaw_j67 g_7) else (fX7_readLaw_j72 K11 g_7 l1 l2)))))
def fX7_readLaw_l11c (K11 : (STt × Int32) → Option (STt × Int32)) (l1 : Nat) (g : STt) (l2 : Int32) : Option (STt × Int32) :=
  if 10 < l2 then (some (g, g.1 6 0)) else (bnd (fX7_readHead g l1) fun g_3 r_4 => (if 0 ≤ r_4 then (if 2 < r_4 then (fX7_readLaw_j42 K11 g_3 l1 l2 0) else (fX7_readLaw_j42 K11 g_3 l1 l2 1)) else (some (g_3, g_3.1 6 0))))
def fX7_readLaw_l11 (l1 : Nat) (g : STt) (l2 : Int32) : Option (STt × Int32) :=
  iterO (fun K z => fX7_readLaw_l11c K l1 z.1 z.2) fuelN (g, l2)
def fX7_readLaw (g : STt) (d1 : Nat) : Option (STt × Int32) :=
  bnd1 (fX2_clear (sS g 6 0 0) d1) fun g_2 => (fX7_readLaw_l11 d1 g_2 1)
def fX10_law_j32 (g : STt) (s0 : Option Nat) : Option (STt × Int32) :=
  ocase s0 (some (g, (-4))) (fun q0 => if q0 < 7 then (bnd (fX7_readLaw g q0) fun g_2 r_3 => (bnd1 (fX7_clear g_2) fun g_5 => (if r_3 < 0 then (bnd1 (fX9_obey (sS (sS g_5 19 0 (g_5.1 0 0)) 0 0 (((sS g_5 19 0 (g_5.1 0 0)).1 0 0) + 1)) q0) fun g_8 => (some (g_8, g_8.1 19 0))) else (some (g_5, (-10) - r_3))))) else none)
def fX10_law_j31 (g : STt) : Option (STt × Int32) :=
  fX10_law_j32 g none
def fX10_law (g : STt) : Option (STt × Int32) :=
  if (g.1 0 0) < 0 then (fX10_law_j31 g) else (if 6 ≤ (g.1 0 0) then (fX10_law_j31 g) else (if inB (g.1 0 0) 6 = true then (fX10_law_j32 g (some ((g.1 0 0).toNatClampNeg))) else none))
def fX8_firstMistold_j44 (g : STt) (l4 : Int32) : Option (STt × Int32) :=
  some (g, 100 + l4)
def fX8_firstMistold_l8c (K8 : (STt × Int32) → Option (STt × Int32)) (l1 : Nat) (l2 : Int32) (l3 : Nat) (g : STt) (l4 : Int32) : Option (STt × Int32) :=
  bnd1 (fX5_size g 1) fun r_2 => (if r_2 ≤ l4 then (some (g, (-5))) else (if l2 < 0 then (fX8_firstMistold_j44 g l4) else (if 60 < l2 then (fX8_firstMistold_j44 g l4) else (bnd1 (fX6_has g l1 (l2 + l4)) fun r_7 => (if r_7 = 0 then (fX8_firstMistold_j44 g l4) else (bnd1 (fX5_get g 1 l4) fun r_10 => (bnd (fX9_step g l3 r_10 0) fun g_12 r_13 => (bnd1 (fX6_get g_12 l1 (l2 + l4)) fun r_15 => (bnd1 (fX1_get g_12 l3 12) fun r_17 => (if (lg_cmp r_15 r_17.toInt64) = 0 then (K8 (g_12, l4 + 1)) else (some (g_12, l4))))))))))))
def fX8_firstMistold_l8 (l1 : Nat) (l2 : Int32) (l3 : Nat) (g : STt) (l4 : Int32) : Option (STt × Int32) :=
  iterO (fun K z => fX8_firstMistold_l8c K l1 l2 l3 z.1 z.2) fuelN (g, l4)
def fX8_firstMistold (g : STt) (d1 : Nat) (x2 : Int32) : Option (STt × Int32) :=
  bnd (fX8_begin g) fun g_2 r_3 => (if r_3 < 10 then (fX8_firstMistold_l8 d1 x2 r_3 g_2 0) else none)
def fX10_judge_j29 (g : STt) (l2 : Int32) (l3 : Nat) : Option (STt × Int32) :=
  bnd (fX8_firstMistold g l3 l2) fun g_2 r_3 => (some (g_2, r_3))
def fX10_judge (g : STt) (x1 : Int32) (x2 : Int32) : Option (STt × Int32) :=
  bnd1 (fX10_tapeOf g x1) fun r_2 => (ocase r_2 (some (g, (-1))) (fun q_4 => if q_4 < 6 then (bnd1 (fX6_holdsSomething g q_4) fun r_6 => (if r_6 = 0 then (fX10_judge_j29 g x2 q_4) else (bnd1 (fX6_sort g q_4) fun r_9 => (if r_9 = 0 then (fX10_judge_j29 g x2 q_4) else (some (g, (-12))))))) else none))
def fX6_cut (g : STt) (d0 : Nat) (x1 : Int64) : Option Int64 :=
  if (g.1 29 d0) = 0 then (some x1.toInt32.toInt8.toInt32.toInt64) else (if (g.1 29 d0) = 1 then (some x1.toInt32.toInt16.toInt32.toInt64) else (if (g.1 29 d0) = 2 then (some x1.toInt32.toInt64) else (if (g.1 29 d0) = 3 then (some x1) else (if (g.1 29 d0) = 4 then (if (lg_cmp x1 0) = 0 then (some 0) else (some 1)) else (some x1)))))
def fX6_put (g : STt) (d0 : Nat) (x1 : Int32) (x2 : Int64) : Option STt :=
  bnd1 (fX6_has g d0 x1) fun r_2 => (if r_2 = 0 then (some g) else (bnd1 (fX6_cut g d0 x2) fun r_5 => (if inB x1 60 = true then (some (sL1 g 31 d0 x1.toNatClampNeg r_5)) else none)))
def fX10_item (g : STt) (x1 : Int32) (x2 : Int32) (x3 : Int64) : Option (STt × Int32) :=
  bnd1 (fX10_tapeOf g x1) fun r_2 => (ocase r_2 (some (g, (-1))) (fun q_4 => if q_4 < 6 then (bnd1 (fX6_holdsSomething g q_4) fun r_6 => (if r_6 = 0 then (some (g, (-11))) else (bnd1 (fX6_has g q_4 x2) fun r_9 => (if r_9 = 0 then (some (g, (-13))) else (bnd1 (fX6_put g q_4 x2 x3) fun g_12 => (some (g_12, 1))))))) else none))
def fX10_image (g : STt) : Option (STt × Int32) :=
  bnd1 (fX3_become g 1 0) fun g_2 => (bnd1 (fX1_get (sS g_2 1 0 1) 0 12) fun r_4 => (some (sS g_2 1 0 1, r_4)))
def fX8_doRow_l2c (K2 : (STt × Int32) → Option STt) (l1 : Nat) (l2 : Int32) (g : STt) (l3 : Int32) : Option STt :=
  if l2 ≤ l3 then (some g) else (bnd1 (fX5_size g 1) fun r_3 => (if r_3 ≤ l3 then (some g) else (bnd1 (fX5_get g 1 l3) fun r_6 => (bnd (fX9_step g l1 r_6 0) fun g_8 r_9 => (K2 (g_8, l3 + 1))))))
def fX8_doRow_l2 (l1 : Nat) (l2 : Int32) (g : STt) (l3 : Int32) : Option STt :=
  iterO (fun K z => fX8_doRow_l2c K l1 l2 z.1 z.2) fuelN (g, l3)
def fX8_doRow (g : STt) (d1 : Nat) (x2 : Int32) : Option STt :=
  fX8_doRow_l2 d1 x2 g 0
def fX8_byHand (g : STt) (x1 : Int32) : Option (STt × Nat) :=
  bnd (fX8_begin g) fun g_2 r_3 => (if r_3 < 10 then (bnd1 (fX8_doRow g_2 r_3 x1) fun g_6 => (some (g_6, r_3))) else none)
def fX10_hand (g : STt) (x1 : Int32) (x2 : Int32) : Option (STt × Int32) :=
  if x2 < 0 then (some (g, (-1))) else (if x2 ≤ 15 then (if x1 < 0 then (some (g, (-2))) else (bnd1 (fX5_size g 1) fun r_5 => (if x1 ≤ r_5 then (bnd (fX8_byHand g x1) fun g_8 r_9 => (if r_9 < 10 then (bnd1 (fX1_tell g_8 r_9 x2) fun r_12 => (some (g_8, r_12))) else none)) else (some (g, (-2)))))) else (some (g, (-1))))
def fX10_go (g : STt) (x1 : Int32) : Option (STt × Int32) :=
  bnd1 (fX10_isAct g x1) fun r_2 => (if r_2 = 0 then (some (g, (-1))) else (bnd1 (fX1_get g 0 14) fun r_5 => (bnd1 (fX9_halfMinutesOf g x1) fun r_7 => (if (r_5 + r_7) ≤ 9999 then (bnd (fX9_step g 0 x1 0) fun g_10 r_11 => (some (g_10, r_11))) else (some (g, (-3)))))))
def fX8_keepGentler_j35 (g : STt) (l2 : Int32) (l3 : Int32) : Option STt :=
  bnd1 (fX8_keepTried (sS g 10 0 l3) l2) fun g_2 => (some g_2)
def fX8_keepGentler (g : STt) (d1 : Nat) (x2 : Int32) : Option STt :=
  bnd1 (fX1_learnt g d1) fun r_2 => (bnd1 (fX1_get g d1 12) fun r_4 => (if r_4 < (g.1 11 0) then (some g) else (if (g.1 9 0) = (-5) then (fX8_keepGentler_j35 g x2 r_2) else (if (g.1 10 0) ≤ r_2 then (some g) else (fX8_keepGentler_j35 g x2 r_2)))))
def fX8_tryGentler_j37 (qX8_tryGentler : STt → Int32 → Int32 → Option STt) (qX8_tryGentlerWith : STt → Int32 → Int32 → Int32 → Option STt) (K18 : (STt × Int32) → Option STt) (g : STt) (l1 : Int32) (l2 : Int32) (l3 : Int32) : Option STt :=
  K18 (g, l3 + 1)
def fX8_tryGentler_l18c (qX8_tryGentler : STt → Int32 → Int32 → Option STt) (qX8_tryGentlerWith : STt → Int32 → Int32 → Int32 → Option STt) (K18 : (STt × Int32) → Option STt) (l1 : Int32) (l2 : Int32) (g : STt) (l3 : Int32) : Option STt :=
  if 7 < l3 then (some g) else (if l3 = 6 then (fX8_tryGentler_j37 qX8_tryGentler qX8_tryGentlerWith K18 g l1 l2 l3) else (bnd1 (qX8_tryGentlerWith g l1 l2 l3) fun g_4 => (fX8_tryGentler_j37 qX8_tryGentler qX8_tryGentlerWith K18 g_4 l1 l2 l3)))
def fX8_tryGentler_l18 (qX8_tryGentler : STt → Int32 → Int32 → Option STt) (qX8_tryGentlerWith : STt → Int32 → Int32 → Int32 → Option STt) (l1 : Int32) (l2 : Int32) (g : STt) (l3 : Int32) : Option STt :=
  iterO (fun K z => fX8_tryGentler_l18c qX8_tryGentler qX8_tryGentlerWith K l1 l2 z.1 z.2) fuelN (g, l3)
def FX8_tryGentler (qX8_tryGentler : STt → Int32 → Int32 → Option STt) (qX8_tryGentlerWith : STt → Int32 → Int32 → Int32 → Option STt) (g : STt) (x1 : Int32) (x2 : Int32) : Option STt :=
  if x1 < x2 then (fX8_tryGentler_l18 qX8_tryGentler qX8_tryGentlerWith x1 x2 g 0) else (bnd1 (fX8_stage g x1) fun r_3 => (if r_3 < 10 then (bnd1 (fX8_keepGentler g r_3 x2) fun g_6 => (some g_6)) else none))
def FX8_tryGentlerWith (qX8_tryGentler : STt → Int32 → Int32 → Option STt) (qX8_tryGentlerWith : STt → Int32 → Int32 → Int32 → Option STt) (g : STt) (x1 : Int32) (x2 : Int32) (x3 : Int32) : Option STt :=
  if x1 < 0 then (some g) else (if x1 < 4 then (bnd (fX8_stageAfter g x1) fun g_4 r_5 => (if r_5 < 10 then (bnd (fX9_step g_4 r_5 x3 0) fun g_8 r_9 => (if inB x1 4 = true then (bnd1 (qX8_tryGentler (sA1 g_8 12 0 x1.toNatClampNeg x3) (x1 + 1) x2) fun g_12 => (some g_12)) else none)) else none)) else (some g))
def RGX8_tryGentler : Nat → (STt → Int32 → Int32 → Option STt) × (STt → Int32 → Int32 → Int32 → Option STt)
  | 0 => (fun _ _ _ => none, fun _ _ _ _ => none)
  | n + 1 => (FX8_tryGentler ((RGX8_tryGentler n).1) ((RGX8_tryGentler n).2), FX8_tryGentlerWith ((RGX8_tryGentler n).1) ((RGX8_tryGentler n).2))
def fuelX8_tryGentler : Nat := 20
def fX8_tryGentler (n : Nat) (g : STt) (x1 : Int32) (x2 : Int32) : Option STt := (RGX8_tryGentler n).1 g x1 x2
def fX8_tryGentlerWith (n : Nat) (g : STt) (x1 : Int32) (x2 : Int32) (x3 : Int32) : Option STt := (RGX8_tryGentler n).2 g x1 x2 x3
def fX8_findGentlest (g : STt) (x1 : Int32) : Option (STt × Int32) :=
  bnd (fX8_begin g) fun g_2 r_3 => (if r_3 < 10 then (bnd1 (fX8_tryGentler fuelX8_tryGentler (sS g_2 9 0 (-5)) 0 x1) fun g_6 => (if (g_6.1 9 0) = (-5) then (some (g_6, (-5))) else (some (g_6, g_6.1 10 0)))) else none)
def fX10_gentlest (g : STt) (x1 : Int32) (x2 : Int32) : Option (STt × Int32) :=
  if x1 < 1 then (some (g, (-2))) else (if x1 ≤ 4 then (if x2 < (-1) then (some (g, (-1))) else (if x2 < x1 then (bnd1 (fX10_isOver g) fun r_6 => (if r_6 = 0 then (bnd (fX8_findGentlest g x1) fun g_9 r_10 => (if x2 = (-1) then (some (g_9, r_10)) else (bnd1 (fX8_found g_9 x2) fun r_13 => (some (g_9, r_13))))) else (some (g, (-3))))) else (some (g, (-1))))) else (some (g, (-2))))
def fX10_film (g : STt) (x1 : Int32) : Option (STt × Int32) :=
  if x1 < (-1) then (some (g, (-1))) else (if x1 ≤ 3 then (bnd (fX10_addOrClear g 2 x1) fun g_4 r_5 => (some (g_4, r_5))) else (some (g, (-1))))
def fX7_add (g : STt) (x1 : Int32) : Option (STt × Int32) :=
  bnd (fX5_add g 0 x1) fun g_2 r_3 => (if vp_nar .boolean r_3 = r_3 then (some (g_2, r_3)) else none)
def fX7_size (g : STt) : Option Int32 :=
  bnd1 (fX5_size g 0) fun r_2 => (some r_2)
def fX10_feed (g : STt) (x1 : Int32) : Option (STt × Int32) :=
  if x1 < 0 then (some (g, (-2))) else (if x1 ≤ 127 then (bnd (fX7_add g x1) fun g_4 r_5 => (if r_5 = 0 then (some (g_4, (-4))) else (bnd1 (fX7_size g_4) fun r_8 => (some (g_4, r_8))))) else (some (g, (-2))))
def fX10_drive (g : STt) (x1 : Int32) : Option (STt × Int32) :=
  bnd1 (fX10_isAct g x1) fun r_2 => (if r_2 = 0 then (some (g, (-100001))) else (bnd1 (fX10_isOver g) fun r_5 => (if r_5 = 0 then (bnd (fX9_weigh g 0 x1) fun g_8 r_9 => (some (g_8, r_9))) else (some (g, (-100003))))))
def fX8_afterDays_l7c (K7 : (STt × Int32) → Option (STt × Nat)) (l1 : Int32) (l2 : Nat) (g : STt) (l3 : Int32) : Option (STt × Nat) :=
  if l1 ≤ l3 then (some (g, l2)) else (if 99 ≤ l3 then (some (g, l2)) else (bnd1 (fX1_put g l2 12 0) fun g_4 => (bnd1 (fX1_put g_4 l2 9 0) fun g_6 => (bnd1 (fX1_put g_6 l2 13 0) fun g_8 => (bnd1 (fX8_doRow g_8 l2 12) fun g_10 => (K7 (g_10, l3 + 1)))))))
def fX8_afterDays_l7 (l1 : Int32) (l2 : Nat) (g : STt) (l3 : Int32) : Option (STt × Nat) :=
  iterO (fun K z => fX8_afterDays_l7c K l1 l2 z.1 z.2) fuelN (g, l3)
def fX8_afterDays (g : STt) (x1 : Int32) : Option (STt × Nat) :=
  bnd (fX8_begin g) fun g_2 r_3 => (if r_3 < 10 then (fX8_afterDays_l7 x1 r_3 g_2 0) else none)
def fX10_days (g : STt) (x1 : Int32) (x2 : Int32) : Option (STt × Int32) :=
  if x2 < 0 then (some (g, (-1))) else (if x2 ≤ 2 then (if x1 < 0 then (some (g, (-2))) else (if x1 ≤ 99 then (bnd (fX8_afterDays g x1) fun g_6 r_7 => (if r_7 < 10 then (if x2 = 0 then (bnd1 (fX1_learnt g_6 r_7) fun r_11 => (some (g_6, r_11))) else (if x2 = 1 then (bnd1 (fX1_get g_6 r_7 6) fun r_12 => (some (g_6, r_12))) else (bnd1 (fX1_get g_6 r_7 12) fun r_12 => (some (g_6, r_12))))) else none)) else (some (g, (-2))))) else (some (g, (-1))))
def fX0_ran (g : STt) : Option Int32 :=
  some (g.1 14 0)
def fX10_count (g : STt) (x1 : Int32) : Option Int32 :=
  if x1 = 0 then (bnd1 (fX4_size g) fun r_3 => (some r_3)) else (if x1 = 1 then (some (g.1 0 0)) else (if x1 = 2 then (bnd1 (fX5_size g 1) fun r_5 => (some r_5)) else (if x1 = 3 then (bnd1 (fX5_size g 2) fun r_6 => (some r_6)) else (if x1 = 4 then (bnd1 (fX5_size g 3) fun r_7 => (some r_7)) else (if x1 = 5 then (bnd1 (fX7_size g) fun r_8 => (some r_8)) else (if x1 = 6 then (bnd1 (fX0_ran g) fun r_9 => (some r_9)) else (some (-2))))))))
def fX10_beast_j11 (g : STt) : Option (STt × Int32) :=
  some (g, (-2))
def fX10_beast (g : STt) (x1 : Int32) : Option (STt × Int32) :=
  if x1 < (-1) then (fX10_beast_j11 g) else (if x1 ≤ 99 then (bnd (fX10_addOrClear g 3 x1) fun g_4 r_5 => (some (g_4, r_5))) else (fX10_beast_j11 g))
