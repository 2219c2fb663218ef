def f_J6_bitCount_0f7a4 (S : Mm) (x0 : Int32) : Option (Int32 × Mm) :=
  nm ((x0 - ((x0.toUInt32 >>> ((1 : Int32).toUInt32 &&& Int32.toUInt32 31)).toInt32 &&& 1431655765))) (fun v1 =>
nm (((v1 &&& 858993459) + ((v1.toUInt32 >>> ((2 : Int32).toUInt32 &&& Int32.toUInt32 31)).toInt32 &&& 858993459))) (fun v3 =>
nm (((v3 + (v3.toUInt32 >>> ((4 : Int32).toUInt32 &&& Int32.toUInt32 31)).toInt32) &&& 252645135)) (fun v5 =>
nm ((v5 + (v5.toUInt32 >>> ((8 : Int32).toUInt32 &&& Int32.toUInt32 31)).toInt32)) (fun v7 =>
nm ((v7 + (v7.toUInt32 >>> ((16 : Int32).toUInt32 &&& Int32.toUInt32 31)).toInt32)) (fun v9 =>
some ((v9 &&& 63), S))))))
def f_X0_begin (S : Mm)  : Option (Unit × Mm) :=
  nm (sJ S 158 0 10000000000) (fun S1 =>
nm (sJ S1 158 1 0) (fun S3 =>
nm (sJ S3 158 2 0) (fun S5 =>
some ((), S5))))
def f_X0_lookBehind (S : Mm) (x1 : Int32) (x2 : Int32) (x3 : Int32) : Option (Unit × Mm) :=
  nm (sJ S 158 2 (((gJ S 158 2) + (((gJ S 158 0) + (gJ S 158 1)) * x2.toInt64)))) (fun S1 =>
bnd (inB x1 5) (nm (sJ S1 159 x1.toNatClampNeg ((((gJ S1 158 1) / 10) * (10 - x3).toInt64))) (fun S4 =>
bnd (inB x1 5) (
nm (sJ S4 158 1 (((gJ S4 158 1) - (gJ S4 159 x1.toNatClampNeg)))) (fun S7 =>
some ((), S7))))))
def f_X0_thinShares_2   : Nat → Int32 → Int32 → Int32 → Mm → Option (Unit × Mm)
  | 0, _, _, _, _ => none
  | n + 1, x1, x2, x3, S => if x1 < x3 then (some ((), S)) else (bnd (inB x3 5) (
bnd (inB x3 5) (nm (sJ S 160 x3.toNatClampNeg ((((gJ S 160 x3.toNatClampNeg) / 10) * x2.toInt64))) (fun S4 =>
nm (x3 + 1) (fun v6 =>
f_X0_thinShares_2 n x1 x2 v6 S4)))))
def f_X0_thinShares (S : Mm) (x1 : Int32) (x2 : Int32) : Option (Unit × Mm) :=
  f_X0_thinShares_2 400 x1 x2 0 S
def f_X0_work (S : Mm) (x1 : Int32) (x2 : Int32) (x3 : Int32) : Option (Unit × Mm) :=
  nm (sJ S 158 2 (((gJ S 158 2) + (((gJ S 158 0) + (gJ S 158 1)) * x2.toInt64)))) (fun S1 =>
bnd (inB x1 5) (nm (sJ S1 160 x1.toNatClampNeg ((((gJ S1 158 0) / 10) * x3.toInt64))) (fun S4 =>
bnd (inB x1 5) (
nm (sJ S4 158 0 (((gJ S4 158 0) - (gJ S4 160 x1.toNatClampNeg)))) (fun S7 =>
bnd (inB x1 5) (
nm (sJ S7 158 1 (((gJ S7 158 1) + (gJ S7 160 x1.toNatClampNeg)))) (fun S10 =>
some ((), S10))))))))
def f_X0_through_7  (a1 : Nat) (a2 : Nat) (a3 : Nat) : Nat → Int32 → Int32 → Mm → Option (Unit × Mm)
  | 0, _, _, _ => none
  | n + 1, x4, x5, S => if (gI S a1 0) ≤ x5 then (nm (sJ S 158 2 (((gJ S 158 2) + ((gJ S 158 1) * (gI S a1 1).toInt64)))) (fun S2 =>
some ((), S2))) else (bnd (inB x5 (LL a3)) (
nm ((gI S a3 x5.toNatClampNeg)) (fun v5 =>
bnd (inB v5 5) (
bnd (inB v5 5) (
bd (f_X0_work S x5 ((gI S (a1 + 1) v5.toNatClampNeg)) ((gI S (a2 + 2) v5.toNatClampNeg))) (fun r9 S10 =>
bnd (inB x5 5) (nm (sJ S10 159 x5.toNatClampNeg 0) (fun S13 =>
if ((x4 >>> (v5 &&& 31)) &&& 1) = 1 then (bnd (inB v5 5) (
bnd (inB v5 5) (
bd (f_X0_lookBehind S13 x5 ((gI S13 (a1 + 3) v5.toNatClampNeg)) ((gI S13 (a1 + 4) v5.toNatClampNeg))) (fun r20 S21 =>
nm (x5 + 1) (fun v23 =>
f_X0_through_7 a1 a2 a3 n x4 v23 S21))))) else (nm (x5 + 1) (fun v16 =>
f_X0_through_7 a1 a2 a3 n x4 v16 S13))))))))))
def f_X0_through (S : Mm) (a1 : Nat) (a2 : Nat) (a3 : Nat) (x4 : Int32) : Option (Unit × Mm) :=
  bd (f_X0_begin S) (fun r1 S2 =>
f_X0_through_7 a1 a2 a3 400 x4 0 S2)
def f_X0_upTo_7  (a2 : Nat) (a3 : Nat) : Nat → Int32 → Int32 → Mm → Option (Unit × Mm)
  | 0, _, _, _ => none
  | n + 1, x1, x4, S => if x1 < x4 then (some ((), S)) else (if (gI S a2 0) ≤ x4 then (some ((), S)) else (bnd (inB x4 5) (
nm ((gI S (a3 + 1) x4.toNatClampNeg)) (fun v4 =>
bnd (inB v4 5) (
bnd (inB v4 5) (
bd (f_X0_work S x4 ((gI S (a2 + 1) v4.toNatClampNeg)) ((gI S (a3 + 2) v4.toNatClampNeg))) (fun r8 S9 =>
if x1 ≤ x4 then (nm (x4 + 1) (fun v12 =>
f_X0_upTo_7 a2 a3 n x1 v12 S9)) else (if (((gI S9 a3 3) >>> (v4 &&& 31)) &&& 1) = 1 then (bnd (inB v4 5) (
bnd (inB v4 5) (
bd (f_X0_lookBehind S9 x4 ((gI S9 (a2 + 3) v4.toNatClampNeg)) ((gI S9 (a2 + 4) v4.toNatClampNeg))) (fun r19 S20 =>
bnd (inB v4 5) (
bd (f_X0_thinShares S20 x4 ((gI S20 (a2 + 4) v4.toNatClampNeg))) (fun r23 S24 =>
nm (x4 + 1) (fun v26 =>
f_X0_upTo_7 a2 a3 n x1 v26 S24))))))) else (nm (x4 + 1) (fun v15 =>
f_X0_upTo_7 a2 a3 n x1 v15 S9))))))))))
def f_X0_upTo (S : Mm) (x1 : Int32) (a2 : Nat) (a3 : Nat) : Option (Unit × Mm) :=
  bd (f_X0_begin S) (fun r1 S2 =>
f_X0_upTo_7 a2 a3 400 x1 0 S2)
def f_X1_become (S : Mm) (o : Nat) (a1 : Nat) : Option (Unit × Mm) :=
  bnd (decide (¬ (0 : Int32) < 0 ∧ ¬ (0 : Int32) < 0 ∧ ¬ (5 : Int32) < 0 ∧ (0 : Int32).toNatClampNeg + (5 : Int32).toNatClampNeg ≤ LL (a1 + 1) ∧ (0 : Int32).toNatClampNeg + (5 : Int32).toNatClampNeg ≤ LL (o + 1))) (nm (cpI S (a1 + 1) (0 : Int32).toNatClampNeg (o + 1) (0 : Int32).toNatClampNeg (5 : Int32).toNatClampNeg) (fun S2 =>
bnd (decide (¬ (0 : Int32) < 0 ∧ ¬ (0 : Int32) < 0 ∧ ¬ (5 : Int32) < 0 ∧ (0 : Int32).toNatClampNeg + (5 : Int32).toNatClampNeg ≤ LL (a1 + 2) ∧ (0 : Int32).toNatClampNeg + (5 : Int32).toNatClampNeg ≤ LL (o + 2))) (nm (cpI S2 (a1 + 2) (0 : Int32).toNatClampNeg (o + 2) (0 : Int32).toNatClampNeg (5 : Int32).toNatClampNeg) (fun S5 =>
bnd (decide (¬ (0 : Int32) < 0 ∧ ¬ (0 : Int32) < 0 ∧ ¬ (5 : Int32) < 0 ∧ (0 : Int32).toNatClampNeg + (5 : Int32).toNatClampNeg ≤ LL (a1 + 3) ∧ (0 : Int32).toNatClampNeg + (5 : Int32).toNatClampNeg ≤ LL (o + 3))) (nm (cpI S5 (a1 + 3) (0 : Int32).toNatClampNeg (o + 3) (0 : Int32).toNatClampNeg (5 : Int32).toNatClampNeg) (fun S8 =>
nm (sI S8 o 3 ((gI S8 a1 3))) (fun S10 =>
nm (sI S10 o 4 ((gI S10 a1 4))) (fun S12 =>
nm (sI S12 o 5 ((gI S12 a1 5))) (fun S14 =>
nm (sI S14 o 6 ((gI S14 a1 6))) (fun S16 =>
nm (sI S16 o 7 ((gI S16 a1 7))) (fun S18 =>
some ((), S18))))))))))))
def f_X2_fate (S : Mm)  : Option (Int32 × Mm) :=
  if (gI S 157 2) = (-1) then (if (gI S 157 1) = 0 then (some (0, S)) else (some (1, S))) else (some (2, S))
def f_X1_enter (S : Mm) (o : Nat) (x2 : Int32) : Option (Unit × Mm) :=
  nm (sI S o 4 (((gI S o 4) + 1))) (fun S1 =>
nm (sI S1 o 7 (((gI S1 o 7) + (gI S1 157 0)))) (fun S3 =>
bd (f_X2_fate S3) (fun r5 S6 =>
if r5 = 2 then (bnd (inB (gI S6 157 2) 5) (
bnd (inB (gI S6 157 2) 5) (nm (sI S6 (o + 3) (gI S6 157 2).toNatClampNeg (((gI S6 (o + 3) (gI S6 157 2).toNatClampNeg) + 1))) (fun S18 =>
some ((), S18))))) else (nm (sI S6 o 5 (((gI S6 o 5) + 1))) (fun S9 =>
if (gI S9 157 1) = 0 then (some ((), S9)) else (nm (sI S9 o 6 (((gI S9 o 6) + 1))) (fun S12 =>
nm (sI S12 o 7 (((gI S12 o 7) + x2))) (fun S14 =>
some ((), S14)))))))))
def f_X1_open_2  (o : Nat) (a1 : Nat) : Nat → Int32 → Mm → Option (Unit × Mm)
  | 0, _, _ => none
  | n + 1, x2, S => if 5 ≤ x2 then (nm (sI S o 3 0) (fun S2 =>
nm (sI S2 o 4 0) (fun S4 =>
nm (sI S4 o 5 0) (fun S6 =>
nm (sI S6 o 6 0) (fun S8 =>
nm (sI S8 o 7 0) (fun S10 =>
some ((), S10))))))) else (bnd (inB x2 5) (nm (sI S (o + 1) x2.toNatClampNeg x2) (fun S13 =>
bnd (inB x2 5) (
bnd (inB x2 5) (nm (sI S13 (o + 2) x2.toNatClampNeg ((gI S13 (a1 + 2) x2.toNatClampNeg))) (fun S17 =>
bnd (inB x2 5) (nm (sI S17 (o + 3) x2.toNatClampNeg 0) (fun S20 =>
nm (x2 + 1) (fun v22 =>
f_X1_open_2 o a1 n v22 S20)))))))))
def f_X1_open (S : Mm) (o : Nat) (a1 : Nat) : Option (Unit × Mm) :=
  f_X1_open_2 o a1 400 0 S
def f_X1_placeOf_2  (o : Nat) : Nat → Int32 → Int32 → Int32 → Mm → Option (Int32 × Mm)
  | 0, _, _, _, _ => none
  | n + 1, x1, x2, x3, S => if x2 ≤ x3 then (some ((-1), S)) else (bnd (inB x3 5) (
if (gI S (o + 1) x3.toNatClampNeg) = x1 then (some (x3, S)) else (nm (x3 + 1) (fun v4 =>
f_X1_placeOf_2 o n x1 x2 v4 S))))
def f_X1_placeOf (S : Mm) (o : Nat) (x1 : Int32) (x2 : Int32) : Option (Int32 × Mm) :=
  f_X1_placeOf_2 o 400 x1 x2 0 S
def f_X2_draw (S : Mm) (x0 : Int32) (x1 : Int32) : Option (Int32 × Mm) :=
  nm ((((7919 * x0.toInt64) + (6151 * x1.toInt64)) + 1)) (fun v1 =>
some (((((v1 * v1) - (v1 * v1) / 65521 * 65521) / 8) - (((v1 * v1) - (v1 * v1) / 65521 * 65521) / 8) / 10 * 10).toInt32, S))
def f_X2_go_93 (kk18 : Int32 → Int32 → Int32 → Mm → Option (Unit × Mm)) (a1 : Nat) (a2 : Nat) (x3 : Int32) (x4 : Int32) (x5 : Int32) (x6 : Int32) (S : Mm) : Option (Unit × Mm) :=
  if ((x3 >>> (x6 &&& 31)) &&& 1) = 1 then (bnd (inB x6 5) (
nm (sI S 157 0 (((gI S 157 0) + (gI S (a1 + 3) x6.toNatClampNeg)))) (fun S5 =>
if (gI S5 157 1) = 0 then (nm (x5 + 1) (fun v8 =>
kk18 x3 x4 v8 S5)) else (bd (f_X2_draw S5 x4 ((x6 + 5))) (fun r10 S11 =>
bnd (inB x6 5) (
if r10 < (gI S11 (a1 + 4) x6.toNatClampNeg) then (nm (x5 + 1) (fun v15 =>
kk18 x3 x4 v15 S11)) else (nm (sI S11 157 2 x6) (fun S17 =>
nm (x5 + 1) (fun v19 =>
kk18 x3 x4 v19 S17))))))))) else (nm (x5 + 1) (fun v2 =>
kk18 x3 x4 v2 S))
def f_X2_go_18  (a1 : Nat) (a2 : Nat) : Nat → Int32 → Int32 → Int32 → Mm → Option (Unit × Mm)
  | 0, _, _, _, _ => none
  | n + 1, x3, x4, x5, S => if (gI S a1 0) ≤ x5 then (some ((), S)) else (if (gI S 157 2) = (-1) then (bnd (inB x5 5) (
nm ((gI S (a2 + 1) x5.toNatClampNeg)) (fun v4 =>
bnd (inB v4 5) (
nm (sI S 157 0 (((gI S 157 0) + (gI S (a1 + 1) v4.toNatClampNeg)))) (fun S7 =>
if (gI S7 157 1) = 0 then (bd (f_X2_draw S7 x4 v4) (fun r12 S13 =>
bnd (inB v4 5) (
if (gI S13 (a2 + 2) v4.toNatClampNeg) ≤ r12 then (nm (sI S13 157 1 0) (fun S17 =>
f_X2_go_93 (f_X2_go_18 a1 a2 n) a1 a2 x3 x4 x5 v4 S17)) else (nm (sI S13 157 1 1) (fun S19 =>
f_X2_go_93 (f_X2_go_18 a1 a2 n) a1 a2 x3 x4 x5 v4 S19))))) else (nm (sI S7 157 1 1) (fun S10 =>
f_X2_go_93 (f_X2_go_18 a1 a2 n) a1 a2 x3 x4 x5 v4 S10))))))) else (some ((), S)))
def f_X2_go (S : Mm) (a1 : Nat) (a2 : Nat) (x3 : Int32) (x4 : Int32) : Option (Unit × Mm) :=
  nm (sI S 157 0 0) (fun S1 =>
nm (sI S1 157 1 0) (fun S3 =>
nm (sI S3 157 2 ((-1))) (fun S5 =>
f_X2_go_18 a1 a2 400 x3 x4 0 S5)))
def f_X3_become_13  (o : Nat) (a1 : Nat) : Nat → Int32 → Mm → Option (Unit × Mm)
  | 0, _, _ => none
  | n + 1, x2, S => if 10 ≤ x2 then (nm (sI S o 2 ((gI S a1 2))) (fun S2 =>
nm (sI S2 o 3 ((gI S2 a1 3))) (fun S4 =>
some ((), S4)))) else (bnd (inB x2 10) (
bnd (inB x2 10) (
bd (f_X1_become S ((o + 5) + 1 + 4 * x2.toNatClampNeg) ((a1 + 5) + 1 + 4 * x2.toNatClampNeg)) (fun r10 S11 =>
nm (x2 + 1) (fun v13 =>
f_X3_become_13 o a1 n v13 S11)))))
def f_X3_become (S : Mm) (o : Nat) (a1 : Nat) : Option (Unit × Mm) :=
  bd (f_X1_become S (o + 1) (a1 + 1)) (fun r1 S2 =>
f_X3_become_13 o a1 400 0 S2)
def f_X3_open (S : Mm) (o : Nat) (a1 : Nat) : Option (Unit × Mm) :=
  bd (f_X1_open S (o + 1) a1) (fun r1 S2 =>
nm (sI S2 o 2 0) (fun S4 =>
nm (sI S4 o 3 0) (fun S6 =>
some ((), S6))))
def f_X3_remember (S : Mm) (o : Nat) : Option (Unit × Mm) :=
  bnd (inB (gI S o 2) 10) (
bd (f_X1_become S ((o + 5) + 1 + 4 * (gI S o 2).toNatClampNeg) (o + 1)) (fun r3 S4 =>
nm (sI S4 o 2 ((((gI S4 o 2) + 1) - ((gI S4 o 2) + 1) / 10 * 10))) (fun S6 =>
nm (sI S6 o 3 ((if 10 < ((gI S6 o 3) + 1) then 10 else ((gI S6 o 3) + 1)))) (fun S8 =>
some ((), S8)))))
def f_X3_restore (S : Mm) (o : Nat) : Option (Int32 × Mm) :=
  if (gI S o 3) = 0 then (some (0, S)) else (nm (sI S o 2 (((((gI S o 2) + 10) - 1) - (((gI S o 2) + 10) - 1) / 10 * 10))) (fun S2 =>
bnd (inB (gI S2 o 2) 10) (
bd (f_X1_become S2 (o + 1) ((o + 5) + 1 + 4 * (gI S2 o 2).toNatClampNeg)) (fun r6 S7 =>
nm (sI S7 o 3 (((gI S7 o 3) - 1))) (fun S9 =>
some (1, S9))))))
def f_X4_allows_4  (o : Nat) (a1 : Nat) : Nat → Int32 → Int32 → Mm → Option (Int32 × Mm)
  | 0, _, _, _ => none
  | n + 1, x2, x3, S => if (gI S o 0) ≤ x3 then (some (1, S)) else (bnd (inB x3 (LL a1)) (
bnd (inB (gI S a1 x3.toNatClampNeg) 5) (
if ((gI S (o + 5) (gI S a1 x3.toNatClampNeg).toNatClampNeg) &&& x2) = 0 then (bnd (inB x3 (LL a1)) (
nm ((x2 ||| (1 <<< ((gI S a1 x3.toNatClampNeg) &&& 31)))) (fun v6 =>
nm (x3 + 1) (fun v8 =>
f_X4_allows_4 o a1 n v6 v8 S)))) else (some (0, S)))))
def f_X4_allows (S : Mm) (o : Nat) (a1 : Nat) : Option (Int32 × Mm) :=
  f_X4_allows_4 o a1 400 0 0 S
def f_X4_empty (S : Mm) (o : Nat) : Option (Unit × Mm) :=
  nm (sI S o 0 0) (fun S1 =>
nm (sI S1 o 1 50) (fun S3 =>
some ((), S3)))
def f_X4_mustLead (S : Mm) (o : Nat) (x1 : Int32) (x2 : Int32) : Option (Int32 × Mm) :=
  bnd (inB x1 5) (
if (((gI S (o + 5) x1.toNatClampNeg) >>> (x2 &&& 31)) &&& 1) = 1 then (some (1, S)) else (some (0, S)))
def f_X5_add (S : Mm) (x1 : Int32) : Option (Int32 × Mm) :=
  if (gI S 1 1) < 150 then (bnd (inB (gI S 1 1) 150) (nm (sI S 2 (gI S 1 1).toNatClampNeg x1) (fun S3 =>
nm (sI S3 1 1 (((gI S3 1 1) + 1))) (fun S5 =>
some (1, S5))))) else (some (0, S))
def f_X5_isDigit (S : Mm) (x0 : Int32) : Option (Int32 × Mm) :=
  if x0 < 48 then (some (0, S)) else (if 57 < x0 then (some (0, S)) else (some (1, S)))
def f_X5_isLetter (S : Mm) (x0 : Int32) : Option (Int32 × Mm) :=
  if x0 < 97 then (some (0, S)) else (if 122 < x0 then (some (0, S)) else (some (1, S)))
def f_X5_takeLetters_28   : Nat → Mm → Option (Unit × Mm)
  | 0, _ => none
  | n + 1, S => if (gI S 1 1) ≤ (gI S 1 3) then (some ((), S)) else (bnd (inB (gI S 1 3) 150) (
bd (f_X5_isLetter S ((gI S 2 (gI S 1 3).toNatClampNeg))) (fun r3 S4 =>
if r3 = 0 then (some ((), S4)) else (nm (sI S4 1 5 0) (fun S7 =>
nm (sI S7 1 3 (((gI S7 1 3) + 1))) (fun S9 =>
f_X5_takeLetters_28 n S9))))))
def f_X5_takeLetters (S : Mm)  : Option (Unit × Mm) :=
  nm (sI S 1 4 1) (fun S1 =>
bnd (inB (gI S1 1 3) 150) (
nm (sI S1 1 5 ((gI S1 2 (gI S1 1 3).toNatClampNeg))) (fun S4 =>
nm (sI S4 1 3 (((gI S4 1 3) + 1))) (fun S6 =>
f_X5_takeLetters_28 400 S6))))
def f_X5_takeNumber_116   (x1 : Int32) (x2 : Int32) (S : Mm) : Option (Unit × Mm) :=
  if 99 < (gI S 1 5) then (nm (sI S 1 4 4) (fun S2 =>
some ((), S2))) else (if x1 = 0 then (nm (sI S 1 4 2) (fun S5 =>
some ((), S5))) else (if x2 = 0 then (nm (sI S 1 4 2) (fun S8 =>
some ((), S8))) else (nm (sI S 1 4 4) (fun S10 =>
some ((), S10)))))
def f_X5_takeNumber_97   (x1 : Int32) (S : Mm) : Option (Unit × Mm) :=
  if ((gI S 1 3) - (gI S 1 2)) ≤ 1 then (f_X5_takeNumber_116 x1 0 S) else (f_X5_takeNumber_116 x1 1 S)
def f_X5_takeNumber_25   : Nat → Int32 → Mm → Option (Unit × Mm)
  | 0, _, _ => none
  | n + 1, x1, S => if (gI S 1 1) ≤ (gI S 1 3) then (f_X5_takeNumber_97 x1 S) else (bnd (inB (gI S 1 3) 150) (
bd (f_X5_isDigit S ((gI S 2 (gI S 1 3).toNatClampNeg))) (fun r3 S4 =>
if r3 = 0 then (f_X5_takeNumber_97 x1 S4) else (if 99 < (gI S4 1 5) then (nm (sI S4 1 3 (((gI S4 1 3) + 1))) (fun S8 =>
f_X5_takeNumber_25 n x1 S8)) else (bnd (inB (gI S4 1 3) 150) (
nm (sI S4 1 5 (((((gI S4 1 5) * 10) + (gI S4 2 (gI S4 1 3).toNatClampNeg)) - 48))) (fun S11 =>
nm (sI S11 1 3 (((gI S11 1 3) + 1))) (fun S13 =>
f_X5_takeNumber_25 n x1 S13))))))))
def f_X5_takeNumber (S : Mm)  : Option (Unit × Mm) :=
  bnd (inB (gI S 1 3) 150) (
if (gI S 2 (gI S 1 3).toNatClampNeg) = 48 then (nm (sI S 1 5 0) (fun S5 =>
f_X5_takeNumber_25 400 1 S5)) else (nm (sI S 1 5 0) (fun S3 =>
f_X5_takeNumber_25 400 0 S3)))
def f_X5_readToken_38    (S : Mm) : Option (Unit × Mm) :=
  nm (sI S 1 2 ((gI S 1 3))) (fun S1 =>
if (gI S1 1 3) < (gI S1 1 1) then (bnd (inB (gI S1 1 3) 150) (
bd (f_X5_isLetter S1 ((gI S1 2 (gI S1 1 3).toNatClampNeg))) (fun r5 S6 =>
if r5 = 0 then (bnd (inB (gI S6 1 3) 150) (
bd (f_X5_isDigit S6 ((gI S6 2 (gI S6 1 3).toNatClampNeg))) (fun r10 S11 =>
if r10 = 0 then (bnd (inB (gI S11 1 3) 150) (
if (gI S11 2 (gI S11 1 3).toNatClampNeg) = 59 then (nm (sI S11 1 4 3) (fun S20 =>
nm (sI S20 1 3 (((gI S20 1 3) + 1))) (fun S22 =>
some ((), S22)))) else (nm (sI S11 1 4 4) (fun S16 =>
nm (sI S16 1 3 (((gI S16 1 3) + 1))) (fun S18 =>
some ((), S18)))))) else (bd (f_X5_takeNumber S11) (fun r24 S25 =>
some ((), S25)))))) else (bd (f_X5_takeLetters S6) (fun r27 S28 =>
some ((), S28)))))) else (nm (sI S1 1 4 0) (fun S30 =>
some ((), S30))))
def f_X5_readToken_0   : Nat → Mm → Option (Unit × Mm)
  | 0, _ => none
  | n + 1, S => if (gI S 1 1) ≤ (gI S 1 3) then (f_X5_readToken_38 S) else (bnd (inB (gI S 1 3) 150) (
if (gI S 2 (gI S 1 3).toNatClampNeg) = 32 then (nm (sI S 1 3 (((gI S 1 3) + 1))) (fun S4 =>
f_X5_readToken_0 n S4)) else (f_X5_readToken_38 S)))
def f_X5_readToken (S : Mm)  : Option (Unit × Mm) :=
  f_X5_readToken_0 400 S
def f_X5_readNumber (S : Mm) (x1 : Int32) (x2 : Int32) : Option (Int32 × Mm) :=
  bd (f_X5_readToken S) (fun r1 S2 =>
if (gI S2 1 4) = 2 then (if (gI S2 1 5) < x1 then (some (0, S2)) else (if x2 < (gI S2 1 5) then (some (0, S2)) else (some (1, S2)))) else (some (0, S2)))
def f_X5_readAhead (S : Mm) (a1 : Nat) : Option (Int32 × Mm) :=
  bd (f_X5_readNumber S 0 (((gI S a1 0) - 1))) (fun r1 S2 =>
if r1 = 0 then (some (0, S2)) else (nm ((gI S2 1 5)) (fun v5 =>
bd (f_X5_readNumber S2 ((v5 + 1)) (((gI S2 a1 0) - 1))) (fun r7 S8 =>
if r7 = 0 then (some (0, S8)) else (bnd (inB v5 5) (
bnd (inB v5 5) (nm (sI S8 (a1 + 5) v5.toNatClampNeg (((gI S8 (a1 + 5) v5.toNatClampNeg) ||| (1 <<< ((gI S8 1 5) &&& 31))))) (fun S13 =>
some (1, S13)))))))))
def f_X5_readEnd (S : Mm)  : Option (Int32 × Mm) :=
  bd (f_X5_readToken S) (fun r1 S2 =>
if (gI S2 1 4) = 3 then (some (1, S2)) else (some (0, S2)))
def f_X5_readStep (S : Mm) (a1 : Nat) : Option (Int32 × Mm) :=
  nm ((gI S a1 0)) (fun v1 =>
bd (f_X5_readNumber S 1 99) (fun r3 S4 =>
if r3 = 0 then (some (0, S4)) else (bnd (inB v1 5) (nm (sI S4 (a1 + 1) v1.toNatClampNeg ((gI S4 1 5))) (fun S8 =>
bd (f_X5_readNumber S8 0 9) (fun r10 S11 =>
if r10 = 0 then (some (0, S11)) else (bnd (inB v1 5) (nm (sI S11 (a1 + 2) v1.toNatClampNeg ((gI S11 1 5))) (fun S15 =>
bd (f_X5_readNumber S15 1 30) (fun r17 S18 =>
if r17 = 0 then (some (0, S18)) else (bnd (inB v1 5) (nm (sI S18 (a1 + 3) v1.toNatClampNeg ((gI S18 1 5))) (fun S22 =>
bd (f_X5_readNumber S22 0 9) (fun r24 S25 =>
if r24 = 0 then (some (0, S25)) else (bnd (inB v1 5) (nm (sI S25 (a1 + 4) v1.toNatClampNeg ((gI S25 1 5))) (fun S29 =>
bnd (inB v1 5) (nm (sI S29 (a1 + 5) v1.toNatClampNeg 0) (fun S32 =>
nm (sI S32 a1 0 (((gI S32 a1 0) + 1))) (fun S34 =>
some (1, S34)))))))))))))))))))))
def f_X5_readPrice (S : Mm) (a1 : Nat) : Option (Int32 × Mm) :=
  bd (f_X5_readNumber S 0 99) (fun r1 S2 =>
if r1 = 0 then (some (0, S2)) else (nm (sI S2 a1 1 ((gI S2 1 5))) (fun S5 =>
nm (sI S5 1 6 1) (fun S7 =>
some (1, S7)))))
def f_X5_readInto_142 (kk12 : Int32 → Mm → Option (Int32 × Mm)) (a1 : Nat) (x2 : Int32) (x3 : Int32) (S : Mm) : Option (Int32 × Mm) :=
  if x3 = 0 then (some ((-1), S)) else (bd (f_X5_readEnd S) (fun r2 S3 =>
if r2 = 0 then (some ((-1), S3)) else (nm (x2 + 1) (fun v6 =>
kk12 v6 S3))))
def f_X5_readInto_106 (kk12 : Int32 → Mm → Option (Int32 × Mm)) (a1 : Nat) (x2 : Int32) (x3 : Int32) (S : Mm) : Option (Int32 × Mm) :=
  f_X5_readInto_142 kk12 a1 x2 x3 S
def f_X5_readInto_104 (kk12 : Int32 → Mm → Option (Int32 × Mm)) (a1 : Nat) (x2 : Int32) (S : Mm) : Option (Int32 × Mm) :=
  f_X5_readInto_106 kk12 a1 x2 0 S
def f_X5_readInto_139 (kk12 : Int32 → Mm → Option (Int32 × Mm)) (a1 : Nat) (x2 : Int32) (x3 : Int32) (S : Mm) : Option (Int32 × Mm) :=
  f_X5_readInto_142 kk12 a1 x2 x3 S
def f_X5_readInto_137 (kk12 : Int32 → Mm → Option (Int32 × Mm)) (a1 : Nat) (x2 : Int32) (S : Mm) : Option (Int32 × Mm) :=
  f_X5_readInto_139 kk12 a1 x2 0 S
def f_X5_readInto_12  (a1 : Nat) : Nat → Int32 → Mm → Option (Int32 × Mm)
  | 0, _, _ => none
  | n + 1, x2, S => if 150 < x2 then (some ((-1), S)) else (bd (f_X5_readToken S) (fun r2 S3 =>
if (gI S3 1 4) = 0 then (some (x2, S3)) else (if (gI S3 1 4) = 1 then (if (gI S3 1 5) = 104 then (bd (f_X5_readAhead S3 a1) (fun r8 S9 =>
f_X5_readInto_142 (f_X5_readInto_12 a1 n) a1 x2 r8 S9)) else (if (gI S3 1 5) = 112 then (if (gI S3 1 6) = 0 then (bd (f_X5_readPrice S3 a1) (fun r13 S14 =>
if r13 = 0 then (f_X5_readInto_137 (f_X5_readInto_12 a1 n) a1 x2 S14) else (f_X5_readInto_139 (f_X5_readInto_12 a1 n) a1 x2 1 S14))) else (f_X5_readInto_137 (f_X5_readInto_12 a1 n) a1 x2 S3)) else (if (gI S3 1 5) = 115 then (if 5 ≤ (gI S3 a1 0) then (f_X5_readInto_104 (f_X5_readInto_12 a1 n) a1 x2 S3) else (bd (f_X5_readStep S3 a1) (fun r19 S20 =>
if r19 = 0 then (f_X5_readInto_104 (f_X5_readInto_12 a1 n) a1 x2 S20) else (f_X5_readInto_106 (f_X5_readInto_12 a1 n) a1 x2 1 S20)))) else (f_X5_readInto_142 (f_X5_readInto_12 a1 n) a1 x2 0 S3)))) else (f_X5_readInto_142 (f_X5_readInto_12 a1 n) a1 x2 0 S3))))
def f_X5_readInto (S : Mm) (a1 : Nat) : Option (Int32 × Mm) :=
  nm (sI S 1 3 0) (fun S1 =>
nm (sI S1 1 6 0) (fun S3 =>
f_X5_readInto_12 a1 400 0 S3))
def f_X6_swap (S : Mm) (a0 : Nat) (x1 : Int32) (x2 : Int32) : Option (Unit × Mm) :=
  bnd (inB x1 (LL a0)) (
nm ((gI S a0 x1.toNatClampNeg)) (fun v2 =>
bnd (inB x2 (LL a0)) (
bnd (inB x1 (LL a0)) (nm (sI S a0 x1.toNatClampNeg ((gI S a0 x2.toNatClampNeg))) (fun S6 =>
bnd (inB x2 (LL a0)) (nm (sI S6 a0 x2.toNatClampNeg v2) (fun S9 =>
some ((), S9))))))))
def f_X6_advance_71  (a0 : Nat) : Nat → Int32 → Int32 → Mm → Option (Int32 × Mm)
  | 0, _, _, _ => none
  | n + 1, x4, x5, S => if x5 ≤ x4 then (some (1, S)) else (bd (f_X6_swap S a0 x4 x5) (fun r2 S3 =>
nm (x4 + 1) (fun v5 =>
nm (x5 + (-1)) (fun v7 =>
f_X6_advance_71 a0 n v5 v7 S3))))
def f_X6_advance_55  (a0 : Nat) (x1 : Int32) (x2 : Int32) (x3 : Int32) (S : Mm) : Option (Int32 × Mm) :=
  bd (f_X6_swap S a0 x2 x3) (fun r1 S2 =>
nm ((x2 + 1)) (fun v4 =>
nm ((x1 - 1)) (fun v6 =>
f_X6_advance_71 a0 400 v4 v6 S2)))
def f_X6_advance_35  (a0 : Nat) : Nat → Int32 → Int32 → Int32 → Mm → Option (Int32 × Mm)
  | 0, _, _, _, _ => none
  | n + 1, x1, x2, x3, S => if x3 ≤ x2 then (f_X6_advance_55 a0 x1 x2 x3 S) else (bnd (inB x3 (LL a0)) (
bnd (inB x2 (LL a0)) (
if (gI S a0 x2.toNatClampNeg) ≤ (gI S a0 x3.toNatClampNeg) then (f_X6_advance_55 a0 x1 x2 x3 S) else (nm (x3 + (-1)) (fun v5 =>
f_X6_advance_35 a0 n x1 x2 v5 S)))))
def f_X6_advance_25  (a0 : Nat) (x1 : Int32) (x2 : Int32) (S : Mm) : Option (Int32 × Mm) :=
  if 0 ≤ x2 then (nm ((x1 - 1)) (fun v2 =>
f_X6_advance_35 a0 400 x1 x2 v2 S)) else (some (0, S))
def f_X6_advance_4  (a0 : Nat) : Nat → Int32 → Int32 → Mm → Option (Int32 × Mm)
  | 0, _, _, _ => none
  | n + 1, x1, x2, S => if x2 < 0 then (f_X6_advance_25 a0 x1 x2 S) else (bnd (inB x2 (LL a0)) (
bnd (inB (x2 + 1) (LL a0)) (
if (gI S a0 x2.toNatClampNeg) ≤ (gI S a0 (x2 + 1).toNatClampNeg) then (f_X6_advance_25 a0 x1 x2 S) else (nm (x2 + (-1)) (fun v5 =>
f_X6_advance_4 a0 n x1 v5 S)))))
def f_X6_advance (S : Mm) (a0 : Nat) (x1 : Int32) : Option (Int32 × Mm) :=
  nm ((x1 - 2)) (fun v1 =>
f_X6_advance_4 a0 400 x1 v1 S)
def f_X6_isImage (S : Mm) (x0 : Int32) : Option (Int32 × Mm) :=
  if x0 < 0 then (some (0, S)) else (if 2 ≤ x0 then (some (0, S)) else (some (1, S)))
def f_X6_back (S : Mm) (x1 : Int32) : Option (Int32 × Mm) :=
  bd (f_X6_isImage S x1) (fun r1 S2 =>
if r1 = 0 then (some ((-1), S2)) else (bnd (inB x1 2) (
if (gI S2 154 x1.toNatClampNeg) = 0 then (some ((-2), S2)) else (bnd (inB x1 2) (
bd (f_X3_become S2 15 (61 + 1 + 46 * x1.toNatClampNeg)) (fun r9 S10 =>
some ((gI S10 16 4), S10)))))))
def f_X6_bestLooks_9   : Nat → Int32 → Int64 → Int32 → Mm → Option (Int32 × Mm)
  | 0, _, _, _, _ => none
  | n + 1, x1, x2, x4, S => if (1 <<< ((gI S (pl S) 0) &&& 31)) ≤ x4 then (some (x1, S)) else (bd (f_X0_through S (pl S) 16 17 x4) (fun r4 S5 =>
if 0 ≤ (lg_cmp (gJ S5 158 2) x2) then (nm (x4 + 1) (fun v8 =>
f_X6_bestLooks_9 n x1 x2 v8 S5)) else (nm ((gJ S5 158 2)) (fun v10 =>
nm (x4 + 1) (fun v12 =>
f_X6_bestLooks_9 n x4 v10 v12 S5)))))
def f_X6_bestLooks (S : Mm)  : Option (Int32 × Mm) :=
  f_X6_bestLooks_9 400 0 10000000000000 0 S
def f_X6_isStep (S : Mm) (x1 : Int32) : Option (Int32 × Mm) :=
  if x1 < 0 then (some (0, S)) else (if (gI S (pl S) 0) ≤ x1 then (some (0, S)) else (some (1, S)))
def f_X6_findLeastOrder_124 (kk32 : Int64 → Int32 → Mm → Option (Unit × Mm))  (x1 : Int64) (x3 : Int32) (S : Mm) : Option (Unit × Mm) :=
  bd (f_X6_advance S 161 ((gI S (pl S) 0))) (fun r2 S3 =>
if r2 = 0 then (some ((), S3)) else (nm (x3 + 1) (fun v6 =>
kk32 x1 v6 S3)))
def f_X6_findLeastOrder_32   : Nat → Int64 → Int32 → Mm → Option (Unit × Mm)
  | 0, _, _, _ => none
  | n + 1, x1, x3, S => if 120 ≤ x3 then (some ((), S)) else (bd (f_X4_allows S (pl S) 161) (fun r3 S4 =>
if r3 = 0 then (f_X6_findLeastOrder_124 (f_X6_findLeastOrder_32 n) x1 x3 S4) else (bd (f_X0_through S4 (pl S4) 16 161 ((gI S4 16 3))) (fun r8 S9 =>
if 0 ≤ (lg_cmp (gJ S9 158 2) x1) then (f_X6_findLeastOrder_124 (f_X6_findLeastOrder_32 n) x1 x3 S9) else (nm ((gJ S9 158 2)) (fun v12 =>
bnd (decide (¬ (0 : Int32) < 0 ∧ ¬ (0 : Int32) < 0 ∧ ¬ (gI S9 (pl S9) 0) < 0 ∧ (0 : Int32).toNatClampNeg + (gI S9 (pl S9) 0).toNatClampNeg ≤ LL 161 ∧ (0 : Int32).toNatClampNeg + (gI S9 (pl S9) 0).toNatClampNeg ≤ LL 162)) (nm (cpI S9 161 (0 : Int32).toNatClampNeg 162 (0 : Int32).toNatClampNeg (gI S9 (pl S9) 0).toNatClampNeg) (fun S16 =>
f_X6_findLeastOrder_124 (f_X6_findLeastOrder_32 n) v12 x3 S16))))))))
def f_X6_findLeastOrder_2   : Nat → Int32 → Mm → Option (Unit × Mm)
  | 0, _, _ => none
  | n + 1, x1, S => if (gI S (pl S) 0) ≤ x1 then (f_X6_findLeastOrder_32 400 10000000000000 0 S) else (bnd (inB x1 5) (nm (sI S 161 x1.toNatClampNeg x1) (fun S4 =>
nm (x1 + 1) (fun v6 =>
f_X6_findLeastOrder_2 n v6 S4))))
def f_X6_findLeastOrder (S : Mm)  : Option (Unit × Mm) :=
  f_X6_findLeastOrder_2 400 0 S
def f_X6_bestOrder (S : Mm) (x1 : Int32) : Option (Int32 × Mm) :=
  bd (f_X6_isStep S x1) (fun r1 S2 =>
if r1 = 0 then (some ((-1), S2)) else (bd (f_X6_findLeastOrder S2) (fun r5 S6 =>
bnd (inB x1 5) (
some ((gI S6 162 x1.toNatClampNeg), S6)))))
def f_X6_isBit (S : Mm) (x0 : Int32) : Option (Int32 × Mm) :=
  if x0 = 0 then (some (1, S)) else (if x0 = 1 then (some (1, S)) else (some (0, S)))
def f_X6_isFoundBehind (S : Mm) (x1 : Int32) : Option (Int32 × Mm) :=
  bnd (inB x1 5) (
if (((gI S 16 3) >>> ((gI S 17 x1.toNatClampNeg) &&& 31)) &&& 1) = 0 then (some (0, S)) else (bd (f_X0_upTo S x1 (pl S) 16) (fun r4 S5 =>
if (lg_cmp (gJ S5 158 1) 0) ≤ 0 then (some (0, S5)) else (some (1, S5)))))
def f_X6_commonDivisor_9   : Nat → Int64 → Int64 → Int32 → Mm → Option (Int64 × Mm)
  | 0, _, _, _, _ => none
  | n + 1, x4, x6, x8, S => if 100 ≤ x8 then (some (x4, S)) else (if (lg_cmp x6 0) = 0 then (some (x4, S)) else (bnd (decide (¬ x6 = 0)) (
nm ((x4 - x4 / x6 * x6)) (fun v4 =>
nm (x8 + 1) (fun v6 =>
f_X6_commonDivisor_9 n x6 v4 v6 S)))))
def f_X6_commonDivisor (S : Mm) (x0 : Int64) (x2 : Int64) : Option (Int64 × Mm) :=
  f_X6_commonDivisor_9 400 x0 x2 0 S
def f_X6_part (S : Mm) (x0 : Int64) (x2 : Int64) (x4 : Int32) : Option (Int64 × Mm) :=
  bd (f_X6_commonDivisor S x0 x2) (fun r1 S2 =>
if (lg_cmp x2 0) = 0 then (some ((-9), S2)) else (if (lg_cmp r1 0) = 0 then (some ((-9), S2)) else (if x4 = 0 then (bnd (decide (¬ r1 = 0)) (
some ((x0 / r1), S2))) else (bnd (decide (¬ r1 = 0)) (
some ((x2 / r1), S2))))))
def f_X6_blame (S : Mm) (x1 : Int32) (x2 : Int32) (x3 : Int32) : Option (Int64 × Mm) :=
  bd (f_X6_isStep S x1) (fun r1 S2 =>
if r1 = 0 then (some ((-1), S2)) else (bd (f_X6_isStep S2 x2) (fun r5 S6 =>
if r5 = 0 then (some ((-1), S6)) else (bd (f_X6_isBit S6 x3) (fun r9 S10 =>
if r9 = 0 then (some ((-1), S10)) else (bd (f_X6_isFoundBehind S10 x1) (fun r13 S14 =>
if r13 = 0 then (some ((-9), S14)) else (if x2 ≤ x1 then (bnd (inB x2 5) (
bd (f_X6_part S14 ((gJ S14 160 x2.toNatClampNeg)) ((gJ S14 158 1)) x3) (fun r19 S20 =>
some (r19, S20)))) else (bd (f_X6_part S14 0 ((gJ S14 158 1)) x3) (fun r22 S23 =>
some (r22, S23)))))))))))
def f_X6_clear (S : Mm)  : Option (Int32 × Mm) :=
  nm ((gI S 1 1)) (fun v1 =>
nm (sI S 1 1 0) (fun S3 =>
some (v1, S3)))
def f_X6_count (S : Mm) (x1 : Int32) : Option (Int32 × Mm) :=
  if x1 = 0 then (some ((gI S (pl S) 0), S)) else (if x1 = 1 then (some ((gI S (pl S) 1), S)) else (if x1 = 2 then (some ((gI S 0 8), S)) else (if x1 = 3 then (some ((gI S 15 3), S)) else (if x1 = 4 then (some ((gI S 1 1), S)) else (some ((-1), S))))))
def f_X6_explainsTold_2   : Nat → Int32 → Int32 → Mm → Option (Int32 × Mm)
  | 0, _, _, _ => none
  | n + 1, x1, x2, S => if (gI S 0 8) ≤ x2 then (some (1, S)) else (bnd (inB x2 6) (
bd (f_X2_go S (pl S) 16 x1 ((gI S 155 x2.toNatClampNeg))) (fun r4 S5 =>
bd (f_X2_fate S5) (fun r7 S8 =>
bnd (inB x2 6) (
if r7 = (gI S8 156 x2.toNatClampNeg) then (nm (x2 + 1) (fun v12 =>
f_X6_explainsTold_2 n x1 v12 S8)) else (some (0, S8)))))))
def f_X6_explainsTold (S : Mm) (x1 : Int32) : Option (Int32 × Mm) :=
  f_X6_explainsTold_2 400 x1 0 S
def f_X6_hasFewDuds (S : Mm) (x1 : Int32) (x2 : Int32) : Option (Int32 × Mm) :=
  bd (f_X0_through S (pl S) 16 17 x1) (fun r2 S3 =>
nm (((gJ S3 158 0) + (gJ S3 158 1))) (fun v5 =>
if (lg_cmp v5 0) ≤ 0 then (some (0, S3)) else (if 0 < (lg_cmp ((gJ S3 158 1) * 250) (v5 * x2.toInt64)) then (some (0, S3)) else (some (1, S3)))))
def f_X6_few_22   : Nat → Int32 → Int32 → Int32 → Int32 → Mm → Option (Int32 × Mm)
  | 0, _, _, _, _, _ => none
  | n + 1, x1, x2, x3, x4, S => if (1 <<< ((gI S (pl S) 0) &&& 31)) ≤ x4 then (some (x2, S)) else (bd (f_J6_bitCount_0f7a4 S x4) (fun r3 S4 =>
if x3 ≤ r3 then (nm (x4 + 1) (fun v7 =>
f_X6_few_22 n x1 x2 x3 v7 S4)) else (bd (f_X6_hasFewDuds S4 x4 x1) (fun r9 S10 =>
if r9 = 0 then (nm (x4 + 1) (fun v13 =>
f_X6_few_22 n x1 x2 x3 v13 S10)) else (bd (f_J6_bitCount_0f7a4 S10 x4) (fun r15 S16 =>
nm (x4 + 1) (fun v18 =>
f_X6_few_22 n x1 x4 r15 v18 S16)))))))
def f_X6_few (S : Mm) (x1 : Int32) : Option (Int32 × Mm) :=
  if x1 < 0 then (some ((-1), S)) else (if x1 ≤ 250 then (f_X6_few_22 400 x1 ((-9)) 6 0 S) else (some ((-1), S)))
def f_X6_first_25   : Nat → Int32 → Int32 → Int32 → Mm → Option (Int32 × Mm)
  | 0, _, _, _, _ => none
  | n + 1, x1, x2, x3, S => if x1 < x3 then (some (x2, S)) else (bnd (inB x3 5) (
bnd (inB x2 5) (
if (lg_cmp (gJ S 160 x3.toNatClampNeg) (gJ S 160 x2.toNatClampNeg)) ≤ 0 then (nm (x3 + 1) (fun v5 =>
f_X6_first_25 n x1 x2 v5 S)) else (nm (x3 + 1) (fun v7 =>
f_X6_first_25 n x1 x3 v7 S)))))
def f_X6_first (S : Mm) (x1 : Int32) : Option (Int32 × Mm) :=
  bd (f_X6_isStep S x1) (fun r1 S2 =>
if r1 = 0 then (some ((-1), S2)) else (bd (f_X6_isFoundBehind S2 x1) (fun r5 S6 =>
if r5 = 0 then (some ((-9), S6)) else (f_X6_first_25 400 x1 0 1 S6))))
def f_X6_flowNow (S : Mm)  : Option (Unit × Mm) :=
  bd (f_X0_through S (pl S) 16 17 ((gI S 16 3))) (fun r2 S3 =>
some ((), S3))
def f_X6_forget (S : Mm)  : Option (Int32 × Mm) :=
  nm ((gI S 0 8)) (fun v1 =>
nm (sI S 0 8 0) (fun S3 =>
some (v1, S3)))
def f_X6_isDraw (S : Mm) (x0 : Int32) : Option (Int32 × Mm) :=
  if x0 < 0 then (some (0, S)) else (if 9999 < x0 then (some (0, S)) else (some (1, S)))
def f_X6_keep (S : Mm) (x1 : Int32) : Option (Int32 × Mm) :=
  bd (f_X6_isImage S x1) (fun r1 S2 =>
if r1 = 0 then (some ((-1), S2)) else (bnd (inB x1 2) (
bd (f_X3_become S2 (61 + 1 + 46 * x1.toNatClampNeg) 15) (fun r7 S8 =>
bnd (inB x1 2) (nm (sI S8 154 x1.toNatClampNeg (vp_nar .boolean 1)) (fun S11 =>
some ((gI S11 16 4), S11)))))))
def f_X6_line (S : Mm) (x1 : Int32) : Option (Int32 × Mm) :=
  bd (f_X6_isStep S x1) (fun r1 S2 =>
if r1 = 0 then (some ((-1), S2)) else (bnd (inB x1 5) (
some ((gI S2 17 x1.toNatClampNeg), S2))))
def f_X6_looks (S : Mm) (x1 : Int32) (x2 : Int32) : Option (Int32 × Mm) :=
  bd (f_X6_isStep S x1) (fun r1 S2 =>
if r1 = 0 then (some ((-1), S2)) else (bd (f_X6_isBit S2 x2) (fun r5 S6 =>
if r5 = 0 then (some ((-1), S6)) else (if (((gI S6 16 3) >>> (x1 &&& 31)) &&& 1) = x2 then (some ((-2), S6)) else (bd (f_X3_remember S6 15) (fun r10 S11 =>
nm (sI S11 16 3 (((gI S11 16 3) ^^^ (1 <<< (x1 &&& 31))))) (fun S13 =>
bd (f_J6_bitCount_0f7a4 S13 ((gI S13 16 3))) (fun r15 S16 =>
some (r15, S16)))))))))
def f_X6_lost (S : Mm) (x1 : Int32) (x2 : Int32) : Option (Int64 × Mm) :=
  bd (f_X6_isStep S x1) (fun r1 S2 =>
if r1 = 0 then (some ((-1), S2)) else (bd (f_X6_isBit S2 x2) (fun r5 S6 =>
if r5 = 0 then (some ((-1), S6)) else (bd (f_X6_flowNow S6) (fun r9 S10 =>
bnd (inB x1 5) (
bd (f_X6_part S10 ((gJ S10 159 x1.toNatClampNeg)) 10000000000 x2) (fun r13 S14 =>
some (r13, S14))))))))
def f_X6_makes (S : Mm) (x1 : Int32) : Option (Int32 × Mm) :=
  bd (f_X6_isDraw S x1) (fun r1 S2 =>
if r1 = 0 then (some ((-1), S2)) else (if (gI S2 16 4) < 9999 then (bd (f_X3_remember S2 15) (fun r6 S7 =>
bd (f_X2_go S7 (pl S7) 16 ((gI S7 16 3)) x1) (fun r10 S11 =>
bd (f_X1_enter S11 16 ((gI S11 (pl S11) 1))) (fun r14 S15 =>
bd (f_X2_fate S15) (fun r17 S18 =>
some (r17, S18)))))) else (some ((-2), S2))))
def f_X6_markStep (S : Mm) (x1 : Int32) : Option (Int32 × Mm) :=
  nm (sJ S 0 13 (((gJ S 0 13) + 1))) (fun S1 =>
bnd (inB x1 5) (
some ((gI S1 ((pl S1) + 1) x1.toNatClampNeg), S1)))
def f_X6_markPoint (S : Mm) (x1 : Int32) : Option (Int32 × Mm) :=
  nm (sJ S 0 13 (((gJ S 0 13) + 10))) (fun S1 =>
bd (f_X6_markStep S1 x1) (fun r3 S4 =>
bnd (inB x1 5) (
some ((r3 + (gI S4 18 x1.toNatClampNeg)), S4))))
def f_X6_markEye (S : Mm) (x1 : Int32) : Option (Int32 × Mm) :=
  nm (sJ S 0 13 (((gJ S 0 13) + 100))) (fun S1 =>
bd (f_X6_markStep S1 x1) (fun r3 S4 =>
bnd (inB x1 5) (
some ((r3 - (gI S4 ((pl S4) + 3) x1.toNatClampNeg)), S4))))
def f_X6_markTrue (S : Mm) (x1 : Int32) : Option (Int32 × Mm) :=
  nm (sJ S 0 13 (((gJ S 0 13) + 1000))) (fun S1 =>
bd (f_X6_markPoint S1 x1) (fun r3 S4 =>
some ((r3 * 2), S4)))
def f_X6_markBlue (S : Mm) (x1 : Int32) : Option (Int32 × Mm) :=
  nm (sJ S 0 13 (((gJ S 0 13) + 10000))) (fun S1 =>
bd (f_X6_markEye S1 x1) (fun r3 S4 =>
bnd (inB x1 5) (
some ((r3 + (gI S4 19 x1.toNatClampNeg)), S4))))
def f_X6_markSack (S : Mm) (x1 : Int32) : Option (Int32 × Mm) :=
  nm (sJ S 0 13 (((gJ S 0 13) + 100000))) (fun S1 =>
bd (f_X6_markStep S1 x1) (fun r3 S4 =>
some ((r3 + (gI S4 16 4)), S4)))
def f_X6_mark (S : Mm) (x1 : Int32) (x2 : Int32) : Option (Int32 × Mm) :=
  bd (f_X6_isStep S x2) (fun r1 S2 =>
if r1 = 0 then (some ((-1000000), S2)) else (if x1 = 0 then (bd (f_X6_markStep S2 x2) (fun r6 S7 =>
some (r6, S7))) else (if x1 = 1 then (bd (f_X6_markPoint S2 x2) (fun r10 S11 =>
some (r10, S11))) else (if x1 = 2 then (bd (f_X6_markEye S2 x2) (fun r14 S15 =>
some (r14, S15))) else (if x1 = 3 then (bd (f_X6_markTrue S2 x2) (fun r18 S19 =>
some (r18, S19))) else (if x1 = 4 then (bd (f_X6_markBlue S2 x2) (fun r22 S23 =>
some (r22, S23))) else (if x1 = 5 then (bd (f_X6_markSack S2 x2) (fun r26 S27 =>
some (r26, S27))) else (some ((-1000000), S2)))))))))
def f_X6_mean (S : Mm) (x1 : Int32) (x2 : Int32) : Option (Int64 × Mm) :=
  if x1 < 0 then (some ((-1), S)) else (if 3 < x1 then (some ((-1), S)) else (bd (f_X6_isBit S x2) (fun r3 S4 =>
if r3 = 0 then (some ((-1), S4)) else (bd (f_X6_flowNow S4) (fun r7 S8 =>
if x1 = 0 then (bd (f_X6_part S8 ((gJ S8 158 2)) 10000000000 x2) (fun r11 S12 =>
some (r11, S12))) else (if x1 = 1 then (bd (f_X6_part S8 ((gJ S8 158 0)) 10000000000 x2) (fun r15 S16 =>
some (r15, S16))) else (if x1 = 2 then (bd (f_X6_part S8 ((gJ S8 158 1)) 10000000000 x2) (fun r19 S20 =>
some (r19, S20))) else (bd (f_X6_part S8 ((gJ S8 158 2)) ((gJ S8 158 0)) x2) (fun r22 S23 =>
some (r22, S23))))))))))
def f_X6_moves (S : Mm) (x1 : Int32) : Option (Int32 × Mm) :=
  if x1 = 0 then (some ((-1), S)) else (bd (f_X6_isStep S x1) (fun r2 S3 =>
if r2 = 0 then (some ((-1), S3)) else (bnd (inB (x1 - 1) 5) (
nm ((gI S3 17 (x1 - 1).toNatClampNeg)) (fun v7 =>
bnd (inB x1 5) (
bd (f_X4_mustLead S3 (pl S3) v7 ((gI S3 17 x1.toNatClampNeg))) (fun r11 S12 =>
if r11 = 0 then (bd (f_X3_remember S12 15) (fun r15 S16 =>
bnd (inB x1 5) (
bnd (inB (x1 - 1) 5) (nm (sI S16 17 (x1 - 1).toNatClampNeg ((gI S16 17 x1.toNatClampNeg))) (fun S20 =>
bnd (inB x1 5) (nm (sI S20 17 x1.toNatClampNeg v7) (fun S23 =>
some (v7, S23)))))))) else (some ((-2), S12)))))))))
def f_X6_now (S : Mm) (x1 : Int32) : Option (Int32 × Mm) :=
  if x1 = 0 then (some ((gI S 16 4), S)) else (if x1 = 1 then (some ((gI S 16 5), S)) else (if x1 = 2 then (some ((gI S 16 6), S)) else (if x1 = 3 then (some (((gI S 16 4) - (gI S 16 5)), S)) else (if x1 = 4 then (some ((gI S 16 7), S)) else (if x1 = 5 then (some ((gI S 16 3), S)) else (some ((-1), S)))))))
def f_X6_paper (S : Mm) (x1 : Int32) (x2 : Int32) : Option (Int64 × Mm) :=
  if x1 < 1 then (some ((-1), S)) else (if 99 < x1 then (some ((-1), S)) else (bd (f_X6_isBit S x2) (fun r3 S4 =>
if r3 = 0 then (some ((-1), S4)) else (bd (f_X6_flowNow S4) (fun r7 S8 =>
bd (f_X6_part S8 (((gJ S8 158 1) * x1.toInt64)) (((gJ S8 158 0) + (gJ S8 158 1))) x2) (fun r10 S11 =>
some (r10, S11)))))))
def f_X6_shop_78   : Nat → Int32 → Int32 → Mm → Option (Int32 × Mm)
  | 0, _, _, _ => none
  | n + 1, x1, x3, S => if 2 ≤ x3 then (some (x1, S)) else (bnd (inB x3 2) (nm (sI S 154 x3.toNatClampNeg (vp_nar .boolean 0)) (fun S3 =>
nm (x3 + 1) (fun v5 =>
f_X6_shop_78 n x1 v5 S3))))
def f_X6_shop (S : Mm)  : Option (Int32 × Mm) :=
  bd (f_X4_empty S (dr S)) (fun r2 S3 =>
bd (f_X5_readInto S3 (dr S3)) (fun r6 S7 =>
if 0 ≤ r6 then (nm (sP S7 (dr S7)) (fun S12 =>
nm (sD S12 (pl S7)) (fun S14 =>
nm (sI S14 1 1 0) (fun S16 =>
bd (f_X3_open S16 15 (pl S16)) (fun r19 S20 =>
nm (sI S20 0 8 0) (fun S22 =>
f_X6_shop_78 400 r6 0 S22)))))) else (some (((-10) - (gI S7 1 2)), S7))))
def f_X6_skill (S : Mm) (x1 : Int32) (x2 : Int32) : Option (Int32 × Mm) :=
  bd (f_X6_isStep S x1) (fun r1 S2 =>
if r1 = 0 then (some ((-1), S2)) else (if x2 < 0 then (some ((-1), S2)) else (if x2 ≤ 9 then (bd (f_X3_remember S2 15) (fun r7 S8 =>
bnd (inB x1 5) (
nm ((gI S8 18 x1.toNatClampNeg)) (fun v11 =>
bnd (inB x1 5) (nm (sI S8 18 x1.toNatClampNeg x2) (fun S14 =>
some (v11, S14))))))) else (some ((-1), S2)))))
def f_X6_step (S : Mm) (x1 : Int32) (x2 : Int32) : Option (Int32 × Mm) :=
  bd (f_X6_isStep S x1) (fun r1 S2 =>
if r1 = 0 then (some ((-1), S2)) else (if x2 = 0 then (bnd (inB x1 5) (
some ((gI S2 ((pl S2) + 1) x1.toNatClampNeg), S2))) else (if x2 = 1 then (bnd (inB x1 5) (
some ((gI S2 18 x1.toNatClampNeg), S2))) else (if x2 = 2 then (bnd (inB x1 5) (
some ((gI S2 ((pl S2) + 3) x1.toNatClampNeg), S2))) else (if x2 = 3 then (bnd (inB x1 5) (
some ((gI S2 ((pl S2) + 4) x1.toNatClampNeg), S2))) else (if x2 = 4 then (some ((((gI S2 16 3) >>> (x1 &&& 31)) &&& 1), S2)) else (if x2 = 5 then (bnd (inB x1 5) (
some ((gI S2 19 x1.toNatClampNeg), S2))) else (if x2 = 6 then (bd (f_X1_placeOf S2 16 x1 ((gI S2 (pl S2) 0))) (fun r21 S22 =>
some (r21, S22))) else (if x2 = 7 then (bnd (inB x1 5) (
some ((gI S2 ((pl S2) + 5) x1.toNatClampNeg), S2))) else (some ((-1), S2)))))))))))
def f_X6_tells (S : Mm) (x1 : Int32) (x2 : Int32) : Option (Int32 × Mm) :=
  bd (f_X6_isDraw S x1) (fun r1 S2 =>
if r1 = 0 then (some ((-1), S2)) else (if x2 < 0 then (some ((-1), S2)) else (if x2 ≤ 2 then (if (gI S2 0 8) < 6 then (bnd (inB (gI S2 0 8) 6) (nm (sI S2 155 (gI S2 0 8).toNatClampNeg x1) (fun S9 =>
bnd (inB (gI S9 0 8) 6) (nm (sI S9 156 (gI S9 0 8).toNatClampNeg x2) (fun S12 =>
nm (sI S12 0 8 (((gI S12 0 8) + 1))) (fun S14 =>
some ((gI S14 0 8), S14))))))) else (some ((-3), S2))) else (some ((-1), S2)))))
def f_X6_trace (S : Mm)  : Option (Int64 × Mm) :=
  some ((gJ S 0 13), S)
def f_X6_type (S : Mm) (x1 : Int32) : Option (Int32 × Mm) :=
  if x1 < 0 then (some ((-1), S)) else (if x1 ≤ 255 then (bd (f_X5_add S x1) (fun r3 S4 =>
if r3 = 0 then (some ((-3), S4)) else (some ((gI S4 1 1), S4)))) else (some ((-1), S)))
def f_X6_undo (S : Mm)  : Option (Int32 × Mm) :=
  bd (f_X3_restore S 15) (fun r1 S2 =>
if r1 = 0 then (some ((-2), S2)) else (some ((gI S2 15 3), S2)))
def f_X6_who_57 (kk23 : Int32 → Int32 → Int32 → Int32 → Int32 → Mm → Option (Int32 × Mm))  (x1 : Int32) (x2 : Int32) (x3 : Int32) (x4 : Int32) (x5 : Int32) (S : Mm) : Option (Int32 × Mm) :=
  if x2 = 0 then (nm (x2 + 1) (fun v8 =>
nm (x5 + 1) (fun v10 =>
kk23 x1 v8 x3 x5 v10 S))) else (nm ((x4 &&& x5)) (fun v2 =>
nm (x2 + 1) (fun v4 =>
nm (x5 + 1) (fun v6 =>
kk23 x1 v4 x3 v2 v6 S))))
def f_X6_who_23   : Nat → Int32 → Int32 → Int32 → Int32 → Int32 → Mm → Option (Int32 × Mm)
  | 0, _, _, _, _, _, _ => none
  | n + 1, x1, x2, x3, x4, x5, S => if (1 <<< ((gI S (pl S) 0) &&& 31)) ≤ x5 then (if x1 = 0 then (some (x2, S)) else (if x1 = 1 then (some (x3, S)) else (some (x4, S)))) else (bd (f_X6_explainsTold S x5) (fun r5 S6 =>
if r5 = 0 then (nm (x5 + 1) (fun v9 =>
f_X6_who_23 n x1 x2 x3 x4 v9 S6)) else (if x2 = 0 then (f_X6_who_57 (f_X6_who_23 n) x1 x2 x5 x4 x5 S6) else (f_X6_who_57 (f_X6_who_23 n) x1 x2 x3 x4 x5 S6))))
def f_X6_who (S : Mm) (x1 : Int32) : Option (Int32 × Mm) :=
  if x1 < 0 then (some ((-1), S)) else (if x1 ≤ 2 then (f_X6_who_23 400 x1 0 ((-9)) ((-9)) 0 S) else (some ((-1), S)))
def f_X7_in (S : Mm) (x0 : Int32) (x1 : Int32) (x2 : Int32) : Option (Int32 × Mm) :=
  if x0 < x1 then (some (0, S)) else (if x2 < x0 then (some (0, S)) else (some (1, S)))
def f_X7_back_25   : Nat → Int32 → Int32 → Mm → Option (Int32 × Mm)
  | 0, _, _, _ => none
  | n + 1, x1, x2, S => if 221 ≤ x2 then (bnd (inB 11 663) (
some ((gI S 172 (11 : Int32).toNatClampNeg), S))) else (bnd (inB ((221 * (1 + x1)) + x2) 663) (
bnd (inB x2 663) (nm (sI S 172 x2.toNatClampNeg ((gI S 172 ((221 * (1 + x1)) + x2).toNatClampNeg))) (fun S5 =>
nm (x2 + 1) (fun v7 =>
f_X7_back_25 n x1 v7 S5)))))
def f_X7_back (S : Mm) (x1 : Int32) : Option (Int32 × Mm) :=
  bd (f_X7_in S x1 0 1) (fun r1 S2 =>
if r1 = 0 then (some ((-1), S2)) else (bnd (inB x1 2) (
if (gI S2 173 x1.toNatClampNeg) = 0 then (some ((-2), S2)) else (f_X7_back_25 400 x1 0 S2))))
def f_X7_begin_22   : Nat → Int32 → Mm → Option (Unit × Mm)
  | 0, _, _ => none
  | n + 1, x1, S => if 5 ≤ x1 then (some ((), S)) else (bnd (inB x1 5) (nm (sJ S 175 x1.toNatClampNeg 0) (fun S3 =>
bnd (inB x1 5) (nm (sJ S3 176 x1.toNatClampNeg 0) (fun S6 =>
nm (x1 + 1) (fun v8 =>
f_X7_begin_22 n v8 S6))))))
def f_X7_begin (S : Mm)  : Option (Unit × Mm) :=
  nm (sJ S 163 21 1) (fun S1 =>
nm (sJ S1 163 22 0) (fun S3 =>
nm (sJ S3 163 23 1) (fun S5 =>
nm (sJ S5 163 24 0) (fun S7 =>
f_X7_begin_22 400 0 S7))))
def f_X7_takeRow_2   : Nat → Int32 → Mm → Option (Unit × Mm)
  | 0, _, _ => none
  | n + 1, x1, S => if 5 ≤ x1 then (some ((), S)) else (bnd (inB (0 + x1) 663) (
bnd (inB x1 5) (nm (sI S 174 x1.toNatClampNeg ((gI S 172 (0 + x1).toNatClampNeg))) (fun S4 =>
nm (x1 + 1) (fun v6 =>
f_X7_takeRow_2 n v6 S4)))))
def f_X7_takeRow (S : Mm)  : Option (Unit × Mm) :=
  f_X7_takeRow_2 400 0 S
def f_X7_grow_50   : Nat → Int32 → Mm → Option (Unit × Mm)
  | 0, _, _ => none
  | n + 1, x1, S => if 5 ≤ x1 then (some ((), S)) else (bnd (inB x1 5) (
bnd (inB x1 5) (nm (sJ S 175 x1.toNatClampNeg (((gJ S 175 x1.toNatClampNeg) * 10))) (fun S4 =>
bnd (inB x1 5) (
bnd (inB x1 5) (nm (sJ S4 176 x1.toNatClampNeg (((gJ S4 176 x1.toNatClampNeg) * 10))) (fun S8 =>
nm (x1 + 1) (fun v10 =>
f_X7_grow_50 n v10 S8))))))))
def f_X7_grow (S : Mm)  : Option (Unit × Mm) :=
  nm (sJ S 163 21 (((gJ S 163 21) * 10))) (fun S1 =>
nm (sJ S1 163 22 (((gJ S1 163 22) * 10))) (fun S3 =>
nm (sJ S3 163 23 (((gJ S3 163 23) * 10))) (fun S5 =>
nm (sJ S5 163 24 (((gJ S5 163 24) * 10))) (fun S7 =>
f_X7_grow_50 400 0 S7))))
def f_X7_work (S : Mm) (x1 : Int32) : Option (Unit × Mm) :=
  bnd (inB x1 5) (
nm ((gI S 174 x1.toNatClampNeg)) (fun v2 =>
bnd (inB v2 10) (
nm (sJ S 163 22 (((gJ S 163 22) + (((gJ S 163 23) + (gJ S 163 24)) * (gI S 166 v2.toNatClampNeg).toInt64)))) (fun S5 =>
bd (f_X7_grow S5) (fun r7 S8 =>
bnd (inB (5 + v2) 663) (
nm ((((gJ S8 163 23) / 10) * (gI S8 172 (5 + v2).toNatClampNeg).toInt64)) (fun v11 =>
nm (sJ S8 163 23 (((gJ S8 163 23) - v11))) (fun S13 =>
nm (sJ S13 163 24 (((gJ S13 163 24) + v11))) (fun S15 =>
bnd (inB x1 5) (
bnd (inB x1 5) (nm (sJ S15 176 x1.toNatClampNeg (((gJ S15 176 x1.toNatClampNeg) + v11))) (fun S19 =>
some ((), S19)))))))))))))
def f_X7_lookAt_92   : Nat → Int32 → Int32 → Int32 → Mm → Option (Unit × Mm)
  | 0, _, _, _, _ => none
  | n + 1, x1, x3, x4, S => if x1 < x4 then (some ((), S)) else (bnd (inB x4 5) (
bnd (inB x3 10) (
bnd (inB x4 5) (nm (sJ S 176 x4.toNatClampNeg ((((gJ S 176 x4.toNatClampNeg) / 10) * (gI S 169 x3.toNatClampNeg).toInt64))) (fun S5 =>
nm (x4 + 1) (fun v7 =>
f_X7_lookAt_92 n x1 x3 v7 S5))))))
def f_X7_lookAt_41   (x1 : Int32) (x2 : Int32) (x3 : Int32) (S : Mm) : Option (Unit × Mm) :=
  bd (f_X7_grow S) (fun r1 S2 =>
if x2 = 0 then (some ((), S2)) else (bnd (inB x3 10) (
bnd (inB x1 5) (nm (sJ S2 175 x1.toNatClampNeg ((((gJ S2 163 24) / 10) * (10 - (gI S2 169 x3.toNatClampNeg)).toInt64))) (fun S7 =>
bnd (inB x1 5) (
nm (sJ S7 163 24 (((gJ S7 163 24) - (gJ S7 175 x1.toNatClampNeg)))) (fun S10 =>
f_X7_lookAt_92 400 x1 x3 0 S10)))))))
def f_X7_lookAt (S : Mm) (x1 : Int32) (x2 : Int32) : Option (Unit × Mm) :=
  bnd (inB x1 5) (
nm ((gI S 174 x1.toNatClampNeg)) (fun v2 =>
if x2 = 0 then (nm (sJ S 163 22 (((gJ S 163 22) + 0))) (fun S5 =>
f_X7_lookAt_41 x1 x2 v2 S5)) else (bnd (inB v2 10) (
nm (sJ S 163 22 (((gJ S 163 22) + (((gJ S 163 23) + (gJ S 163 24)) * (gI S 168 v2.toNatClampNeg).toInt64)))) (fun S8 =>
f_X7_lookAt_41 x1 x2 v2 S8)))))
def f_X7_measure_6   : Nat → Int32 → Int32 → Mm → Option (Unit × Mm)
  | 0, _, _, _ => none
  | n + 1, x1, x2, S => bnd (inB 0 2) (
if (gI S 165 (0 : Int32).toNatClampNeg) ≤ x2 then (bnd (inB 0 2) (
nm (sJ S 163 22 (((gJ S 163 22) + ((gJ S 163 24) * (gI S 171 (0 : Int32).toNatClampNeg).toInt64)))) (fun S4 =>
some ((), S4)))) else (bd (f_X7_work S x2) (fun r6 S7 =>
bnd (inB x2 5) (
if ((x1 >>> ((gI S7 174 x2.toNatClampNeg) &&& 31)) &&& 1) = 1 then (bd (f_X7_lookAt S7 x2 1) (fun r16 S17 =>
nm (x2 + 1) (fun v19 =>
f_X7_measure_6 n x1 v19 S17))) else (bd (f_X7_lookAt S7 x2 0) (fun r11 S12 =>
nm (x2 + 1) (fun v14 =>
f_X7_measure_6 n x1 v14 S12)))))))
def f_X7_measure (S : Mm) (x1 : Int32) : Option (Unit × Mm) :=
  bd (f_X7_begin S) (fun r1 S2 =>
f_X7_measure_6 400 x1 0 S2)
def f_X7_bestLooks_13   : Nat → Int32 → Int64 → Int32 → Mm → Option (Int32 × Mm)
  | 0, _, _, _, _ => none
  | n + 1, x1, x2, x4, S => bnd (inB 0 2) (
if (1 <<< ((gI S 165 (0 : Int32).toNatClampNeg) &&& 31)) ≤ x4 then (some (x1, S)) else (bd (f_X7_measure S x4) (fun r3 S4 =>
if (lg_cmp x2 0) < 0 then (nm ((gJ S4 163 22)) (fun v7 =>
nm (x4 + 1) (fun v9 =>
f_X7_bestLooks_13 n x4 v7 v9 S4))) else (if 0 ≤ (lg_cmp (gJ S4 163 22) x2) then (nm (x4 + 1) (fun v12 =>
f_X7_bestLooks_13 n x1 x2 v12 S4)) else (nm ((gJ S4 163 22)) (fun v14 =>
nm (x4 + 1) (fun v16 =>
f_X7_bestLooks_13 n x4 v14 v16 S4)))))))
def f_X7_bestLooks (S : Mm)  : Option (Int32 × Mm) :=
  bd (f_X7_takeRow S) (fun r1 S2 =>
f_X7_bestLooks_13 400 0 ((-1)) 0 S2)
def f_X7_isStep (S : Mm) (x1 : Int32) : Option (Int32 × Mm) :=
  bnd (inB 0 2) (
bd (f_X7_in S x1 0 (((gI S 165 (0 : Int32).toNatClampNeg) - 1))) (fun r2 S3 =>
bnd (decide (r2 = 0 ∨ r2 = 1)) (some (r2, S3))))
def f_X7_isLawful_16 (kk4 : Int32 → Int32 → Mm → Option (Int32 × Mm))  : Nat → Int32 → Int32 → Int32 → Mm → Option (Int32 × Mm)
  | 0, _, _, _, _ => none
  | n + 1, x1, x2, x3, S => if x2 ≤ x3 then (nm (x2 + 1) (fun v2 =>
kk4 x1 v2 S)) else (if x1 = 0 then (nm (x3 + 1) (fun v5 =>
f_X7_isLawful_16 kk4 n 0 x2 v5 S)) else (bnd (inB x2 5) (
bnd (inB (gI S 174 x2.toNatClampNeg) 10) (
bnd (inB x3 5) (
if (((gI S 170 (gI S 174 x2.toNatClampNeg).toNatClampNeg) >>> ((gI S 174 x3.toNatClampNeg) &&& 31)) &&& 1) = 0 then (nm (x3 + 1) (fun v13 =>
f_X7_isLawful_16 kk4 n 1 x2 v13 S)) else (nm (x3 + 1) (fun v11 =>
f_X7_isLawful_16 kk4 n 0 x2 v11 S)))))))
def f_X7_isLawful_4   : Nat → Int32 → Int32 → Mm → Option (Int32 × Mm)
  | 0, _, _, _ => none
  | n + 1, x1, x2, S => bnd (inB 0 2) (
if (gI S 165 (0 : Int32).toNatClampNeg) ≤ x2 then (bnd (decide (x1 = 0 ∨ x1 = 1)) (some (x1, S))) else (f_X7_isLawful_16 (f_X7_isLawful_4 n) 400 x1 x2 0 S))
def f_X7_isLawful (S : Mm)  : Option (Int32 × Mm) :=
  f_X7_isLawful_4 400 1 0 S
def f_X7_nextRow_113   : Nat → Int32 → Int32 → Mm → Option (Int32 × Mm)
  | 0, _, _, _ => none
  | n + 1, x4, x5, S => if x5 ≤ x4 then (some (1, S)) else (bnd (inB x4 5) (
nm ((gI S 174 x4.toNatClampNeg)) (fun v3 =>
bnd (inB x5 5) (
bnd (inB x4 5) (nm (sI S 174 x4.toNatClampNeg ((gI S 174 x5.toNatClampNeg))) (fun S7 =>
bnd (inB x5 5) (nm (sI S7 174 x5.toNatClampNeg v3) (fun S10 =>
nm (x4 + 1) (fun v12 =>
nm (x5 + (-1)) (fun v14 =>
f_X7_nextRow_113 n v12 v14 S10))))))))))
def f_X7_nextRow_51   : Nat → Int32 → Int32 → Mm → Option (Int32 × Mm)
  | 0, _, _, _ => none
  | n + 1, x1, x2, S => bnd (inB x2 5) (
bnd (inB x1 5) (
if (gI S 174 x1.toNatClampNeg) ≤ (gI S 174 x2.toNatClampNeg) then (bnd (inB x1 5) (
nm ((gI S 174 x1.toNatClampNeg)) (fun v5 =>
bnd (inB x2 5) (
bnd (inB x1 5) (nm (sI S 174 x1.toNatClampNeg ((gI S 174 x2.toNatClampNeg))) (fun S9 =>
bnd (inB x2 5) (nm (sI S9 174 x2.toNatClampNeg v5) (fun S12 =>
nm ((x1 + 1)) (fun v14 =>
bnd (inB 0 2) (
nm (((gI S12 165 (0 : Int32).toNatClampNeg) - 1)) (fun v17 =>
f_X7_nextRow_113 400 v14 v17 S12))))))))))) else (nm (x2 + (-1)) (fun v19 =>
f_X7_nextRow_51 n x1 v19 S))))
def f_X7_nextRow_36   (x1 : Int32) (S : Mm) : Option (Int32 × Mm) :=
  if 0 ≤ x1 then (bnd (inB 0 2) (
nm (((gI S 165 (0 : Int32).toNatClampNeg) - 1)) (fun v3 =>
f_X7_nextRow_51 400 x1 v3 S))) else (some (0, S))
def f_X7_nextRow_9   : Nat → Int32 → Mm → Option (Int32 × Mm)
  | 0, _, _ => none
  | n + 1, x1, S => if x1 < 0 then (f_X7_nextRow_36 x1 S) else (bnd (inB x1 5) (
bnd (inB (x1 + 1) 5) (
if (gI S 174 x1.toNatClampNeg) ≤ (gI S 174 (x1 + 1).toNatClampNeg) then (f_X7_nextRow_36 x1 S) else (nm (x1 + (-1)) (fun v5 =>
f_X7_nextRow_9 n v5 S)))))
def f_X7_nextRow (S : Mm)  : Option (Int32 × Mm) :=
  bnd (inB 0 2) (
nm (((gI S 165 (0 : Int32).toNatClampNeg) - 2)) (fun v2 =>
f_X7_nextRow_9 400 v2 S))
def f_X7_bestOrder_83 (kk37 : Int32 → Int64 → Int32 → Mm → Option (Int32 × Mm))  : Nat → Int32 → Int64 → Int32 → Mm → Option (Int32 × Mm)
  | 0, _, _, _, _ => none
  | n + 1, x1, x2, x5, S => if 5 ≤ x5 then (bd (f_X7_nextRow S) (fun r2 S3 =>
kk37 x1 x2 r2 S3)) else (bnd (inB x5 5) (
bnd (inB x5 5) (nm (sI S 177 x5.toNatClampNeg ((gI S 174 x5.toNatClampNeg))) (fun S7 =>
nm (x5 + 1) (fun v9 =>
f_X7_bestOrder_83 kk37 n x1 x2 v9 S7)))))
def f_X7_bestOrder_37   : Nat → Int32 → Int64 → Int32 → Mm → Option (Int32 × Mm)
  | 0, _, _, _, _ => none
  | n + 1, x1, x2, x4, S => if x4 = 0 then (bnd (inB x1 5) (
some ((gI S 177 x1.toNatClampNeg), S))) else (bd (f_X7_isLawful S) (fun r3 S4 =>
if r3 = 0 then (bd (f_X7_nextRow S4) (fun r7 S8 =>
f_X7_bestOrder_37 n x1 x2 r7 S8)) else (bnd (inB 10 663) (
bd (f_X7_measure S4 ((gI S4 172 (10 : Int32).toNatClampNeg))) (fun r11 S12 =>
if (lg_cmp x2 0) < 0 then (nm ((gJ S12 163 22)) (fun v15 =>
f_X7_bestOrder_83 (f_X7_bestOrder_37 n) 400 x1 v15 0 S12)) else (if 0 ≤ (lg_cmp (gJ S12 163 22) x2) then (bd (f_X7_nextRow S12) (fun r18 S19 =>
f_X7_bestOrder_37 n x1 x2 r18 S19)) else (nm ((gJ S12 163 22)) (fun v21 =>
f_X7_bestOrder_83 (f_X7_bestOrder_37 n) 400 x1 v21 0 S12))))))))
def f_X7_bestOrder_12   : Nat → Int32 → Int32 → Mm → Option (Int32 × Mm)
  | 0, _, _, _ => none
  | n + 1, x1, x2, S => if 5 ≤ x2 then (f_X7_bestOrder_37 400 x1 ((-1)) 1 S) else (bnd (inB x2 5) (nm (sI S 174 x2.toNatClampNeg x2) (fun S3 =>
nm (x2 + 1) (fun v5 =>
f_X7_bestOrder_12 n x1 v5 S3))))
def f_X7_bestOrder (S : Mm) (x1 : Int32) : Option (Int32 × Mm) :=
  bd (f_X7_isStep S x1) (fun r1 S2 =>
if r1 = 0 then (some ((-1), S2)) else (f_X7_bestOrder_12 400 x1 0 S2))
def f_X7_blameFor_10   : Nat → Int32 → Int32 → Mm → Option (Unit × Mm)
  | 0, _, _, _ => none
  | n + 1, x1, x2, S => if x1 < x2 then (some ((), S)) else (bd (f_X7_work S x2) (fun r2 S3 =>
if x1 ≤ x2 then (bd (f_X7_lookAt S3 x2 0) (fun r6 S7 =>
nm (x2 + 1) (fun v9 =>
f_X7_blameFor_10 n x1 v9 S7))) else (bnd (inB 10 663) (
bnd (inB x2 5) (
if (((gI S3 172 (10 : Int32).toNatClampNeg) >>> ((gI S3 174 x2.toNatClampNeg) &&& 31)) &&& 1) = 1 then (bd (f_X7_lookAt S3 x2 1) (fun r19 S20 =>
nm (x2 + 1) (fun v22 =>
f_X7_blameFor_10 n x1 v22 S20))) else (bd (f_X7_lookAt S3 x2 0) (fun r14 S15 =>
nm (x2 + 1) (fun v17 =>
f_X7_blameFor_10 n x1 v17 S15))))))))
def f_X7_blameFor (S : Mm) (x1 : Int32) : Option (Unit × Mm) :=
  bd (f_X7_takeRow S) (fun r1 S2 =>
bd (f_X7_begin S2) (fun r4 S5 =>
f_X7_blameFor_10 400 x1 0 S5))
def f_X7_isTold (S : Mm) (x1 : Int32) : Option (Int32 × Mm) :=
  bnd (inB 10 663) (
bnd (inB x1 5) (
if (((gI S 172 (10 : Int32).toNatClampNeg) >>> ((gI S 174 x1.toNatClampNeg) &&& 31)) &&& 1) = 1 then (if (lg_cmp (gJ S 163 24) 0) ≤ 0 then (some (0, S)) else (some (1, S))) else (some (0, S))))
def f_X7_part_6   : Nat → Int64 → Int64 → Int32 → Int64 → Int64 → Mm → Option (Int64 × Mm)
  | 0, _, _, _, _, _, _ => none
  | n + 1, x0, x2, x4, x5, x7, S => if (lg_cmp x7 0) = 0 then (if x4 = 0 then (bnd (decide (¬ x5 = 0)) (
some ((x0 / x5), S))) else (bnd (decide (¬ x5 = 0)) (
some ((x2 / x5), S)))) else (bnd (decide (¬ x7 = 0)) (
nm ((x5 - x5 / x7 * x7)) (fun v6 =>
f_X7_part_6 n x0 x2 x4 x7 v6 S)))
def f_X7_part (S : Mm) (x0 : Int64) (x2 : Int64) (x4 : Int32) : Option (Int64 × Mm) :=
  f_X7_part_6 400 x0 x2 x4 x0 x2 S
def f_X7_blame (S : Mm) (x1 : Int32) (x2 : Int32) (x3 : Int32) : Option (Int64 × Mm) :=
  bd (f_X7_isStep S x1) (fun r1 S2 =>
if r1 = 0 then (some ((-1), S2)) else (bd (f_X7_isStep S2 x2) (fun r5 S6 =>
if r5 = 0 then (some ((-1), S6)) else (bd (f_X7_in S6 x3 0 1) (fun r9 S10 =>
if r9 = 0 then (some ((-1), S10)) else (bd (f_X7_blameFor S10 x1) (fun r13 S14 =>
bd (f_X7_isTold S14 x1) (fun r16 S17 =>
if r16 = 0 then (some ((-9), S17)) else (bnd (inB x2 5) (
bd (f_X7_part S17 ((gJ S17 176 x2.toNatClampNeg)) ((gJ S17 163 24)) x3) (fun r21 S22 =>
some (r21, S22))))))))))))
def f_X7_clear (S : Mm)  : Option (Int32 × Mm) :=
  nm ((gI S 163 2)) (fun v1 =>
nm (sI S 163 2 0) (fun S3 =>
some (v1, S3)))
def f_X7_count (S : Mm) (x1 : Int32) : Option (Int32 × Mm) :=
  if x1 = 0 then (bnd (inB 0 2) (
some ((gI S 165 (0 : Int32).toNatClampNeg), S))) else (if x1 = 1 then (bnd (inB 0 2) (
some ((gI S 171 (0 : Int32).toNatClampNeg), S))) else (if x1 = 2 then (some ((gI S 163 30), S)) else (if x1 = 3 then (bnd (inB 20 663) (
some ((gI S 172 (20 : Int32).toNatClampNeg), S))) else (if x1 = 4 then (some ((gI S 163 2), S)) else (some ((-1), S))))))
def f_X7_drawOf (S : Mm) (x0 : Int32) (x1 : Int32) : Option (Int32 × Mm) :=
  nm ((((7919 * x0.toInt64) + (6151 * x1.toInt64)) + 1)) (fun v1 =>
some (((((v1 * v1) - (v1 * v1) / 65521 * 65521).toInt32 / 8) - (((v1 * v1) - (v1 * v1) / 65521 * 65521).toInt32 / 8) / 10 * 10), S))
def f_X7_here (S : Mm)  : Option (Int32 × Mm) :=
  if (gI S 163 2) ≤ (gI S 163 11) then (some ((-1), S)) else (bnd (inB (gI S 163 11) 150) (
some (((gI S 164 (gI S 163 11).toNatClampNeg) &&& 255), S)))
def f_X7_read_63   : Nat → Int32 → Mm → Option (Unit × Mm)
  | 0, _, _ => none
  | n + 1, x1, S => bd (f_X7_here S) (fun r1 S2 =>
bd (f_X7_in S2 r1 97 122) (fun r4 S5 =>
if r4 = 0 then (if ((gI S5 163 11) - (gI S5 163 12)) = 1 then (nm (sI S5 163 13 x1) (fun S11 =>
some ((), S11))) else (nm (sI S5 163 13 4) (fun S9 =>
some ((), S9)))) else (nm (sI S5 163 11 (((gI S5 163 11) + 1))) (fun S13 =>
f_X7_read_63 n x1 S13))))
def f_X7_read_126   : Nat → Int32 → Mm → Option (Unit × Mm)
  | 0, _, _ => none
  | n + 1, x1, S => bd (f_X7_here S) (fun r1 S2 =>
bd (f_X7_in S2 r1 48 57) (fun r4 S5 =>
if r4 = 0 then (if 99 < (gI S5 163 14) then (nm (sI S5 163 13 4) (fun S9 =>
some ((), S9))) else (if x1 = 48 then (if ((gI S5 163 11) - (gI S5 163 12)) ≤ 1 then (nm (sI S5 163 13 1) (fun S15 =>
some ((), S15))) else (nm (sI S5 163 13 4) (fun S17 =>
some ((), S17)))) else (nm (sI S5 163 13 1) (fun S12 =>
some ((), S12))))) else (if (gI S5 163 14) ≤ 99 then (bd (f_X7_here S5) (fun r20 S21 =>
nm (sI S21 163 14 ((((10 * (gI S5 163 14)) + r20) - 48))) (fun S23 =>
nm (sI S23 163 11 (((gI S23 163 11) + 1))) (fun S25 =>
f_X7_read_126 n x1 S25)))) else (nm (sI S5 163 14 ((gI S5 163 14))) (fun S27 =>
nm (sI S27 163 11 (((gI S27 163 11) + 1))) (fun S29 =>
f_X7_read_126 n x1 S29))))))
def f_X7_read_0   : Nat → Mm → Option (Unit × Mm)
  | 0, _ => none
  | n + 1, S => bd (f_X7_here S) (fun r1 S2 =>
if r1 = 32 then (nm (sI S2 163 11 (((gI S2 163 11) + 1))) (fun S30 =>
f_X7_read_0 n S30)) else (nm (sI S2 163 12 ((gI S2 163 11))) (fun S5 =>
nm (sI S5 163 14 0) (fun S7 =>
bd (f_X7_here S7) (fun r9 S10 =>
if 0 ≤ r9 then (bd (f_X7_in S10 r9 97 122) (fun r13 S14 =>
if r13 = 0 then (bd (f_X7_in S14 r9 48 57) (fun r17 S18 =>
if r17 = 0 then (nm (sI S18 163 11 (((gI S18 163 11) + 1))) (fun S21 =>
if r9 = 59 then (nm (sI S21 163 13 2) (fun S26 =>
some ((), S26))) else (nm (sI S21 163 13 4) (fun S24 =>
some ((), S24))))) else (f_X7_read_126 400 r9 S18))) else (f_X7_read_63 400 r9 S14))) else (nm (sI S10 163 13 3) (fun S28 =>
some ((), S28))))))))
def f_X7_read (S : Mm)  : Option (Unit × Mm) :=
  f_X7_read_0 400 S
def f_X7_due (S : Mm) (x1 : Int32) : Option (Int32 × Mm) :=
  nm ((gI S 163 14)) (fun v1 =>
if (gI S 163 15) = (-9) then (if x1 = 0 then (nm (sI S 163 15 ((gI S 163 12))) (fun S5 =>
some (v1, S5))) else (bd (f_X7_read S) (fun r7 S8 =>
some (v1, S8)))) else (some (v1, S)))
def f_X7_manyOf_4   : Nat → Int32 → Int32 → Int32 → Mm → Option (Int32 × Mm)
  | 0, _, _, _, _ => none
  | n + 1, x0, x1, x2, S => if 5 ≤ x2 then (some (x1, S)) else (nm ((x1 + ((x0 >>> (x2 &&& 31)) &&& 1))) (fun v2 =>
nm (x2 + 1) (fun v4 =>
f_X7_manyOf_4 n x0 v2 v4 S)))
def f_X7_manyOf (S : Mm) (x0 : Int32) : Option (Int32 × Mm) :=
  f_X7_manyOf_4 400 x0 0 0 S
def f_X7_few_51 (kk22 : Int32 → Int32 → Int32 → Mm → Option (Int32 × Mm))  (x1 : Int32) (x2 : Int32) (x3 : Int32) (S : Mm) : Option (Int32 × Mm) :=
  bd (f_X7_measure S x3) (fun r1 S2 =>
if (lg_cmp ((gJ S2 163 23) + (gJ S2 163 24)) 0) ≤ 0 then (nm (x3 + 1) (fun v5 =>
kk22 x1 x2 v5 S2)) else (if 0 < (lg_cmp (250 * (gJ S2 163 24)) (x1.toInt64 * ((gJ S2 163 23) + (gJ S2 163 24)))) then (nm (x3 + 1) (fun v8 =>
kk22 x1 x2 v8 S2)) else (nm (x3 + 1) (fun v10 =>
kk22 x1 x3 v10 S2))))
def f_X7_few_22   : Nat → Int32 → Int32 → Int32 → Mm → Option (Int32 × Mm)
  | 0, _, _, _, _ => none
  | n + 1, x1, x2, x3, S => bnd (inB 0 2) (
if (1 <<< ((gI S 165 (0 : Int32).toNatClampNeg) &&& 31)) ≤ x3 then (some (x2, S)) else (if x2 = (-9) then (f_X7_few_51 (f_X7_few_22 n) x1 x2 x3 S) else (bd (f_X7_manyOf S x3) (fun r4 S5 =>
bd (f_X7_manyOf S5 x2) (fun r7 S8 =>
if r7 ≤ r4 then (nm (x3 + 1) (fun v11 =>
f_X7_few_22 n x1 x2 v11 S8)) else (f_X7_few_51 (f_X7_few_22 n) x1 x2 x3 S8))))))
def f_X7_few (S : Mm) (x1 : Int32) : Option (Int32 × Mm) :=
  bd (f_X7_in S x1 0 250) (fun r1 S2 =>
if r1 = 0 then (some ((-1), S2)) else (bd (f_X7_takeRow S2) (fun r5 S6 =>
f_X7_few_22 400 x1 ((-9)) 0 S6)))
def f_X7_first_19   : Nat → Int32 → Int32 → Int32 → Mm → Option (Int32 × Mm)
  | 0, _, _, _, _ => none
  | n + 1, x1, x2, x3, S => if x1 < x3 then (bd (f_X7_isTold S x1) (fun r2 S3 =>
if r2 = 0 then (some ((-9), S3)) else (some (x2, S3)))) else (bnd (inB x3 5) (
bnd (inB x2 5) (
if (lg_cmp (gJ S 176 x3.toNatClampNeg) (gJ S 176 x2.toNatClampNeg)) ≤ 0 then (nm (x3 + 1) (fun v9 =>
f_X7_first_19 n x1 x2 v9 S)) else (nm (x3 + 1) (fun v11 =>
f_X7_first_19 n x1 x3 v11 S)))))
def f_X7_first (S : Mm) (x1 : Int32) : Option (Int32 × Mm) :=
  bd (f_X7_isStep S x1) (fun r1 S2 =>
if r1 = 0 then (some ((-1), S2)) else (bd (f_X7_blameFor S2 x1) (fun r5 S6 =>
f_X7_first_19 400 x1 0 1 S6)))
def f_X7_forget (S : Mm)  : Option (Int32 × Mm) :=
  nm ((gI S 163 30)) (fun v1 =>
nm (sI S 163 30 0) (fun S3 =>
some (v1, S3)))
def f_X7_go_82 (kk16 : Int32 → Int32 → Int32 → Int32 → Mm → Option (Int32 × Mm))  (x1 : Int32) (x2 : Int32) (x3 : Int32) (x4 : Int32) (x5 : Int32) (S : Mm) : Option (Int32 × Mm) :=
  if ((x2 >>> (x5 &&& 31)) &&& 1) = 1 then (bnd (inB x5 10) (
nm (sI S 163 18 (((gI S 163 18) + (gI S 168 x5.toNatClampNeg)))) (fun S5 =>
if x3 = 0 then (nm (x4 + 1) (fun v8 =>
kk16 x1 x2 x3 v8 S5)) else (bd (f_X7_drawOf S5 x1 ((x5 + 5))) (fun r10 S11 =>
bnd (inB x5 10) (
if r10 < (gI S11 169 x5.toNatClampNeg) then (nm (x4 + 1) (fun v15 =>
kk16 x1 x2 x3 v15 S11)) else (nm (sI S11 163 19 x5) (fun S17 =>
some (2, S17))))))))) else (nm (x4 + 1) (fun v2 =>
kk16 x1 x2 x3 v2 S))
def f_X7_go_76 (kk16 : Int32 → Int32 → Int32 → Int32 → Mm → Option (Int32 × Mm))  (x1 : Int32) (x2 : Int32) (x4 : Int32) (x5 : Int32) (S : Mm) : Option (Int32 × Mm) :=
  f_X7_go_82 kk16 x1 x2 1 x4 x5 S
def f_X7_go_16   : Nat → Int32 → Int32 → Int32 → Int32 → Mm → Option (Int32 × Mm)
  | 0, _, _, _, _, _ => none
  | n + 1, x1, x2, x3, x4, S => bnd (inB 0 2) (
if (gI S 165 (0 : Int32).toNatClampNeg) ≤ x4 then (if x3 = 0 then (nm (sI S 163 18 (((gI S 163 18) + 0))) (fun S4 =>
if x3 = 0 then (some (0, S4)) else (some (1, S4)))) else (bnd (inB 0 2) (
nm (sI S 163 18 (((gI S 163 18) + (gI S 171 (0 : Int32).toNatClampNeg)))) (fun S8 =>
if x3 = 0 then (some (0, S8)) else (some (1, S8)))))) else (bnd (inB (0 + x4) 663) (
nm ((gI S 172 (0 + x4).toNatClampNeg)) (fun v12 =>
bnd (inB v12 10) (
nm (sI S 163 18 (((gI S 163 18) + (gI S 166 v12.toNatClampNeg)))) (fun S15 =>
if x3 = 0 then (bd (f_X7_drawOf S15 x1 v12) (fun r18 S19 =>
bnd (inB (5 + v12) 663) (
if (gI S19 172 (5 + v12).toNatClampNeg) ≤ r18 then (f_X7_go_82 (f_X7_go_16 n) x1 x2 0 x4 v12 S19) else (f_X7_go_76 (f_X7_go_16 n) x1 x2 x4 v12 S19)))) else (f_X7_go_76 (f_X7_go_16 n) x1 x2 x4 v12 S15)))))))
def f_X7_go (S : Mm) (x1 : Int32) (x2 : Int32) : Option (Int32 × Mm) :=
  nm (sI S 163 18 0) (fun S1 =>
nm (sI S1 163 19 ((-9))) (fun S3 =>
f_X7_go_16 400 x1 x2 0 0 S3))
def f_X7_isSeed (S : Mm) (x0 : Int32) : Option (Int32 × Mm) :=
  bd (f_X7_in S x0 0 9999) (fun r1 S2 =>
bnd (decide (r1 = 0 ∨ r1 = 1)) (some (r1, S2)))
def f_X7_keep_13   : Nat → Int32 → Int32 → Mm → Option (Int32 × Mm)
  | 0, _, _, _ => none
  | n + 1, x1, x2, S => if 221 ≤ x2 then (bnd (inB x1 2) (nm (sI S 173 x1.toNatClampNeg (vp_nar .boolean 1)) (fun S3 =>
bnd (inB 11 663) (
some ((gI S3 172 (11 : Int32).toNatClampNeg), S3))))) else (bnd (inB x2 663) (
bnd (inB ((221 * (1 + x1)) + x2) 663) (nm (sI S 172 ((221 * (1 + x1)) + x2).toNatClampNeg ((gI S 172 x2.toNatClampNeg))) (fun S8 =>
nm (x2 + 1) (fun v10 =>
f_X7_keep_13 n x1 v10 S8)))))
def f_X7_keep (S : Mm) (x1 : Int32) : Option (Int32 × Mm) :=
  bd (f_X7_in S x1 0 1) (fun r1 S2 =>
if r1 = 0 then (some ((-1), S2)) else (f_X7_keep_13 400 x1 0 S2))
def f_X7_know_58   : Nat → Int32 → Mm → Option (Unit × Mm)
  | 0, _, _ => none
  | n + 1, x1, S => if 20 ≤ x1 then (bnd (inB 20 663) (
bnd (inB 20 663) (nm (sI S 172 (20 : Int32).toNatClampNeg (((gI S 172 (20 : Int32).toNatClampNeg) + 1))) (fun S4 =>
some ((), S4))))) else (bnd (inB 20 663) (
bnd (inB x1 663) (
bnd (inB ((21 + (20 * (gI S 172 (20 : Int32).toNatClampNeg))) + x1) 663) (nm (sI S 172 ((21 + (20 * (gI S 172 (20 : Int32).toNatClampNeg))) + x1).toNatClampNeg ((gI S 172 x1.toNatClampNeg))) (fun S9 =>
nm (x1 + 1) (fun v11 =>
f_X7_know_58 n v11 S9))))))
def f_X7_know_14   : Nat → Int32 → Mm → Option (Unit × Mm)
  | 0, _, _ => none
  | n + 1, x1, S => if 180 ≤ x1 then (bnd (inB 20 663) (
bnd (inB 20 663) (nm (sI S 172 (20 : Int32).toNatClampNeg (((gI S 172 (20 : Int32).toNatClampNeg) - 1))) (fun S4 =>
f_X7_know_58 400 0 S4)))) else (bnd (inB (41 + x1) 663) (
bnd (inB (21 + x1) 663) (nm (sI S 172 (21 + x1).toNatClampNeg ((gI S 172 (41 + x1).toNatClampNeg))) (fun S8 =>
nm (x1 + 1) (fun v10 =>
f_X7_know_14 n v10 S8)))))
def f_X7_know (S : Mm)  : Option (Unit × Mm) :=
  bnd (inB 20 663) (
if (gI S 172 (20 : Int32).toNatClampNeg) = 10 then (f_X7_know_14 400 0 S) else (f_X7_know_58 400 0 S))
def f_X7_line (S : Mm) (x1 : Int32) : Option (Int32 × Mm) :=
  bd (f_X7_isStep S x1) (fun r1 S2 =>
if r1 = 0 then (some ((-1), S2)) else (bnd (inB (0 + x1) 663) (
some ((gI S2 172 (0 + x1).toNatClampNeg), S2))))
def f_X7_looks (S : Mm) (x1 : Int32) (x2 : Int32) : Option (Int32 × Mm) :=
  bd (f_X7_isStep S x1) (fun r1 S2 =>
if r1 = 0 then (some ((-1), S2)) else (bd (f_X7_in S2 x2 0 1) (fun r5 S6 =>
if r5 = 0 then (some ((-1), S6)) else (bnd (inB 10 663) (
if (((gI S6 172 (10 : Int32).toNatClampNeg) >>> (x1 &&& 31)) &&& 1) = x2 then (some ((-2), S6)) else (bd (f_X7_know S6) (fun r11 S12 =>
bnd (inB 10 663) (
bnd (inB 10 663) (nm (sI S12 172 (10 : Int32).toNatClampNeg (((gI S12 172 (10 : Int32).toNatClampNeg) ^^^ (1 <<< (x1 &&& 31))))) (fun S16 =>
bnd (inB 10 663) (
bd (f_X7_manyOf S16 ((gI S16 172 (10 : Int32).toNatClampNeg))) (fun r19 S20 =>
some (r19, S20)))))))))))))
def f_X7_lost (S : Mm) (x1 : Int32) (x2 : Int32) : Option (Int64 × Mm) :=
  bd (f_X7_isStep S x1) (fun r1 S2 =>
if r1 = 0 then (some ((-1), S2)) else (bd (f_X7_in S2 x2 0 1) (fun r5 S6 =>
if r5 = 0 then (some ((-1), S6)) else (bd (f_X7_takeRow S6) (fun r9 S10 =>
bnd (inB 10 663) (
bd (f_X7_measure S10 ((gI S10 172 (10 : Int32).toNatClampNeg))) (fun r13 S14 =>
bnd (inB x1 5) (
bd (f_X7_part S14 ((gJ S14 175 x1.toNatClampNeg)) ((gJ S14 163 21)) x2) (fun r17 S18 =>
some (r17, S18))))))))))
def f_X7_makes_114   (x2 : Int32) (S : Mm) : Option (Int32 × Mm) :=
  bnd (inB 19 663) (
bnd (inB 19 663) (nm (sI S 172 (19 : Int32).toNatClampNeg (((gI S 172 (19 : Int32).toNatClampNeg) + (gI S 163 18)))) (fun S3 =>
bnd (inB 19 663) (
if (gI S3 172 (19 : Int32).toNatClampNeg) ≤ 9999999 then (bnd (inB 19 663) (
bnd (inB 19 663) (nm (sI S3 172 (19 : Int32).toNatClampNeg ((gI S3 172 (19 : Int32).toNatClampNeg))) (fun S9 =>
some (x2, S9))))) else (bnd (inB 19 663) (nm (sI S3 172 (19 : Int32).toNatClampNeg 9999999) (fun S12 =>
some (x2, S12))))))))
def f_X7_makes_93   (x2 : Int32) (S : Mm) : Option (Int32 × Mm) :=
  if x2 = 2 then (bnd (inB (14 + (gI S 163 19)) 663) (
bnd (inB (14 + (gI S 163 19)) 663) (nm (sI S 172 (14 + (gI S 163 19)).toNatClampNeg (((gI S 172 (14 + (gI S 163 19)).toNatClampNeg) + 1))) (fun S4 =>
f_X7_makes_114 x2 S4)))) else (f_X7_makes_114 x2 S)
def f_X7_makes_73   (x2 : Int32) (S : Mm) : Option (Int32 × Mm) :=
  bnd (inB 13 663) (
if x2 = 1 then (bnd (inB 13 663) (nm (sI S 172 (13 : Int32).toNatClampNeg (((gI S 172 (13 : Int32).toNatClampNeg) + 1))) (fun S7 =>
f_X7_makes_93 x2 S7))) else (bnd (inB 13 663) (nm (sI S 172 (13 : Int32).toNatClampNeg (((gI S 172 (13 : Int32).toNatClampNeg) + 0))) (fun S4 =>
f_X7_makes_93 x2 S4))))
def f_X7_makes (S : Mm) (x1 : Int32) : Option (Int32 × Mm) :=
  bd (f_X7_isSeed S x1) (fun r1 S2 =>
if r1 = 0 then (some ((-1), S2)) else (bnd (inB 11 663) (
if (gI S2 172 (11 : Int32).toNatClampNeg) = 9999 then (some ((-2), S2)) else (bd (f_X7_know S2) (fun r7 S8 =>
bnd (inB 10 663) (
bd (f_X7_go S8 x1 ((gI S8 172 (10 : Int32).toNatClampNeg))) (fun r11 S12 =>
bnd (inB 11 663) (
bnd (inB 11 663) (nm (sI S12 172 (11 : Int32).toNatClampNeg (((gI S12 172 (11 : Int32).toNatClampNeg) + 1))) (fun S16 =>
bnd (inB 12 663) (
if 2 ≤ r11 then (bnd (inB 12 663) (nm (sI S16 172 (12 : Int32).toNatClampNeg (((gI S16 172 (12 : Int32).toNatClampNeg) + 0))) (fun S21 =>
f_X7_makes_73 r11 S21))) else (bnd (inB 12 663) (nm (sI S16 172 (12 : Int32).toNatClampNeg (((gI S16 172 (12 : Int32).toNatClampNeg) + 1))) (fun S24 =>
f_X7_makes_73 r11 S24))))))))))))))
def f_X7_mark (S : Mm) (x1 : Int32) (x2 : Int32) : Option (Int32 × Mm) :=
  bd (f_X7_in S x1 0 5) (fun r1 S2 =>
if r1 = 0 then (some ((-1000000), S2)) else (bd (f_X7_isStep S2 x2) (fun r5 S6 =>
if r5 = 0 then (some ((-1000000), S6)) else (bnd (inB x2 10) (
bnd (inB (5 + x2) 663) (
nm (((gI S6 166 x2.toNatClampNeg) + (gI S6 172 (5 + x2).toNatClampNeg))) (fun v11 =>
bnd (inB x2 10) (
bnd (inB x2 10) (
nm (((gI S6 166 x2.toNatClampNeg) - (gI S6 168 x2.toNatClampNeg))) (fun v15 =>
if x1 = 0 then (nm (sJ S6 163 0 (((gJ S6 163 0) + 1))) (fun S18 =>
bnd (inB x2 10) (
some ((gI S18 166 x2.toNatClampNeg), S18)))) else (if x1 = 1 then (nm (sJ S6 163 0 (((gJ S6 163 0) + 11))) (fun S22 =>
some (v11, S22))) else (if x1 = 2 then (nm (sJ S6 163 0 (((gJ S6 163 0) + 101))) (fun S25 =>
some (v15, S25))) else (if x1 = 3 then (nm (sJ S6 163 0 (((gJ S6 163 0) + 1011))) (fun S28 =>
some ((2 * v11), S28))) else (if x1 = 4 then (nm (sJ S6 163 0 (((gJ S6 163 0) + 10101))) (fun S31 =>
bnd (inB (14 + x2) 663) (
some ((v15 + (gI S31 172 (14 + x2).toNatClampNeg)), S31)))) else (nm (sJ S6 163 0 (((gJ S6 163 0) + 100001))) (fun S34 =>
bnd (inB x2 10) (
bnd (inB 11 663) (
some (((gI S34 166 x2.toNatClampNeg) + (gI S34 172 (11 : Int32).toNatClampNeg)), S34)))))))))))))))))))
def f_X7_mayBe (S : Mm) (x1 : Int32) : Option (Int32 × Mm) :=
  if x1 = 104 then (some (1, S)) else (if x1 = 112 then (if (gI S 163 10) = 0 then (some (1, S)) else (some (0, S))) else (if x1 = 115 then (bnd (inB 1 2) (
if 5 ≤ (gI S 165 (1 : Int32).toNatClampNeg) then (some (0, S)) else (some (1, S)))) else (some (0, S))))
def f_X7_mean (S : Mm) (x1 : Int32) (x2 : Int32) : Option (Int64 × Mm) :=
  bd (f_X7_in S x1 0 3) (fun r1 S2 =>
if r1 = 0 then (some ((-1), S2)) else (bd (f_X7_in S2 x2 0 1) (fun r5 S6 =>
if r5 = 0 then (some ((-1), S6)) else (bd (f_X7_takeRow S6) (fun r9 S10 =>
bnd (inB 10 663) (
bd (f_X7_measure S10 ((gI S10 172 (10 : Int32).toNatClampNeg))) (fun r13 S14 =>
if x1 = 0 then (bd (f_X7_part S14 ((gJ S14 163 22)) ((gJ S14 163 21)) x2) (fun r17 S18 =>
some (r17, S18))) else (if x1 = 1 then (bd (f_X7_part S14 ((gJ S14 163 23)) ((gJ S14 163 21)) x2) (fun r21 S22 =>
some (r21, S22))) else (if x1 = 2 then (bd (f_X7_part S14 ((gJ S14 163 24)) ((gJ S14 163 21)) x2) (fun r25 S26 =>
some (r25, S26))) else (if (lg_cmp (gJ S14 163 23) 0) = 0 then (some ((-9), S14)) else (bd (f_X7_part S14 ((gJ S14 163 22)) ((gJ S14 163 23)) x2) (fun r29 S30 =>
some (r29, S30)))))))))))))
def f_X7_moves (S : Mm) (x1 : Int32) : Option (Int32 × Mm) :=
  bnd (inB 0 2) (
bd (f_X7_in S x1 1 (((gI S 165 (0 : Int32).toNatClampNeg) - 1))) (fun r2 S3 =>
if r2 = 0 then (some ((-1), S3)) else (bnd (inB (0 + x1) 663) (
nm ((gI S3 172 (0 + x1).toNatClampNeg)) (fun v7 =>
bnd (inB ((0 + x1) - 1) 663) (
nm ((gI S3 172 ((0 + x1) - 1).toNatClampNeg)) (fun v10 =>
bnd (inB v10 10) (
if (((gI S3 170 v10.toNatClampNeg) >>> (v7 &&& 31)) &&& 1) = 1 then (some ((-2), S3)) else (bd (f_X7_know S3) (fun r14 S15 =>
bnd (inB (0 + x1) 663) (nm (sI S15 172 (0 + x1).toNatClampNeg v10) (fun S18 =>
bnd (inB ((0 + x1) - 1) 663) (nm (sI S18 172 ((0 + x1) - 1).toNatClampNeg v7) (fun S21 =>
some (v10, S21)))))))))))))))
def f_X7_now_68   : Nat → Int32 → Int32 → Mm → Option (Int32 × Mm)
  | 0, _, _, _ => none
  | n + 1, x2, x3, S => if 5 ≤ x3 then (some (x2, S)) else (bnd (inB (14 + x3) 663) (
nm ((x2 + (gI S 172 (14 + x3).toNatClampNeg))) (fun v3 =>
nm (x3 + 1) (fun v5 =>
f_X7_now_68 n v3 v5 S))))
def f_X7_now (S : Mm) (x1 : Int32) : Option (Int32 × Mm) :=
  if x1 = 0 then (bnd (inB 11 663) (
some ((gI S 172 (11 : Int32).toNatClampNeg), S))) else (if x1 = 1 then (bnd (inB 12 663) (
some ((gI S 172 (12 : Int32).toNatClampNeg), S))) else (if x1 = 2 then (bnd (inB 13 663) (
some ((gI S 172 (13 : Int32).toNatClampNeg), S))) else (if x1 = 3 then (f_X7_now_68 400 0 0 S) else (if x1 = 4 then (bnd (inB 19 663) (
some ((gI S 172 (19 : Int32).toNatClampNeg), S))) else (if x1 = 5 then (bnd (inB 10 663) (
some ((gI S 172 (10 : Int32).toNatClampNeg), S))) else (some ((-1), S)))))))
def f_X7_number (S : Mm) (x1 : Int32) (x2 : Int32) : Option (Int32 × Mm) :=
  if (gI S 163 13) = 1 then (bd (f_X7_in S ((gI S 163 14)) x1 x2) (fun r5 S6 =>
if r5 = 0 then (bd (f_X7_due S6 0) (fun r9 S10 =>
some (r9, S10))) else (bd (f_X7_due S6 1) (fun r12 S13 =>
some (r12, S13))))) else (bd (f_X7_due S 0) (fun r2 S3 =>
some (r2, S3)))
def f_X7_paper (S : Mm) (x1 : Int32) (x2 : Int32) : Option (Int64 × Mm) :=
  bd (f_X7_in S x1 1 99) (fun r1 S2 =>
if r1 = 0 then (some ((-1), S2)) else (bd (f_X7_in S2 x2 0 1) (fun r5 S6 =>
if r5 = 0 then (some ((-1), S6)) else (bd (f_X7_takeRow S6) (fun r9 S10 =>
bnd (inB 10 663) (
bd (f_X7_measure S10 ((gI S10 172 (10 : Int32).toNatClampNeg))) (fun r13 S14 =>
if (lg_cmp ((gJ S14 163 23) + (gJ S14 163 24)) 0) = 0 then (some ((-9), S14)) else (bd (f_X7_part S14 ((x1.toInt64 * (gJ S14 163 24))) (((gJ S14 163 23) + (gJ S14 163 24))) x2) (fun r17 S18 =>
some (r17, S18))))))))))
def f_X7_placeOf_2   : Nat → Int32 → Int32 → Mm → Option (Int32 × Mm)
  | 0, _, _, _ => none
  | n + 1, x1, x2, S => bnd (inB 0 2) (
if (gI S 165 (0 : Int32).toNatClampNeg) ≤ x2 then (some ((-9), S)) else (bnd (inB (0 + x2) 663) (
if (gI S 172 (0 + x2).toNatClampNeg) = x1 then (some (x2, S)) else (nm (x2 + 1) (fun v5 =>
f_X7_placeOf_2 n x1 v5 S)))))
def f_X7_placeOf (S : Mm) (x1 : Int32) : Option (Int32 × Mm) :=
  f_X7_placeOf_2 400 x1 0 S
def f_X7_plain_22   : Nat → Int32 → Mm → Option (Unit × Mm)
  | 0, _, _ => none
  | n + 1, x1, S => if 5 ≤ x1 then (some ((), S)) else (bnd (inB (5 + x1) 10) (nm (sI S 170 (5 + x1).toNatClampNeg 0) (fun S3 =>
nm (x1 + 1) (fun v5 =>
f_X7_plain_22 n v5 S3))))
def f_X7_plain (S : Mm)  : Option (Unit × Mm) :=
  bnd (inB 1 2) (nm (sI S 165 (1 : Int32).toNatClampNeg 0) (fun S2 =>
bnd (inB 1 2) (nm (sI S2 171 (1 : Int32).toNatClampNeg 50) (fun S5 =>
nm (sI S5 163 10 0) (fun S7 =>
f_X7_plain_22 400 0 S7)))))
def f_X7_readRow (S : Mm) (x1 : Int32) : Option (Unit × Mm) :=
  if x1 = 104 then (bnd (inB 1 2) (
bd (f_X7_number S 0 (((gI S 165 (1 : Int32).toNatClampNeg) - 1))) (fun r3 S4 =>
bnd (inB 1 2) (
bd (f_X7_number S4 ((r3 + 1)) (((gI S4 165 (1 : Int32).toNatClampNeg) - 1))) (fun r7 S8 =>
if (gI S8 163 15) = (-9) then (bnd (inB (5 + r3) 10) (
bnd (inB (5 + r3) 10) (nm (sI S8 170 (5 + r3).toNatClampNeg (((gI S8 170 (5 + r3).toNatClampNeg) ||| (1 <<< (r7 &&& 31))))) (fun S13 =>
some ((), S13))))) else (some ((), S8))))))) else (if x1 = 115 then (bnd (inB 1 2) (
nm ((gI S 165 (1 : Int32).toNatClampNeg)) (fun v17 =>
bd (f_X7_number S 1 99) (fun r19 S20 =>
bnd (inB (5 + v17) 10) (nm (sI S20 166 (5 + v17).toNatClampNeg r19) (fun S23 =>
bd (f_X7_number S23 0 9) (fun r25 S26 =>
bnd (inB v17 5) (nm (sI S26 167 v17.toNatClampNeg r25) (fun S29 =>
bd (f_X7_number S29 1 30) (fun r31 S32 =>
bnd (inB (5 + v17) 10) (nm (sI S32 168 (5 + v17).toNatClampNeg r31) (fun S35 =>
bd (f_X7_number S35 0 9) (fun r37 S38 =>
bnd (inB (5 + v17) 10) (nm (sI S38 169 (5 + v17).toNatClampNeg r37) (fun S41 =>
bnd (inB 1 2) (
bnd (inB 1 2) (nm (sI S41 165 (1 : Int32).toNatClampNeg (((gI S41 165 (1 : Int32).toNatClampNeg) + 1))) (fun S45 =>
some ((), S45))))))))))))))))))) else (bd (f_X7_number S 0 99) (fun r47 S48 =>
bnd (inB 1 2) (nm (sI S48 171 (1 : Int32).toNatClampNeg r47) (fun S51 =>
nm (sI S51 163 10 1) (fun S53 =>
some ((), S53)))))))
def f_X7_takeDraft_47   : Nat → Int32 → Mm → Option (Unit × Mm)
  | 0, _, _ => none
  | n + 1, x1, S => if 5 ≤ x1 then (bnd (inB 20 663) (nm (sI S 172 (20 : Int32).toNatClampNeg 0) (fun S3 =>
nm (sI S3 163 30 0) (fun S5 =>
bnd (inB 0 2) (nm (sI S5 173 (0 : Int32).toNatClampNeg (vp_nar .boolean 0)) (fun S8 =>
bnd (inB 1 2) (nm (sI S8 173 (1 : Int32).toNatClampNeg (vp_nar .boolean 0)) (fun S11 =>
some ((), S11))))))))) else (bnd (inB (5 + x1) 10) (
bnd (inB x1 10) (nm (sI S 166 x1.toNatClampNeg ((gI S 166 (5 + x1).toNatClampNeg))) (fun S15 =>
bnd (inB (5 + x1) 10) (
bnd (inB x1 10) (nm (sI S15 168 x1.toNatClampNeg ((gI S15 168 (5 + x1).toNatClampNeg))) (fun S19 =>
bnd (inB (5 + x1) 10) (
bnd (inB x1 10) (nm (sI S19 169 x1.toNatClampNeg ((gI S19 169 (5 + x1).toNatClampNeg))) (fun S23 =>
bnd (inB (5 + x1) 10) (
bnd (inB x1 10) (nm (sI S23 170 x1.toNatClampNeg ((gI S23 170 (5 + x1).toNatClampNeg))) (fun S27 =>
bnd (inB (0 + x1) 663) (nm (sI S27 172 (0 + x1).toNatClampNeg x1) (fun S30 =>
bnd (inB x1 5) (
bnd (inB (5 + x1) 663) (nm (sI S30 172 (5 + x1).toNatClampNeg ((gI S30 167 x1.toNatClampNeg))) (fun S34 =>
nm (x1 + 1) (fun v36 =>
f_X7_takeDraft_47 n v36 S34)))))))))))))))))))
def f_X7_takeDraft_26   : Nat → Int32 → Mm → Option (Unit × Mm)
  | 0, _, _ => none
  | n + 1, x1, S => if 20 ≤ x1 then (f_X7_takeDraft_47 400 0 S) else (bnd (inB x1 663) (nm (sI S 172 x1.toNatClampNeg 0) (fun S3 =>
nm (x1 + 1) (fun v5 =>
f_X7_takeDraft_26 n v5 S3))))
def f_X7_takeDraft (S : Mm)  : Option (Unit × Mm) :=
  bnd (inB 1 2) (
bnd (inB 0 2) (nm (sI S 165 (0 : Int32).toNatClampNeg ((gI S 165 (1 : Int32).toNatClampNeg))) (fun S3 =>
bnd (inB 1 2) (
bnd (inB 0 2) (nm (sI S3 171 (0 : Int32).toNatClampNeg ((gI S3 171 (1 : Int32).toNatClampNeg))) (fun S7 =>
f_X7_takeDraft_26 400 0 S7))))))
def f_X7_shop_91   (x1 : Int32) (S : Mm) : Option (Int32 × Mm) :=
  if (gI S 163 15) = (-9) then (bd (f_X7_takeDraft S) (fun r2 S3 =>
nm (sI S3 163 2 0) (fun S5 =>
some (x1, S5)))) else (some (((-10) - (gI S 163 15)), S))
def f_X7_shop_21   : Nat → Int32 → Mm → Option (Int32 × Mm)
  | 0, _, _ => none
  | n + 1, x1, S => if (gI S 163 15) = (-9) then (if (gI S 163 13) = 3 then (f_X7_shop_91 x1 S) else (nm ((gI S 163 13)) (fun v3 =>
bd (f_X7_mayBe S v3) (fun r5 S6 =>
bd (f_X7_due S6 r5) (fun r8 S9 =>
if (gI S9 163 15) = (-9) then (bd (f_X7_readRow S9 v3) (fun r12 S13 =>
if (gI S13 163 13) = 2 then (bd (f_X7_due S13 1) (fun r21 S22 =>
nm (x1 + 1) (fun v24 =>
f_X7_shop_21 n v24 S22))) else (bd (f_X7_due S13 0) (fun r16 S17 =>
nm (x1 + 1) (fun v19 =>
f_X7_shop_21 n v19 S17))))) else (f_X7_shop_21 n x1 S9)))))) else (f_X7_shop_91 x1 S)
def f_X7_shop (S : Mm)  : Option (Int32 × Mm) :=
  nm (sI S 163 11 0) (fun S1 =>
nm (sI S1 163 15 ((-9))) (fun S3 =>
bd (f_X7_plain S3) (fun r5 S6 =>
bd (f_X7_read S6) (fun r8 S9 =>
f_X7_shop_21 400 0 S9))))
def f_X7_skill (S : Mm) (x1 : Int32) (x2 : Int32) : Option (Int32 × Mm) :=
  bd (f_X7_isStep S x1) (fun r1 S2 =>
if r1 = 0 then (some ((-1), S2)) else (bd (f_X7_in S2 x2 0 9) (fun r5 S6 =>
if r5 = 0 then (some ((-1), S6)) else (bd (f_X7_know S6) (fun r9 S10 =>
bnd (inB (5 + x1) 663) (
nm ((gI S10 172 (5 + x1).toNatClampNeg)) (fun v13 =>
bnd (inB (5 + x1) 663) (nm (sI S10 172 (5 + x1).toNatClampNeg x2) (fun S16 =>
some (v13, S16))))))))))
def f_X7_step (S : Mm) (x1 : Int32) (x2 : Int32) : Option (Int32 × Mm) :=
  bd (f_X7_isStep S x1) (fun r1 S2 =>
if r1 = 0 then (some ((-1), S2)) else (if x2 = 0 then (bnd (inB x1 10) (
some ((gI S2 166 x1.toNatClampNeg), S2))) else (if x2 = 1 then (bnd (inB (5 + x1) 663) (
some ((gI S2 172 (5 + x1).toNatClampNeg), S2))) else (if x2 = 2 then (bnd (inB x1 10) (
some ((gI S2 168 x1.toNatClampNeg), S2))) else (if x2 = 3 then (bnd (inB x1 10) (
some ((gI S2 169 x1.toNatClampNeg), S2))) else (if x2 = 4 then (bnd (inB 10 663) (
some ((((gI S2 172 (10 : Int32).toNatClampNeg) >>> (x1 &&& 31)) &&& 1), S2))) else (if x2 = 5 then (bnd (inB (14 + x1) 663) (
some ((gI S2 172 (14 + x1).toNatClampNeg), S2))) else (if x2 = 6 then (bd (f_X7_placeOf S2 x1) (fun r18 S19 =>
some (r18, S19))) else (if x2 = 7 then (bnd (inB x1 10) (
some ((gI S2 170 x1.toNatClampNeg), S2))) else (some ((-1), S2)))))))))))
def f_X7_tells (S : Mm) (x1 : Int32) (x2 : Int32) : Option (Int32 × Mm) :=
  bd (f_X7_isSeed S x1) (fun r1 S2 =>
if r1 = 0 then (some ((-1), S2)) else (bd (f_X7_in S2 x2 0 2) (fun r5 S6 =>
if r5 = 0 then (some ((-1), S6)) else (if (gI S6 163 30) = 6 then (some ((-3), S6)) else (bnd (inB (gI S6 163 30) 6) (nm (sI S6 178 (gI S6 163 30).toNatClampNeg x1) (fun S11 =>
bnd (inB (gI S11 163 30) 6) (nm (sI S11 179 (gI S11 163 30).toNatClampNeg x2) (fun S14 =>
nm (sI S14 163 30 (((gI S14 163 30) + 1))) (fun S16 =>
some ((gI S16 163 30), S16)))))))))))
def f_X7_trace (S : Mm)  : Option (Int64 × Mm) :=
  some ((gJ S 163 0), S)
def f_X7_type (S : Mm) (x1 : Int32) : Option (Int32 × Mm) :=
  bd (f_X7_in S x1 0 255) (fun r1 S2 =>
if r1 = 0 then (some ((-1), S2)) else (if (gI S2 163 2) = 150 then (some ((-3), S2)) else (bnd (inB (gI S2 163 2) 150) (nm (sI S2 164 (gI S2 163 2).toNatClampNeg (vp_nar .byte x1.toInt8.toInt32)) (fun S7 =>
nm (sI S7 163 2 (((gI S7 163 2) + 1))) (fun S9 =>
some ((gI S9 163 2), S9)))))))
def f_X7_undo_26   : Nat → Int32 → Mm → Option (Int32 × Mm)
  | 0, _, _ => none
  | n + 1, x1, S => if 20 ≤ x1 then (bnd (inB 20 663) (
some ((gI S 172 (20 : Int32).toNatClampNeg), S))) else (bnd (inB 20 663) (
bnd (inB ((21 + (20 * (gI S 172 (20 : Int32).toNatClampNeg))) + x1) 663) (
bnd (inB x1 663) (nm (sI S 172 x1.toNatClampNeg ((gI S 172 ((21 + (20 * (gI S 172 (20 : Int32).toNatClampNeg))) + x1).toNatClampNeg))) (fun S6 =>
nm (x1 + 1) (fun v8 =>
f_X7_undo_26 n v8 S6))))))
def f_X7_undo (S : Mm)  : Option (Int32 × Mm) :=
  bnd (inB 20 663) (
if (gI S 172 (20 : Int32).toNatClampNeg) = 0 then (some ((-2), S)) else (bnd (inB 20 663) (
bnd (inB 20 663) (nm (sI S 172 (20 : Int32).toNatClampNeg (((gI S 172 (20 : Int32).toNatClampNeg) - 1))) (fun S5 =>
f_X7_undo_26 400 0 S5)))))
def f_X7_who_50 (kk31 : Int32 → Int32 → Int32 → Int32 → Int32 → Mm → Option (Int32 × Mm))  : Nat → Int32 → Int32 → Int32 → Int32 → Int32 → Int32 → Int32 → Mm → Option (Int32 × Mm)
  | 0, _, _, _, _, _, _, _, _ => none
  | n + 1, x1, x2, x3, x4, x5, x6, x7, S => if (gI S 163 30) ≤ x7 then (if x6 = 0 then (nm (x5 + 1) (fun v3 =>
kk31 x1 x2 x3 x4 v3 S)) else (if x2 = 0 then (nm ((x4 &&& x5)) (fun v12 =>
nm (x2 + 1) (fun v14 =>
nm (x5 + 1) (fun v16 =>
kk31 x1 v14 x5 v12 v16 S)))) else (nm ((x4 &&& x5)) (fun v6 =>
nm (x2 + 1) (fun v8 =>
nm (x5 + 1) (fun v10 =>
kk31 x1 v8 x3 v6 v10 S)))))) else (if x6 = 0 then (nm (x7 + 1) (fun v19 =>
f_X7_who_50 kk31 n x1 x2 x3 x4 x5 0 v19 S)) else (bnd (inB x7 6) (
bd (f_X7_go S ((gI S 178 x7.toNatClampNeg)) x5) (fun r22 S23 =>
bnd (inB x7 6) (
if r22 = (gI S23 179 x7.toNatClampNeg) then (nm (x7 + 1) (fun v29 =>
f_X7_who_50 kk31 n x1 x2 x3 x4 x5 1 v29 S23)) else (nm (x7 + 1) (fun v27 =>
f_X7_who_50 kk31 n x1 x2 x3 x4 x5 0 v27 S23)))))))
def f_X7_who_31   : Nat → Int32 → Int32 → Int32 → Int32 → Int32 → Mm → Option (Int32 × Mm)
  | 0, _, _, _, _, _, _ => none
  | n + 1, x1, x2, x3, x4, x5, S => bnd (inB 0 2) (
if (1 <<< ((gI S 165 (0 : Int32).toNatClampNeg) &&& 31)) ≤ x5 then (if x1 = 0 then (some (x2, S)) else (if x1 = 1 then (some (x3, S)) else (if x2 = 0 then (some ((-9), S)) else (some (x4, S))))) else (f_X7_who_50 (f_X7_who_31 n) 400 x1 x2 x3 x4 x5 1 0 S))
def f_X7_who (S : Mm) (x1 : Int32) : Option (Int32 × Mm) :=
  bd (f_X7_in S x1 0 2) (fun r1 S2 =>
if r1 = 0 then (some ((-1), S2)) else (bnd (inB 0 2) (
nm (((1 <<< ((gI S2 165 (0 : Int32).toNatClampNeg) &&& 31)) - 1)) (fun v6 =>
f_X7_who_31 400 x1 0 ((-9)) v6 0 S2))))
