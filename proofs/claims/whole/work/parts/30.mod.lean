def f_X12_thrown (Z : hZ) (σ0 : hSt) : Option Int32 := some (σ0.1 200 0)
def f_X12_isIn (x0 : Int64) (x2 : Int64) (x4 : Int64) : Option Int32 := (if x0 < x2 then some (0 : Int32) else (if x4 < x0 then some (0 : Int32) else some (1 : Int32)))
def f_X12_bytesIn_L5 (y0 : Int32) : Nat → Int32 → Int32 → Option Int32
  | 0, _, _ => none
  | n + 1, z1, z2 => (if z2 < (0 : Int32) then some z1 else (if ((y0 >>> (z2 &&& 31)) &&& (255 : Int32)) = (0 : Int32) then f_X12_bytesIn_L5 y0 n (z1 + (0 : Int32)) (z2 + (-8 : Int32)) else f_X12_bytesIn_L5 y0 n (z1 + (1 : Int32)) (z2 + (-8 : Int32))))
def f_X12_bytesIn (F : Nat) (x0 : Int32) : Option Int32 := f_X12_bytesIn_L5 x0 F (0 : Int32) (24 : Int32)
def f_X12_put_L3 (y1 : Int32) : Nat → hSt → Int32 → Option (Unit × hSt)
  | 0, _, _ => none
  | n + 1, σ1, z2 => (if z2 < (0 : Int32) then some ((), σ1) else (if ((y1 >>> (z2 &&& 31)) &&& (255 : Int32)) = (0 : Int32) then f_X12_put_L3 y1 n σ1 (z2 + (-8 : Int32)) else if ((σ1.1 200 3) : Int32) < 0 ∨ 200 ≤ ((σ1.1 200 3) : Int32).toNatClampNeg then none else f_X12_put_L3 y1 n (sI (sI σ1 201 (((σ1.1 200 3) : Int32).toNatClampNeg) (vp_nar .byte ((y1 >>> (z2 &&& 31)) : Int32).toInt8.toInt32)) 200 3 ((σ1.1 200 3) + (1 : Int32))) (z2 + (-8 : Int32))))
def f_X12_put (F : Nat) (Z : hZ) (σ0 : hSt) (x1 : Int32) : Option (Unit × hSt) := f_X12_put_L3 x1 F σ0 (24 : Int32)
def f_X12_feed (F : Nat) (Z : hZ) (σ0 : hSt) (x1 : Int32) (x2 : Int32) (x3 : Int32) (x4 : Int32) (x5 : Int32) : Option (Int32 × hSt) := (f_X12_bytesIn F x1).bind fun q1 => (f_X12_bytesIn F x2).bind fun q2 => (f_X12_bytesIn F x3).bind fun q3 => (f_X12_bytesIn F x4).bind fun q4 => (f_X12_bytesIn F x5).bind fun q5 => (if ((((((σ0.1 200 3) + q1) + q2) + q3) + q4) + q5) ≤ (200 : Int32) then (f_X12_put F Z (sI σ0 200 0 (0 : Int32)) x1).bind fun q7 => (f_X12_put F Z q7.2 x2).bind fun q8 => (f_X12_put F Z q8.2 x3).bind fun q9 => (f_X12_put F Z q9.2 x4).bind fun q10 => (f_X12_put F Z q10.2 x5).bind fun q11 => some ((q11.2.1 200 3), q11.2) else some ((-1 : Int32), (sI σ0 200 0 (0 : Int32))))
def f_X12_end (Z : hZ) (σ0 : hSt) (x1 : Int32) : Option (Int32 × hSt) := (if x1 < (0 : Int32) then some ((0 : Int32), (sI σ0 200 0 (0 : Int32))) else (if x1 ≤ (σ0.1 200 3) then some ((1 : Int32), (sI (sI σ0 200 0 (0 : Int32)) 200 3 x1)) else some ((0 : Int32), (sI σ0 200 0 (0 : Int32)))))
def f_X12_begin (Z : hZ) (σ0 : hSt) (r1 : Nat) (x2 : Int32) (x3 : Int32) (x4 : Int32) : Option (Unit × hSt) := some ((), (sI (sI (sI (sI (sI (sI (sR σ0 200 2 (some r1)) 200 4 x2) 200 5 x3) 200 6 (0 : Int32)) 200 7 (-1 : Int32)) 200 8 (0 : Int32)) 200 9 x4))
def f_X12_look_L0 (k43 : hSt → Option (Int32 × hSt)) : Nat → hSt → Option (Int32 × hSt)
  | 0, _ => none
  | n + 1, σ1 => (if (σ1.1 200 5) ≤ (σ1.1 200 6) then k43 σ1 else (oc (σ1.2.2 200 2) (none) (fun r2 => if isBy r2 = true then if (((σ1.1 200 4) + (σ1.1 200 6)) : Int32) < 0 ∨ (blen r2) ≤ (((σ1.1 200 4) + (σ1.1 200 6)) : Int32).toNatClampNeg then none else (if (σ1.1 r2 ((((σ1.1 200 4) + (σ1.1 200 6)) : Int32).toNatClampNeg)) = (32 : Int32) then f_X12_look_L0 k43 n (sI σ1 200 6 ((σ1.1 200 6) + (1 : Int32))) else k43 σ1) else none)))
def f_X12_look (F : Nat) (Z : hZ) (σ0 : hSt) : Option (Int32 × hSt) := f_X12_look_L0 (fun σ1 => (if (σ1.1 200 5) ≤ (σ1.1 200 6) then some ((-1 : Int32), σ1) else (oc (σ1.2.2 200 2) (none) (fun r6 => if isBy r6 = true then if (((σ1.1 200 4) + (σ1.1 200 6)) : Int32) < 0 ∨ (blen r6) ≤ (((σ1.1 200 4) + (σ1.1 200 6)) : Int32).toNatClampNeg then none else some (((σ1.1 r6 ((((σ1.1 200 4) + (σ1.1 200 6)) : Int32).toNatClampNeg)) &&& (255 : Int32)), σ1) else none)))) F σ0
def f_X12_fails (Z : hZ) (σ0 : hSt) : Option (Int32 × hSt) := (if (σ0.1 200 7) = (-1 : Int32) then some ((0 : Int32), (sI σ0 200 7 (σ0.1 200 6))) else some ((0 : Int32), σ0))
def f_X12_goesIn (Z : hZ) (σ0 : hSt) : Option (Int32 × hSt) := (if (σ0.1 200 8) = (σ0.1 200 9) then (f_X12_fails Z σ0).bind fun q2 => if q2.1 = 0 ∨ q2.1 = 1 then some (q2.1, q2.2) else none else some ((1 : Int32), (sI (sI σ0 200 8 ((σ0.1 200 8) + (1 : Int32))) 200 6 ((σ0.1 200 6) + (1 : Int32)))))
def f_X12_takes (F : Nat) (Z : hZ) (σ0 : hSt) (x1 : Int32) : Option (Int32 × hSt) := (if (σ0.1 200 7) = (-1 : Int32) then (f_X12_look F Z σ0).bind fun q4 => (if q4.1 = x1 then some ((1 : Int32), (sI q4.2 200 6 ((q4.2.1 200 6) + (1 : Int32)))) else (f_X12_fails Z q4.2).bind fun q6 => if q6.1 = 0 ∨ q6.1 = 1 then some (q6.1, q6.2) else none) else (f_X12_fails Z σ0).bind fun q2 => if q2.1 = 0 ∨ q2.1 = 1 then some (q2.1, q2.2) else none)
def f_X12_sign (Z : hZ) (σ0 : hSt) (x1 : Int32) : Option (Unit × hSt) := if ((σ0.1 200 16) : Int32) < 0 ∨ 21 ≤ ((σ0.1 200 16) : Int32).toNatClampNeg then none else if ((((200 : Int32) * (σ0.1 200 16)) + (σ0.1 203 (((σ0.1 200 16) : Int32).toNatClampNeg))) : Int32) < 0 ∨ 4200 ≤ ((((200 : Int32) * (σ0.1 200 16)) + (σ0.1 203 (((σ0.1 200 16) : Int32).toNatClampNeg))) : Int32).toNatClampNeg then none else if ((σ0.1 200 16) : Int32) < 0 ∨ 21 ≤ ((σ0.1 200 16) : Int32).toNatClampNeg then none else if ((σ0.1 200 16) : Int32) < 0 ∨ 21 ≤ ((σ0.1 200 16) : Int32).toNatClampNeg then none else (if x1 ≤ (5 : Int32) then if ((((6 : Int32) * (σ0.1 200 16)) + x1) : Int32) < 0 ∨ 126 ≤ ((((6 : Int32) * (σ0.1 200 16)) + x1) : Int32).toNatClampNeg then none else if ((((6 : Int32) * (σ0.1 200 16)) + x1) : Int32) < 0 ∨ 126 ≤ ((((6 : Int32) * (σ0.1 200 16)) + x1) : Int32).toNatClampNeg then none else if ((σ0.1 200 16) : Int32) < 0 ∨ 21 ≤ ((σ0.1 200 16) : Int32).toNatClampNeg then none else if ((σ0.1 200 16) : Int32) < 0 ∨ 21 ≤ ((σ0.1 200 16) : Int32).toNatClampNeg then none else some ((), (sI (sI (sI (sI σ0 202 (((((200 : Int32) * (σ0.1 200 16)) + (σ0.1 203 (((σ0.1 200 16) : Int32).toNatClampNeg))) : Int32).toNatClampNeg) x1) 203 (((σ0.1 200 16) : Int32).toNatClampNeg) ((σ0.1 203 (((σ0.1 200 16) : Int32).toNatClampNeg)) + (1 : Int32))) 205 (((((6 : Int32) * (σ0.1 200 16)) + x1) : Int32).toNatClampNeg) ((σ0.1 205 (((((6 : Int32) * (σ0.1 200 16)) + x1) : Int32).toNatClampNeg)) + (1 : Int32))) 204 (((σ0.1 200 16) : Int32).toNatClampNeg) (if (σ0.1 204 (((σ0.1 200 16) : Int32).toNatClampNeg)) < (x1 + (1 : Int32)) then (x1 + (1 : Int32)) else (σ0.1 204 (((σ0.1 200 16) : Int32).toNatClampNeg))))) else if ((σ0.1 200 16) : Int32) < 0 ∨ 21 ≤ ((σ0.1 200 16) : Int32).toNatClampNeg then none else if ((σ0.1 200 16) : Int32) < 0 ∨ 21 ≤ ((σ0.1 200 16) : Int32).toNatClampNeg then none else some ((), (sI (sI (sI σ0 202 (((((200 : Int32) * (σ0.1 200 16)) + (σ0.1 203 (((σ0.1 200 16) : Int32).toNatClampNeg))) : Int32).toNatClampNeg) x1) 203 (((σ0.1 200 16) : Int32).toNatClampNeg) ((σ0.1 203 (((σ0.1 200 16) : Int32).toNatClampNeg)) + (1 : Int32))) 206 (((σ0.1 200 16) : Int32).toNatClampNeg) ((σ0.1 206 (((σ0.1 200 16) : Int32).toNatClampNeg)) + (1 : Int32)))))
def f_X12_ors_L4 (F : Nat) (Z : hZ) (u_X12_ands : (hSt → Option (Unit × hSt))) : Nat → hSt → Option (Unit × hSt)
  | 0, _ => none
  | n + 1, σ1 => (if (σ1.1 200 7) = (-1 : Int32) then (f_X12_look F Z σ1).bind fun q3 => (if q3.1 = (124 : Int32) then (u_X12_ands (sI q3.2 200 6 ((q3.2.1 200 6) + (1 : Int32)))).bind fun q5 => (if (q5.2.1 200 7) = (-1 : Int32) then (f_X12_sign Z q5.2 (8 : Int32)).bind fun q7 => f_X12_ors_L4 F Z u_X12_ands n q7.2 else f_X12_ors_L4 F Z u_X12_ands n q5.2) else some ((), q3.2)) else some ((), σ1))
def b_X12_ors (F : Nat) (Z : hZ) (u_X12_ands : (hSt → Option (Unit × hSt))) (σ0 : hSt) : Option (Unit × hSt) := (u_X12_ands σ0).bind fun q1 => f_X12_ors_L4 F Z u_X12_ands F q1.2
def f_X12_ands_L4 (F : Nat) (Z : hZ) (u_X12_saidUnit : (hSt → Option (Unit × hSt))) : Nat → hSt → Option (Unit × hSt)
  | 0, _ => none
  | n + 1, σ1 => (if (σ1.1 200 7) = (-1 : Int32) then (f_X12_look F Z σ1).bind fun q3 => (if q3.1 = (38 : Int32) then (u_X12_saidUnit (sI q3.2 200 6 ((q3.2.1 200 6) + (1 : Int32)))).bind fun q5 => (if (q5.2.1 200 7) = (-1 : Int32) then (f_X12_sign Z q5.2 (7 : Int32)).bind fun q7 => f_X12_ands_L4 F Z u_X12_saidUnit n q7.2 else f_X12_ands_L4 F Z u_X12_saidUnit n q5.2) else some ((), q3.2)) else some ((), σ1))
def b_X12_ands (F : Nat) (Z : hZ) (u_X12_saidUnit : (hSt → Option (Unit × hSt))) (σ0 : hSt) : Option (Unit × hSt) := (u_X12_saidUnit σ0).bind fun q1 => f_X12_ands_L4 F Z u_X12_saidUnit F q1.2
def b_X12_saidUnit (F : Nat) (Z : hZ) (u_X12_ors : (hSt → Option (Unit × hSt))) (u_X12_saidUnit : (hSt → Option (Unit × hSt))) (σ0 : hSt) : Option (Unit × hSt) := (f_X12_look F Z σ0).bind fun q1 => (if q1.1 < (97 : Int32) then (if q1.1 = (33 : Int32) then (f_X12_goesIn Z q1.2).bind fun q4 => (if q4.1 = (0 : Int32) then some ((), q4.2) else (if q1.1 = (33 : Int32) then (u_X12_saidUnit q4.2).bind fun q10 => (if (q10.2.1 200 7) = (-1 : Int32) then (f_X12_sign Z q10.2 (6 : Int32)).bind fun q12 => some ((), (sI q12.2 200 8 ((q12.2.1 200 8) - (1 : Int32)))) else some ((), (sI q10.2 200 8 ((q10.2.1 200 8) - (1 : Int32))))) else (u_X12_ors q4.2).bind fun q7 => (f_X12_takes F Z q7.2 (41 : Int32)).bind fun q8 => (if q8.1 = (0 : Int32) then some ((), q8.2) else some ((), (sI q8.2 200 8 ((q8.2.1 200 8) - (1 : Int32))))))) else (if q1.1 = (40 : Int32) then (f_X12_goesIn Z q1.2).bind fun q14 => (if q14.1 = (0 : Int32) then some ((), q14.2) else (if q1.1 = (33 : Int32) then (u_X12_saidUnit q14.2).bind fun q20 => (if (q20.2.1 200 7) = (-1 : Int32) then (f_X12_sign Z q20.2 (6 : Int32)).bind fun q22 => some ((), (sI q22.2 200 8 ((q22.2.1 200 8) - (1 : Int32)))) else some ((), (sI q20.2 200 8 ((q20.2.1 200 8) - (1 : Int32))))) else (u_X12_ors q14.2).bind fun q17 => (f_X12_takes F Z q17.2 (41 : Int32)).bind fun q18 => (if q18.1 = (0 : Int32) then some ((), q18.2) else some ((), (sI q18.2 200 8 ((q18.2.1 200 8) - (1 : Int32))))))) else (f_X12_fails Z q1.2).bind fun q23 => some ((), q23.2))) else (if (102 : Int32) < q1.1 then (if q1.1 = (33 : Int32) then (f_X12_goesIn Z q1.2).bind fun q26 => (if q26.1 = (0 : Int32) then some ((), q26.2) else (if q1.1 = (33 : Int32) then (u_X12_saidUnit q26.2).bind fun q32 => (if (q32.2.1 200 7) = (-1 : Int32) then (f_X12_sign Z q32.2 (6 : Int32)).bind fun q34 => some ((), (sI q34.2 200 8 ((q34.2.1 200 8) - (1 : Int32)))) else some ((), (sI q32.2 200 8 ((q32.2.1 200 8) - (1 : Int32))))) else (u_X12_ors q26.2).bind fun q29 => (f_X12_takes F Z q29.2 (41 : Int32)).bind fun q30 => (if q30.1 = (0 : Int32) then some ((), q30.2) else some ((), (sI q30.2 200 8 ((q30.2.1 200 8) - (1 : Int32))))))) else (if q1.1 = (40 : Int32) then (f_X12_goesIn Z q1.2).bind fun q36 => (if q36.1 = (0 : Int32) then some ((), q36.2) else (if q1.1 = (33 : Int32) then (u_X12_saidUnit q36.2).bind fun q42 => (if (q42.2.1 200 7) = (-1 : Int32) then (f_X12_sign Z q42.2 (6 : Int32)).bind fun q44 => some ((), (sI q44.2 200 8 ((q44.2.1 200 8) - (1 : Int32)))) else some ((), (sI q42.2 200 8 ((q42.2.1 200 8) - (1 : Int32))))) else (u_X12_ors q36.2).bind fun q39 => (f_X12_takes F Z q39.2 (41 : Int32)).bind fun q40 => (if q40.1 = (0 : Int32) then some ((), q40.2) else some ((), (sI q40.2 200 8 ((q40.2.1 200 8) - (1 : Int32))))))) else (f_X12_fails Z q1.2).bind fun q45 => some ((), q45.2))) else (f_X12_sign Z (sI q1.2 200 6 ((q1.2.1 200 6) + (1 : Int32))) (q1.1 - (97 : Int32))).bind fun q46 => some ((), q46.2)))
def G_Mo (F : Nat) (Z : hZ) : Nat → (hSt → Option (Unit × hSt)) × (hSt → Option (Unit × hSt)) × (hSt → Option (Unit × hSt))
  | 0 => ((fun _ => none), (fun _ => none), (fun _ => none))
  | d + 1 => (b_X12_ors F Z (G_Mo F Z d).2.1, b_X12_ands F Z (G_Mo F Z d).2.2, b_X12_saidUnit F Z (G_Mo F Z d).1 (G_Mo F Z d).2.2)
def f_X12_ors (F : Nat) (Z : hZ) (σ0 : hSt) : Option (Unit × hSt) := (G_Mo F Z 40).1 σ0 
def f_X12_ands (F : Nat) (Z : hZ) (σ0 : hSt) : Option (Unit × hSt) := (G_Mo F Z 40).2.1 σ0 
def f_X12_saidUnit (F : Nat) (Z : hZ) (σ0 : hSt) : Option (Unit × hSt) := (G_Mo F Z 40).2.2 σ0 
def f_X12_readSaying_L40 (k67 : hSt → Option (Int32 × hSt)) : Nat → hSt → Int32 → Option (Int32 × hSt)
  | 0, _, _ => none
  | n + 1, σ1, z1 => (if (6 : Int32) ≤ z1 then k67 σ1 else if ((((6 : Int32) * (σ1.1 200 16)) + z1) : Int32) < 0 ∨ 126 ≤ ((((6 : Int32) * (σ1.1 200 16)) + z1) : Int32).toNatClampNeg then none else f_X12_readSaying_L40 k67 n (sI σ1 205 (((((6 : Int32) * (σ1.1 200 16)) + z1) : Int32).toNatClampNeg) (0 : Int32)) (z1 + 1))
def f_X12_readSaying (F : Nat) (Z : hZ) (σ0 : hSt) : Option (Int32 × hSt) := if ((σ0.1 200 15) : Int32) < 0 ∨ 21 ≤ ((σ0.1 200 15) : Int32).toNatClampNeg then none else if ((σ0.1 200 15) : Int32) < 0 ∨ 21 ≤ ((σ0.1 200 15) : Int32).toNatClampNeg then none else if ((σ0.1 200 15) : Int32) < 0 ∨ 21 ≤ ((σ0.1 200 15) : Int32).toNatClampNeg then none else f_X12_readSaying_L40 (fun σ1 => (f_X12_begin Z σ1 201 (0 : Int32) (σ1.1 200 3) (8 : Int32)).bind fun q6 => (f_X12_ors F Z q6.2).bind fun q7 => (if (q7.2.1 200 7) = (-1 : Int32) then (f_X12_look F Z q7.2).bind fun q10 => (if q10.1 = (-1 : Int32) then (if (q10.2.1 200 7) = (-1 : Int32) then some ((1 : Int32), q10.2) else some ((0 : Int32), q10.2)) else (f_X12_fails Z q10.2).bind fun q13 => (if (q13.2.1 200 7) = (-1 : Int32) then some ((1 : Int32), q13.2) else some ((0 : Int32), q13.2))) else (if (q7.2.1 200 7) = (-1 : Int32) then some ((1 : Int32), q7.2) else some ((0 : Int32), q7.2)))) F (sI (sI (sI (sI σ0 200 16 (σ0.1 200 15)) 203 (((σ0.1 200 15) : Int32).toNatClampNeg) (0 : Int32)) 204 (((σ0.1 200 15) : Int32).toNatClampNeg) (0 : Int32)) 206 (((σ0.1 200 15) : Int32).toNatClampNeg) (0 : Int32)) (0 : Int32)
def f_X12_saying (F : Nat) (Z : hZ) (σ0 : hSt) : Option (Int32 × hSt) := (if (σ0.1 200 15) = (20 : Int32) then some ((-1 : Int32), (sI σ0 200 0 (0 : Int32))) else (f_X12_readSaying F Z (sI σ0 200 0 (0 : Int32))).bind fun q2 => (if q2.1 = (0 : Int32) then some ((-1 : Int32), q2.2) else some ((((q2.2.1 200 15) + (1 : Int32)) - (1 : Int32)), (sI (sI q2.2 200 3 (0 : Int32)) 200 15 ((q2.2.1 200 15) + (1 : Int32))))))
def f_X12_isSaying (Z : hZ) (σ0 : hSt) (x1 : Int32) : Option Int32 := (if x1 < (0 : Int32) then some (0 : Int32) else (if (σ0.1 200 15) ≤ x1 then some (0 : Int32) else some (1 : Int32)))
def f_X12_rest (x0 : Int64) (x2 : Int64) : Option Int64 := if x2 = (0 : Int64) then none else (if (0 : Int64) ≤ (x0 - x0 / x2 * x2) then some (x0 - x0 / x2 * x2) else some ((x0 - x0 / x2 * x2) + x2))
def f_X12_worthAt_L6 (y1 : Int32) (y2 : Int64) : Nat → hSt → Int32 → Int32 → Option (Int64 × hSt)
  | 0, _, _, _ => none
  | n + 1, σ1, z4, z5 => if (y1 : Int32) < 0 ∨ 21 ≤ (y1 : Int32).toNatClampNeg then none else (if (σ1.1 203 ((y1 : Int32).toNatClampNeg)) ≤ z5 then if ((0 : Int32) : Int32) < 0 ∨ 200 ≤ ((0 : Int32) : Int32).toNatClampNeg then none else some ((σ1.2.1 207 (((0 : Int32) : Int32).toNatClampNeg)), σ1) else if ((((200 : Int32) * y1) + z5) : Int32) < 0 ∨ 4200 ≤ ((((200 : Int32) * y1) + z5) : Int32).toNatClampNeg then none else (if (6 : Int32) ≤ (σ1.1 202 (((((200 : Int32) * y1) + z5) : Int32).toNatClampNeg)) then (if (σ1.1 202 (((((200 : Int32) * y1) + z5) : Int32).toNatClampNeg)) = (6 : Int32) then if ((z4 - (1 : Int32)) : Int32) < 0 ∨ 200 ≤ ((z4 - (1 : Int32)) : Int32).toNatClampNeg then none else (f_X12_rest ((1 : Int64) - (σ1.2.1 207 (((z4 - (1 : Int32)) : Int32).toNatClampNeg))) y2).bind fun q15 => if ((z4 - (1 : Int32)) : Int32) < 0 ∨ 200 ≤ ((z4 - (1 : Int32)) : Int32).toNatClampNeg then none else f_X12_worthAt_L6 y1 y2 n (sJ σ1 207 (((z4 - (1 : Int32)) : Int32).toNatClampNeg) q15) z4 (z5 + 1) else if ((z4 - (2 : Int32)) : Int32) < 0 ∨ 200 ≤ ((z4 - (2 : Int32)) : Int32).toNatClampNeg then none else if ((z4 - (1 : Int32)) : Int32) < 0 ∨ 200 ≤ ((z4 - (1 : Int32)) : Int32).toNatClampNeg then none else if y2 = (0 : Int64) then none else (if (σ1.1 202 (((((200 : Int32) * y1) + z5) : Int32).toNatClampNeg)) = (7 : Int32) then if (((z4 + (-1 : Int32)) - (1 : Int32)) : Int32) < 0 ∨ 200 ≤ (((z4 + (-1 : Int32)) - (1 : Int32)) : Int32).toNatClampNeg then none else f_X12_worthAt_L6 y1 y2 n (sJ σ1 207 ((((z4 + (-1 : Int32)) - (1 : Int32)) : Int32).toNatClampNeg) (((σ1.2.1 207 (((z4 - (2 : Int32)) : Int32).toNatClampNeg)) * (σ1.2.1 207 (((z4 - (1 : Int32)) : Int32).toNatClampNeg))) - ((σ1.2.1 207 (((z4 - (2 : Int32)) : Int32).toNatClampNeg)) * (σ1.2.1 207 (((z4 - (1 : Int32)) : Int32).toNatClampNeg))) / y2 * y2)) (z4 + (-1 : Int32)) (z5 + 1) else (f_X12_rest (((σ1.2.1 207 (((z4 - (2 : Int32)) : Int32).toNatClampNeg)) + (σ1.2.1 207 (((z4 - (1 : Int32)) : Int32).toNatClampNeg))) - (((σ1.2.1 207 (((z4 - (2 : Int32)) : Int32).toNatClampNeg)) * (σ1.2.1 207 (((z4 - (1 : Int32)) : Int32).toNatClampNeg))) - ((σ1.2.1 207 (((z4 - (2 : Int32)) : Int32).toNatClampNeg)) * (σ1.2.1 207 (((z4 - (1 : Int32)) : Int32).toNatClampNeg))) / y2 * y2)) y2).bind fun q11 => if (((z4 + (-1 : Int32)) - (1 : Int32)) : Int32) < 0 ∨ 200 ≤ (((z4 + (-1 : Int32)) - (1 : Int32)) : Int32).toNatClampNeg then none else f_X12_worthAt_L6 y1 y2 n (sJ σ1 207 ((((z4 + (-1 : Int32)) - (1 : Int32)) : Int32).toNatClampNeg) q11) (z4 + (-1 : Int32)) (z5 + 1))) else if ((σ1.1 202 (((((200 : Int32) * y1) + z5) : Int32).toNatClampNeg)) : Int32) < 0 ∨ 6 ≤ ((σ1.1 202 (((((200 : Int32) * y1) + z5) : Int32).toNatClampNeg)) : Int32).toNatClampNeg then none else if (z4 : Int32) < 0 ∨ 200 ≤ (z4 : Int32).toNatClampNeg then none else f_X12_worthAt_L6 y1 y2 n (sJ σ1 207 ((z4 : Int32).toNatClampNeg) (σ1.2.1 208 (((σ1.1 202 (((((200 : Int32) * y1) + z5) : Int32).toNatClampNeg)) : Int32).toNatClampNeg))) (z4 + 1) (z5 + 1)))
def f_X12_worthAt (F : Nat) (Z : hZ) (σ0 : hSt) (x1 : Int32) (x2 : Int64) : Option (Int64 × hSt) := f_X12_worthAt_L6 x1 x2 F σ0 (0 : Int32) (0 : Int32)
def b_X12_sumFrom (F : Nat) (Z : hZ) (u_X12_sumFrom : (hSt → Int32 → Int32 → Int64 → Option (Int64 × hSt))) (σ0 : hSt) (x1 : Int32) (x2 : Int32) (x3 : Int64) : Option (Int64 × hSt) := if (x1 : Int32) < 0 ∨ 21 ≤ (x1 : Int32).toNatClampNeg then none else (if x2 < (σ0.1 204 ((x1 : Int32).toNatClampNeg)) then if (x2 : Int32) < 0 ∨ 6 ≤ (x2 : Int32).toNatClampNeg then none else (u_X12_sumFrom (sJ σ0 208 ((x2 : Int32).toNatClampNeg) (0 : Int64)) x1 (x2 + (1 : Int32)) x3).bind fun q4 => if (x2 : Int32) < 0 ∨ 6 ≤ (x2 : Int32).toNatClampNeg then none else (u_X12_sumFrom (sJ q4.2 208 ((x2 : Int32).toNatClampNeg) (1 : Int64)) x1 (x2 + (1 : Int32)) x3).bind fun q6 => if x3 = (0 : Int64) then none else some (((q4.1 + q6.1) - (q4.1 + q6.1) / x3 * x3), q6.2) else (f_X12_worthAt F Z σ0 x1 x3).bind fun q8 => some (q8.1, q8.2))
def G_Ms (F : Nat) (Z : hZ) : Nat → (hSt → Int32 → Int32 → Int64 → Option (Int64 × hSt))
  | 0 => (fun _ _ _ _ => none)
  | d + 1 => b_X12_sumFrom F Z (G_Ms F Z d)
def f_X12_sumFrom (F : Nat) (Z : hZ) (σ0 : hSt) (x1 : Int32) (x2 : Int32) (x3 : Int64) : Option (Int64 × hSt) := (G_Ms F Z 8) σ0 x1 x2 x3
def f_X12_countOf (F : Nat) (Z : hZ) (σ0 : hSt) (x1 : Int32) : Option (Int32 × hSt) := (f_X12_sumFrom F Z σ0 x1 (0 : Int32) (1000000007 : Int64)).bind fun q1 => some ((q1.1 : Int64).toInt32, q1.2)
def f_X12_said (F : Nat) (Z : hZ) (σ0 : hSt) (x1 : Int32) (x2 : Int32) : Option (Int32 × hSt) := (f_X12_isSaying Z (sI σ0 200 0 (0 : Int32)) x1).bind fun q1 => (if q1 = (0 : Int32) then some ((-1 : Int32), (sI σ0 200 0 (0 : Int32))) else (f_X12_isIn ((x2 : Int32).toInt64) (0 : Int64) (8 : Int64)).bind fun q3 => (if q3 = (0 : Int32) then some ((-1 : Int32), (sI σ0 200 0 (0 : Int32))) else (if x2 = (0 : Int32) then if (x1 : Int32) < 0 ∨ 21 ≤ (x1 : Int32).toNatClampNeg then none else some ((σ0.1 204 ((x1 : Int32).toNatClampNeg)), (sI σ0 200 0 (0 : Int32))) else (if x2 = (1 : Int32) then if (x1 : Int32) < 0 ∨ 21 ≤ (x1 : Int32).toNatClampNeg then none else some ((σ0.1 206 ((x1 : Int32).toNatClampNeg)), (sI σ0 200 0 (0 : Int32))) else (if x2 = (2 : Int32) then (f_X12_countOf F Z (sI σ0 200 0 (0 : Int32)) x1).bind fun q9 => some (q9.1, q9.2) else if (((((6 : Int32) * x1) + x2) - (3 : Int32)) : Int32) < 0 ∨ 126 ≤ (((((6 : Int32) * x1) + x2) - (3 : Int32)) : Int32).toNatClampNeg then none else some ((σ0.1 205 ((((((6 : Int32) * x1) + x2) - (3 : Int32)) : Int32).toNatClampNeg)), (sI σ0 200 0 (0 : Int32))))))))
def f_X12_isTrue_L2 (y1 : Int32) (y2 : Int32) (k26 : hSt → Option (Int32 × hSt)) : Nat → hSt → Int32 → Option (Int32 × hSt)
  | 0, _, _ => none
  | n + 1, σ1, z3 => (if (6 : Int32) ≤ z3 then k26 σ1 else if (z3 : Int32) < 0 ∨ 6 ≤ (z3 : Int32).toNatClampNeg then none else f_X12_isTrue_L2 y1 y2 k26 n (sJ σ1 208 ((z3 : Int32).toNatClampNeg) ((((y2 >>> (z3 &&& 31)) &&& (1 : Int32)) : Int32).toInt64)) (z3 + 1))
def f_X12_isTrue (F : Nat) (Z : hZ) (σ0 : hSt) (x1 : Int32) (x2 : Int32) : Option (Int32 × hSt) := f_X12_isTrue_L2 x1 x2 (fun σ1 => (f_X12_worthAt F Z σ1 x1 (1000000007 : Int64)).bind fun q3 => (if q3.1 = (1 : Int64) then some ((1 : Int32), q3.2) else some ((0 : Int32), q3.2))) F σ0 (0 : Int32)
def f_X12_truth (F : Nat) (Z : hZ) (σ0 : hSt) (x1 : Int32) (x2 : Int32) : Option (Int32 × hSt) := (f_X12_isSaying Z (sI σ0 200 0 (0 : Int32)) x1).bind fun q1 => (if q1 = (0 : Int32) then some ((-1 : Int32), (sI σ0 200 0 (0 : Int32))) else (f_X12_isIn ((x2 : Int32).toInt64) (0 : Int64) (63 : Int64)).bind fun q3 => (if q3 = (0 : Int32) then some ((-1 : Int32), (sI σ0 200 0 (0 : Int32))) else (f_X12_isTrue F Z (sI σ0 200 0 (0 : Int32)) x1 x2).bind fun q5 => (if q5.1 = (0 : Int32) then some ((0 : Int32), q5.2) else some ((1 : Int32), q5.2))))
def f_X12_lay (Z : hZ) (σ0 : hSt) (x1 : Int32) : Option (Int32 × hSt) := (if x1 < (0 : Int32) then some ((-1 : Int32), (sI σ0 200 0 (0 : Int32))) else (if (σ0.1 200 20) = (6 : Int32) then some ((-1 : Int32), (sI σ0 200 0 (0 : Int32))) else if ((σ0.1 200 20) : Int32) < 0 ∨ 6 ≤ ((σ0.1 200 20) : Int32).toNatClampNeg then none else some ((((σ0.1 200 20) + (1 : Int32)) - (1 : Int32)), (sI (sI (sI σ0 200 0 (0 : Int32)) 209 (((σ0.1 200 20) : Int32).toNatClampNeg) x1) 200 20 ((σ0.1 200 20) + (1 : Int32))))))
def f_X12_clear (Z : hZ) (σ0 : hSt) : Option (Int32 × hSt) := some ((σ0.1 200 20), (sI (sI σ0 200 0 (0 : Int32)) 200 20 (0 : Int32)))
def f_X12_isPrime_L11 (y0 : Int32) : Nat → Int64 → Option Int32
  | 0, _ => none
  | n + 1, z1 => (if (y0 : Int32).toInt64 < (z1 * z1) then some (1 : Int32) else if z1 = (0 : Int64) then none else (if ((y0 : Int32).toInt64 - (y0 : Int32).toInt64 / z1 * z1) = (0 : Int64) then some (0 : Int32) else f_X12_isPrime_L11 y0 n (z1 + (1 : Int64))))
def f_X12_isPrime (F : Nat) (x0 : Int32) : Option Int32 := (if (2 : Int32) ≤ x0 then f_X12_isPrime_L11 x0 F (2 : Int64) else some (0 : Int32))
def f_X12_isRing (F : Nat) (x0 : Int32) : Option Int32 := (f_X12_isIn ((x0 : Int32).toInt64) (3 : Int64) (1000000007 : Int64)).bind fun q1 => (if q1 = (0 : Int32) then some (0 : Int32) else (f_X12_isPrime F x0).bind fun q3 => (if q3 = (0 : Int32) then some (0 : Int32) else some (1 : Int32)))
def f_X12_prime (F : Nat) (Z : hZ) (σ0 : hSt) (x1 : Int32) : Option (Int32 × hSt) := (f_X12_isIn ((x1 : Int32).toInt64) (0 : Int64) (1000000007 : Int64)).bind fun q1 => (if q1 = (0 : Int32) then some ((0 : Int32), (sI σ0 200 0 (0 : Int32))) else (f_X12_isPrime F x1).bind fun q3 => (if q3 = (0 : Int32) then some ((0 : Int32), (sI σ0 200 0 (0 : Int32))) else some ((1 : Int32), (sI σ0 200 0 (0 : Int32)))))
def f_X12_layPoint_L2 (y1 : Int32) : Nat → hSt → Int32 → Option (Unit × hSt)
  | 0, _, _ => none
  | n + 1, σ1, z2 => (if (σ1.1 200 20) ≤ z2 then some ((), σ1) else if (z2 : Int32) < 0 ∨ 6 ≤ (z2 : Int32).toNatClampNeg then none else if y1 = (0 : Int32) then none else if (z2 : Int32) < 0 ∨ 6 ≤ (z2 : Int32).toNatClampNeg then none else f_X12_layPoint_L2 y1 n (sJ σ1 208 ((z2 : Int32).toNatClampNeg) ((((σ1.1 209 ((z2 : Int32).toNatClampNeg)) - (σ1.1 209 ((z2 : Int32).toNatClampNeg)) / y1 * y1) : Int32).toInt64)) (z2 + 1))
def f_X12_layPoint (F : Nat) (Z : hZ) (σ0 : hSt) (x1 : Int32) : Option (Unit × hSt) := f_X12_layPoint_L2 x1 F σ0 (0 : Int32)
def f_X12_worth (F : Nat) (Z : hZ) (σ0 : hSt) (x1 : Int32) (x2 : Int32) : Option (Int32 × hSt) := (f_X12_isSaying Z (sI σ0 200 0 (0 : Int32)) x1).bind fun q1 => (if q1 = (0 : Int32) then some ((-1 : Int32), (sI σ0 200 0 (0 : Int32))) else (f_X12_isRing F x2).bind fun q3 => (if q3 = (0 : Int32) then some ((-1 : Int32), (sI σ0 200 0 (0 : Int32))) else if (x1 : Int32) < 0 ∨ 21 ≤ (x1 : Int32).toNatClampNeg then none else (if (σ0.1 204 ((x1 : Int32).toNatClampNeg)) ≤ (σ0.1 200 20) then (f_X12_layPoint F Z (sI σ0 200 0 (0 : Int32)) x2).bind fun q7 => (f_X12_worthAt F Z q7.2 x1 ((x2 : Int32).toInt64)).bind fun q8 => some ((q8.1 : Int64).toInt32, q8.2) else some ((-1 : Int32), (sI σ0 200 0 (0 : Int32))))))
def f_X12_sum (F : Nat) (Z : hZ) (σ0 : hSt) (x1 : Int32) (x2 : Int32) : Option (Int32 × hSt) := (f_X12_isSaying Z (sI σ0 200 0 (0 : Int32)) x1).bind fun q1 => (if q1 = (0 : Int32) then some ((-1 : Int32), (sI σ0 200 0 (0 : Int32))) else (f_X12_isRing F x2).bind fun q3 => (if q3 = (0 : Int32) then some ((-1 : Int32), (sI σ0 200 0 (0 : Int32))) else (f_X12_layPoint F Z (sI σ0 200 0 (0 : Int32)) x2).bind fun q5 => (f_X12_sumFrom F Z q5.2 x1 (q5.2.1 200 20) ((x2 : Int32).toInt64)).bind fun q6 => some ((q6.1 : Int64).toInt32, q6.2)))
def f_X12_power_L12 (y4 : Int64) : Nat → Int64 → Int64 → Int64 → Option Int64
  | 0, _, _, _ => none
  | n + 1, z6, z8, z10 => (if z10 ≤ (0 : Int64) then some z6 else (if (z10 &&& (1 : Int64)) = (1 : Int64) then if y4 = (0 : Int64) then none else if y4 = (0 : Int64) then none else f_X12_power_L12 y4 n ((z6 * z8) - (z6 * z8) / y4 * y4) ((z8 * z8) - (z8 * z8) / y4 * y4) (z10 >>> (((1 : Int32) : Int32).toInt64 &&& 63)) else if y4 = (0 : Int64) then none else f_X12_power_L12 y4 n z6 ((z8 * z8) - (z8 * z8) / y4 * y4) (z10 >>> (((1 : Int32) : Int32).toInt64 &&& 63))))
def f_X12_power (F : Nat) (x0 : Int64) (x2 : Int64) (x4 : Int64) : Option Int64 := if x4 = (0 : Int64) then none else f_X12_power_L12 x4 F (1 : Int64) (x0 - x0 / x4 * x4) x2
def f_X12_curveAt_L27 (y1 : Int32) (y2 : Int64) (y4 : Int64) (y6 : Int64) (y8 : Int32) (k86 : Int64 → Int64 → Option Int64) : Nat → Int64 → Int64 → Int32 → Option Int64
  | 0, _, _, _ => none
  | n + 1, z9, z11, z13 => (if y1 ≤ z13 then k86 z9 z11 else (if z13 = y8 then f_X12_curveAt_L27 y1 y2 y4 y6 y8 k86 n z9 z11 (z13 + 1) else (f_X12_rest (y2 - (z13 : Int32).toInt64) y4).bind fun q5 => if y4 = (0 : Int64) then none else (f_X12_rest (((y8 - z13) : Int32).toInt64) y4).bind fun q7 => if y4 = (0 : Int64) then none else f_X12_curveAt_L27 y1 y2 y4 y6 y8 k86 n ((z9 * q5) - (z9 * q5) / y4 * y4) ((z11 * q7) - (z11 * q7) / y4 * y4) (z13 + 1)))
def f_X12_curveAt_L6 (F : Nat) (σ0 : hSt) (y1 : Int32) (y2 : Int64) (y4 : Int64) : Nat → Int64 → Int32 → Option Int64
  | 0, _, _ => none
  | n + 1, z6, z8 => (if y1 ≤ z8 then some z6 else if (z8 : Int32) < 0 ∨ 201 ≤ (z8 : Int32).toNatClampNeg then none else f_X12_curveAt_L27 y1 y2 y4 z6 z8 (fun z9 z11 => (f_X12_power F z11 (y4 - (2 : Int64)) y4).bind fun q9 => if y4 = (0 : Int64) then none else f_X12_curveAt_L6 F σ0 y1 y2 y4 n ((z6 + (z9 * q9)) - (z6 + (z9 * q9)) / y4 * y4) (z8 + 1)) F (σ0.2.1 210 ((z8 : Int32).toNatClampNeg)) (1 : Int64) (0 : Int32))
def f_X12_curveAt (F : Nat) (Z : hZ) (σ0 : hSt) (x1 : Int32) (x2 : Int64) (x4 : Int64) : Option Int64 := f_X12_curveAt_L6 F σ0 x1 x2 x4 F (0 : Int64) (0 : Int32)
def f_X12_curve_L35 (y1 : Int32) (y2 : Int32) (k64 : hSt → Option (Int32 × hSt)) : Nat → hSt → Int32 → Option (Int32 × hSt)
  | 0, _, _ => none
  | n + 1, σ1, z3 => (if (σ1.1 200 20) ≤ z3 then k64 σ1 else if (z3 : Int32) < 0 ∨ 6 ≤ (z3 : Int32).toNatClampNeg then none else if y1 = (0 : Int32) then none else if (z3 : Int32) < 0 ∨ 201 ≤ (z3 : Int32).toNatClampNeg then none else f_X12_curve_L35 y1 y2 k64 n (sJ σ1 210 ((z3 : Int32).toNatClampNeg) ((((σ1.1 209 ((z3 : Int32).toNatClampNeg)) - (σ1.1 209 ((z3 : Int32).toNatClampNeg)) / y1 * y1) : Int32).toInt64)) (z3 + 1))
def f_X12_curve (F : Nat) (Z : hZ) (σ0 : hSt) (x1 : Int32) (x2 : Int32) : Option (Int32 × hSt) := (f_X12_isRing F x1).bind fun q1 => (if q1 = (0 : Int32) then some ((-1 : Int32), (sI σ0 200 0 (0 : Int32))) else (if (σ0.1 200 20) = (0 : Int32) then some ((-1 : Int32), (sI σ0 200 0 (0 : Int32))) else (if x1 ≤ (σ0.1 200 20) then some ((-1 : Int32), (sI σ0 200 0 (0 : Int32))) else (if (0 : Int32) ≤ x2 then f_X12_curve_L35 x1 x2 (fun σ1 => (f_X12_curveAt F Z σ1 (σ1.1 200 20) ((x2 : Int32).toInt64) ((x1 : Int32).toInt64)).bind fun q10 => some ((q10 : Int64).toInt32, σ1)) F (sI σ0 200 0 (0 : Int32)) (0 : Int32) else some ((-1 : Int32), (sI σ0 200 0 (0 : Int32)))))))
def f_X12_isDigit (Z : hZ) (σ0 : hSt) : Option Int32 := (if (σ0.1 200 5) ≤ (σ0.1 200 6) then some (0 : Int32) else (oc (σ0.2.2 200 2) (none) (fun r2 => if isBy r2 = true then if (((σ0.1 200 4) + (σ0.1 200 6)) : Int32) < 0 ∨ (blen r2) ≤ (((σ0.1 200 4) + (σ0.1 200 6)) : Int32).toNatClampNeg then none else (if (σ0.1 r2 ((((σ0.1 200 4) + (σ0.1 200 6)) : Int32).toNatClampNeg)) < (48 : Int32) then some (0 : Int32) else (oc (σ0.2.2 200 2) (none) (fun r5 => if isBy r5 = true then if (((σ0.1 200 4) + (σ0.1 200 6)) : Int32) < 0 ∨ (blen r5) ≤ (((σ0.1 200 4) + (σ0.1 200 6)) : Int32).toNatClampNeg then none else (if (57 : Int32) < (σ0.1 r5 ((((σ0.1 200 4) + (σ0.1 200 6)) : Int32).toNatClampNeg)) then some (0 : Int32) else some (1 : Int32)) else none))) else none)))
def f_X12_within (x0 : Int64) : Option Int64 := some (if (if x0 < (2000000000 : Int64) then x0 else (2000000000 : Int64)) < (-2000000000 : Int64) then (-2000000000 : Int64) else (if x0 < (2000000000 : Int64) then x0 else (2000000000 : Int64)))
def f_X12_isSign (x0 : Int32) : Option Int32 := (if x0 = (61 : Int32) then some (1 : Int32) else (if x0 = (60 : Int32) then some (1 : Int32) else (if x0 = (62 : Int32) then some (1 : Int32) else some (0 : Int32))))
def f_X12_noLetters_L2 : Nat → hSt → Int32 → Option (Unit × hSt)
  | 0, _, _ => none
  | n + 1, σ1, z1 => (if (128 : Int32) ≤ z1 then some ((), σ1) else if (z1 : Int32) < 0 ∨ 128 ≤ (z1 : Int32).toNatClampNeg then none else f_X12_noLetters_L2 n (sJ σ1 213 ((z1 : Int32).toNatClampNeg) (0 : Int64)) (z1 + 1))
def f_X12_noLetters (F : Nat) (Z : hZ) (σ0 : hSt) : Option (Unit × hSt) := f_X12_noLetters_L2 F σ0 (0 : Int32)
def f_X12_isTalk (Z : hZ) (σ0 : hSt) (x1 : Int32) : Option Int32 := (if x1 < (0 : Int32) then some (0 : Int32) else (if (σ0.1 200 36) ≤ x1 then some (0 : Int32) else some (1 : Int32)))
def f_X12_talk_L67 (σ1 : hSt) (y1 : Int32) (y2 : Int32) (y3 : Int32) (y4 : Int32) (k102 : Option (Int32 × hSt)) : Nat → Int32 → Option (Int32 × hSt)
  | 0, _ => none
  | n + 1, z5 => if (y1 : Int32) < 0 ∨ 21 ≤ (y1 : Int32).toNatClampNeg then none else (if (σ1.1 204 ((y1 : Int32).toNatClampNeg)) ≤ z5 then k102 else if ((((6 : Int32) * y1) + z5) : Int32) < 0 ∨ 126 ≤ ((((6 : Int32) * y1) + z5) : Int32).toNatClampNeg then none else (if (σ1.1 205 (((((6 : Int32) * y1) + z5) : Int32).toNatClampNeg)) < y2 then f_X12_talk_L67 σ1 y1 y2 y3 y4 k102 n (z5 + 1) else some ((-1 : Int32), σ1)))
def f_X12_talk (F : Nat) (Z : hZ) (σ0 : hSt) (x1 : Int32) (x2 : Int32) (x3 : Int32) (x4 : Int32) : Option (Int32 × hSt) := (if (σ0.1 200 36) = (12 : Int32) then some ((-1 : Int32), (sI σ0 200 0 (0 : Int32))) else (f_X12_isSaying Z (sI σ0 200 0 (0 : Int32)) x1).bind fun q2 => (if q2 = (0 : Int32) then some ((-1 : Int32), (sI σ0 200 0 (0 : Int32))) else (f_X12_isRing F x2).bind fun q4 => (if q4 = (0 : Int32) then some ((-1 : Int32), (sI σ0 200 0 (0 : Int32))) else (f_X12_isIn ((x3 : Int32).toInt64) (0 : Int64) ((((σ0.1 200 25) - (1 : Int32)) : Int32).toInt64)).bind fun q6 => (if q6 = (0 : Int32) then some ((-1 : Int32), (sI σ0 200 0 (0 : Int32))) else (f_X12_isIn ((x4 : Int32).toInt64) (0 : Int64) ((((σ0.1 200 26) - (1 : Int32)) : Int32).toInt64)).bind fun q8 => (if q8 = (0 : Int32) then some ((-1 : Int32), (sI σ0 200 0 (0 : Int32))) else f_X12_talk_L67 (sI σ0 200 0 (0 : Int32)) x1 x2 x3 x4 (if ((σ0.1 200 36) : Int32) < 0 ∨ 12 ≤ ((σ0.1 200 36) : Int32).toNatClampNeg then none else if ((σ0.1 200 36) : Int32) < 0 ∨ 12 ≤ ((σ0.1 200 36) : Int32).toNatClampNeg then none else if ((σ0.1 200 36) : Int32) < 0 ∨ 12 ≤ ((σ0.1 200 36) : Int32).toNatClampNeg then none else if ((σ0.1 200 36) : Int32) < 0 ∨ 12 ≤ ((σ0.1 200 36) : Int32).toNatClampNeg then none else some ((((σ0.1 200 36) + (1 : Int32)) - (1 : Int32)), (sI (sI (sI (sI (sI (sI σ0 200 0 (0 : Int32)) 214 (((σ0.1 200 36) : Int32).toNatClampNeg) x1) 215 (((σ0.1 200 36) : Int32).toNatClampNeg) x2) 216 (((σ0.1 200 36) : Int32).toNatClampNeg) x3) 217 (((σ0.1 200 36) : Int32).toNatClampNeg) x4) 200 36 ((σ0.1 200 36) + (1 : Int32))))) F (0 : Int32))))))
def f_X12_trueAt_L11 (y1 : Int32) (y2 : Int32) (y3 : Int32) (y4 : Int32) (k37 : hSt → Option (Int64 × hSt)) : Nat → hSt → Int32 → Option (Int64 × hSt)
  | 0, _, _ => none
  | n + 1, σ1, z5 => (if y2 ≤ z5 then k37 σ1 else if (z5 : Int32) < 0 ∨ 6 ≤ (z5 : Int32).toNatClampNeg then none else if (z5 : Int32) < 0 ∨ 6 ≤ (z5 : Int32).toNatClampNeg then none else f_X12_trueAt_L11 y1 y2 y3 y4 k37 n (sJ σ1 208 ((z5 : Int32).toNatClampNeg) (σ1.2.1 218 ((z5 : Int32).toNatClampNeg))) (z5 + 1))
def f_X12_trueAt (F : Nat) (Z : hZ) (σ0 : hSt) (x1 : Int32) (x2 : Int32) (x3 : Int32) : Option (Int64 × hSt) := if (x1 : Int32) < 0 ∨ 12 ≤ (x1 : Int32).toNatClampNeg then none else f_X12_trueAt_L11 x1 x2 x3 (σ0.1 215 ((x1 : Int32).toNatClampNeg)) (fun σ1 => if (σ0.1 215 ((x1 : Int32).toNatClampNeg)) = (0 : Int32) then none else if (x2 : Int32) < 0 ∨ 6 ≤ (x2 : Int32).toNatClampNeg then none else if (x1 : Int32) < 0 ∨ 12 ≤ (x1 : Int32).toNatClampNeg then none else (f_X12_sumFrom F Z (sJ σ1 208 ((x2 : Int32).toNatClampNeg) (((x3 - x3 / (σ0.1 215 ((x1 : Int32).toNatClampNeg)) * (σ0.1 215 ((x1 : Int32).toNatClampNeg))) : Int32).toInt64)) (σ1.1 214 ((x1 : Int32).toNatClampNeg)) (x2 + (1 : Int32)) (((σ0.1 215 ((x1 : Int32).toNatClampNeg)) : Int32).toInt64)).bind fun q8 => some (q8.1, q8.2)) F σ0 (0 : Int32)
def f_X12_sumsUp (Z : hZ) (σ0 : hSt) (x1 : Int32) (x2 : Int32) (x3 : Int64) : Option Int32 := if (x1 : Int32) < 0 ∨ 12 ≤ (x1 : Int32).toNatClampNeg then none else if ((((6 : Int32) * (σ0.1 214 ((x1 : Int32).toNatClampNeg))) + x2) : Int32) < 0 ∨ 126 ≤ ((((6 : Int32) * (σ0.1 214 ((x1 : Int32).toNatClampNeg))) + x2) : Int32).toNatClampNeg then none else if (((201 : Int32) * x2) : Int32) < 0 ∨ 1206 ≤ (((201 : Int32) * x2) : Int32).toNatClampNeg then none else (if (σ0.1 205 (((((6 : Int32) * (σ0.1 214 ((x1 : Int32).toNatClampNeg))) + x2) : Int32).toNatClampNeg)) = (0 : Int32) then if ((((201 : Int32) * x2) + (0 : Int32)) : Int32) < 0 ∨ 1206 ≤ ((((201 : Int32) * x2) + (0 : Int32)) : Int32).toNatClampNeg then none else if (x1 : Int32) < 0 ∨ 12 ≤ (x1 : Int32).toNatClampNeg then none else if ((σ0.1 215 ((x1 : Int32).toNatClampNeg)) : Int32).toInt64 = (0 : Int64) then none else (if (((σ0.2.1 219 ((((201 : Int32) * x2) : Int32).toNatClampNeg)) + (σ0.2.1 219 (((((201 : Int32) * x2) + (0 : Int32)) : Int32).toNatClampNeg))) - ((σ0.2.1 219 ((((201 : Int32) * x2) : Int32).toNatClampNeg)) + (σ0.2.1 219 (((((201 : Int32) * x2) + (0 : Int32)) : Int32).toNatClampNeg))) / ((σ0.1 215 ((x1 : Int32).toNatClampNeg)) : Int32).toInt64 * ((σ0.1 215 ((x1 : Int32).toNatClampNeg)) : Int32).toInt64) = x3 then some (1 : Int32) else some (0 : Int32)) else if ((((201 : Int32) * x2) + (1 : Int32)) : Int32) < 0 ∨ 1206 ≤ ((((201 : Int32) * x2) + (1 : Int32)) : Int32).toNatClampNeg then none else if (x1 : Int32) < 0 ∨ 12 ≤ (x1 : Int32).toNatClampNeg then none else if ((σ0.1 215 ((x1 : Int32).toNatClampNeg)) : Int32).toInt64 = (0 : Int64) then none else (if (((σ0.2.1 219 ((((201 : Int32) * x2) : Int32).toNatClampNeg)) + (σ0.2.1 219 (((((201 : Int32) * x2) + (1 : Int32)) : Int32).toNatClampNeg))) - ((σ0.2.1 219 ((((201 : Int32) * x2) : Int32).toNatClampNeg)) + (σ0.2.1 219 (((((201 : Int32) * x2) + (1 : Int32)) : Int32).toNatClampNeg))) / ((σ0.1 215 ((x1 : Int32).toNatClampNeg)) : Int32).toInt64 * ((σ0.1 215 ((x1 : Int32).toNatClampNeg)) : Int32).toInt64) = x3 then some (1 : Int32) else some (0 : Int32)))
def f_X12_nextClaim_L20 (y1 : Int32) (y2 : Int32) (y3 : Int32) (k52 : hSt → Option (Int64 × hSt)) : Nat → hSt → Int32 → Option (Int64 × hSt)
  | 0, _, _ => none
  | n + 1, σ1, z4 => (if y3 < z4 then k52 σ1 else if ((((201 : Int32) * y2) + z4) : Int32) < 0 ∨ 1206 ≤ ((((201 : Int32) * y2) + z4) : Int32).toNatClampNeg then none else if (z4 : Int32) < 0 ∨ 201 ≤ (z4 : Int32).toNatClampNeg then none else f_X12_nextClaim_L20 y1 y2 y3 k52 n (sJ σ1 210 ((z4 : Int32).toNatClampNeg) (σ1.2.1 219 (((((201 : Int32) * y2) + z4) : Int32).toNatClampNeg))) (z4 + 1))
def f_X12_nextClaim (F : Nat) (Z : hZ) (σ0 : hSt) (x1 : Int32) (x2 : Int32) : Option (Int64 × hSt) := if (x1 : Int32) < 0 ∨ 12 ≤ (x1 : Int32).toNatClampNeg then none else if ((((6 : Int32) * (σ0.1 214 ((x1 : Int32).toNatClampNeg))) + x2) : Int32) < 0 ∨ 126 ≤ ((((6 : Int32) * (σ0.1 214 ((x1 : Int32).toNatClampNeg))) + x2) : Int32).toNatClampNeg then none else f_X12_nextClaim_L20 x1 x2 (σ0.1 205 (((((6 : Int32) * (σ0.1 214 ((x1 : Int32).toNatClampNeg))) + x2) : Int32).toNatClampNeg)) (fun σ1 => if (x2 : Int32) < 0 ∨ 6 ≤ (x2 : Int32).toNatClampNeg then none else if (x1 : Int32) < 0 ∨ 12 ≤ (x1 : Int32).toNatClampNeg then none else (f_X12_curveAt F Z σ1 ((σ0.1 205 (((((6 : Int32) * (σ0.1 214 ((x1 : Int32).toNatClampNeg))) + x2) : Int32).toNatClampNeg)) + (1 : Int32)) (σ1.2.1 218 ((x2 : Int32).toNatClampNeg)) (((σ1.1 215 ((x1 : Int32).toNatClampNeg)) : Int32).toInt64)).bind fun q8 => some (q8, σ1)) F σ0 (0 : Int32)
def f_X12_mix (Z : hZ) (σ0 : hSt) (x1 : Int64) : Option (Unit × hSt) := some ((), (sJ σ0 200 45 ((((σ0.2.1 200 45) * (6364136223846793005 : Int64)) + (1442695040888963407 : Int64)) + x1)))
def f_X12_keep_L83 (y2 : Int32) (k113 : hSt → Option (Int32 × hSt)) : Nat → hSt → Int32 → Option (Int32 × hSt)
  | 0, _, _ => none
  | n + 1, σ1, z4 => (if (1206 : Int32) ≤ z4 then k113 σ1 else if (z4 : Int32) < 0 ∨ 1206 ≤ (z4 : Int32).toNatClampNeg then none else if (z4 : Int32) < 0 ∨ 1206 ≤ (z4 : Int32).toNatClampNeg then none else f_X12_keep_L83 y2 k113 n (sJ σ1 220 ((z4 : Int32).toNatClampNeg) (σ1.2.1 219 ((z4 : Int32).toNatClampNeg))) (z4 + 1))
def f_X12_keep_L116 (y2 : Int32) : Nat → hSt → Int32 → Option (Int32 × hSt)
  | 0, _, _ => none
  | n + 1, σ1, z4 => (if (6 : Int32) ≤ z4 then (if y2 = (0 : Int32) then some ((0 : Int32), σ1) else some ((1 : Int32), σ1)) else if (z4 : Int32) < 0 ∨ 6 ≤ (z4 : Int32).toNatClampNeg then none else if (z4 : Int32) < 0 ∨ 6 ≤ (z4 : Int32).toNatClampNeg then none else f_X12_keep_L116 y2 n (sJ σ1 221 ((z4 : Int32).toNatClampNeg) (σ1.2.1 218 ((z4 : Int32).toNatClampNeg))) (z4 + 1))
def f_X12_keep (F : Nat) (Z : hZ) (σ0 : hSt) (x1 : Int32) (x2 : Int32) : Option (Int32 × hSt) := if (x1 : Int32) < 0 ∨ 12 ≤ (x1 : Int32).toNatClampNeg then none else if ((σ0.1 214 ((x1 : Int32).toNatClampNeg)) : Int32) < 0 ∨ 21 ≤ ((σ0.1 214 ((x1 : Int32).toNatClampNeg)) : Int32).toNatClampNeg then none else (if (σ0.1 200 41) = (-1 : Int32) then f_X12_keep_L83 x2 (fun σ1 => f_X12_keep_L116 x2 F σ1 (0 : Int32)) F (sI (sJ (sJ (sI (sI (sI (sI σ0 200 39 (1 : Int32)) 200 48 x1) 200 49 (σ0.1 200 41)) 200 50 (σ0.1 200 42)) 200 52 (σ0.2.1 200 43)) 200 53 (σ0.2.1 200 44)) 200 51 (σ0.1 204 (((σ0.1 214 ((x1 : Int32).toNatClampNeg)) : Int32).toNatClampNeg))) (0 : Int32) else f_X12_keep_L83 x2 (fun σ1 => f_X12_keep_L116 x2 F σ1 (0 : Int32)) F (sI (sJ (sJ (sI (sI (sI (sI σ0 200 39 (1 : Int32)) 200 48 x1) 200 49 (σ0.1 200 41)) 200 50 (σ0.1 200 42)) 200 52 (σ0.2.1 200 43)) 200 53 (σ0.2.1 200 44)) 200 51 (if ((σ0.1 200 41) + (1 : Int32)) < (σ0.1 204 (((σ0.1 214 ((x1 : Int32).toNatClampNeg)) : Int32).toNatClampNeg)) then ((σ0.1 200 41) + (1 : Int32)) else (σ0.1 204 (((σ0.1 214 ((x1 : Int32).toNatClampNeg)) : Int32).toNatClampNeg)))) (0 : Int32))
def f_X12_isAsked (Z : hZ) (σ0 : hSt) (x1 : Int32) (x2 : Int32) : Option (Int32 × hSt) := (f_X12_isTalk Z (sI σ0 200 0 (0 : Int32)) x1).bind fun q1 => (if q1 = (0 : Int32) then some ((0 : Int32), (sI σ0 200 0 (0 : Int32))) else (f_X12_isIn ((x2 : Int32).toInt64) (0 : Int64) (1000000 : Int64)).bind fun q3 => (if q3 = (0 : Int32) then some ((0 : Int32), (sI σ0 200 0 (0 : Int32))) else some ((1 : Int32), (sI σ0 200 0 (0 : Int32)))))
def f_X12_latest (Z : hZ) (σ0 : hSt) (x1 : Int32) : Option (Int32 × hSt) := (if (σ0.1 200 39) = (0 : Int32) then some ((-1 : Int32), (sI σ0 200 0 (0 : Int32))) else (if x1 = 0 then some (((σ0.2.1 200 52) : Int64).toInt32, (sI σ0 200 0 (0 : Int32))) else (if x1 = 1 then some ((σ0.1 200 49), (sI σ0 200 0 (0 : Int32))) else (if x1 = 2 then some (((σ0.2.1 200 53) : Int64).toInt32, (sI σ0 200 0 (0 : Int32))) else (if x1 = 3 then some ((σ0.1 200 50), (sI σ0 200 0 (0 : Int32))) else some ((-1 : Int32), (sI σ0 200 0 (0 : Int32))))))))
def f_X12_value (Z : hZ) (σ0 : hSt) (x1 : Int32) (x2 : Int32) : Option (Int32 × hSt) := (if (σ0.1 200 39) = (0 : Int32) then (if (1 : Int32) ≤ (0 : Int32) then if ((((201 : Int32) * x1) + x2) : Int32) < 0 ∨ 1206 ≤ ((((201 : Int32) * x1) + x2) : Int32).toNatClampNeg then none else some (((σ0.2.1 220 (((((201 : Int32) * x1) + x2) : Int32).toNatClampNeg)) : Int64).toInt32, (sI σ0 200 0 (1 : Int32))) else some ((0 : Int32), (sI σ0 200 0 (1 : Int32)))) else (f_X12_isIn ((x1 : Int32).toInt64) (0 : Int64) ((((σ0.1 200 51) - (1 : Int32)) : Int32).toInt64)).bind fun q4 => (if q4 = (0 : Int32) then (if (1 : Int32) ≤ (0 : Int32) then if ((((201 : Int32) * x1) + x2) : Int32) < 0 ∨ 1206 ≤ ((((201 : Int32) * x1) + x2) : Int32).toNatClampNeg then none else some (((σ0.2.1 220 (((((201 : Int32) * x1) + x2) : Int32).toNatClampNeg)) : Int64).toInt32, (sI σ0 200 0 (1 : Int32))) else some ((0 : Int32), (sI σ0 200 0 (1 : Int32)))) else if ((σ0.1 200 48) : Int32) < 0 ∨ 12 ≤ ((σ0.1 200 48) : Int32).toNatClampNeg then none else if ((((6 : Int32) * (σ0.1 214 (((σ0.1 200 48) : Int32).toNatClampNeg))) + (if (0 : Int32) < (if (5 : Int32) < x1 then (5 : Int32) else x1) then (if (5 : Int32) < x1 then (5 : Int32) else x1) else (0 : Int32))) : Int32) < 0 ∨ 126 ≤ ((((6 : Int32) * (σ0.1 214 (((σ0.1 200 48) : Int32).toNatClampNeg))) + (if (0 : Int32) < (if (5 : Int32) < x1 then (5 : Int32) else x1) then (if (5 : Int32) < x1 then (5 : Int32) else x1) else (0 : Int32))) : Int32).toNatClampNeg then none else (f_X12_isIn ((x2 : Int32).toInt64) (0 : Int64) (((σ0.1 205 (((((6 : Int32) * (σ0.1 214 (((σ0.1 200 48) : Int32).toNatClampNeg))) + (if (0 : Int32) < (if (5 : Int32) < x1 then (5 : Int32) else x1) then (if (5 : Int32) < x1 then (5 : Int32) else x1) else (0 : Int32))) : Int32).toNatClampNeg)) : Int32).toInt64)).bind fun q10 => (if q10 = (0 : Int32) then (if (1 : Int32) ≤ (0 : Int32) then if ((((201 : Int32) * x1) + x2) : Int32) < 0 ∨ 1206 ≤ ((((201 : Int32) * x1) + x2) : Int32).toNatClampNeg then none else some (((σ0.2.1 220 (((((201 : Int32) * x1) + x2) : Int32).toNatClampNeg)) : Int64).toInt32, (sI σ0 200 0 (1 : Int32))) else some ((0 : Int32), (sI σ0 200 0 (1 : Int32)))) else (if (0 : Int32) ≤ (0 : Int32) then if ((((201 : Int32) * x1) + x2) : Int32) < 0 ∨ 1206 ≤ ((((201 : Int32) * x1) + x2) : Int32).toNatClampNeg then none else some (((σ0.2.1 220 (((((201 : Int32) * x1) + x2) : Int32).toNatClampNeg)) : Int64).toInt32, (sI σ0 200 0 (0 : Int32))) else some ((0 : Int32), (sI σ0 200 0 (0 : Int32)))))))
def f_X12_draw (Z : hZ) (σ0 : hSt) (x1 : Int32) : Option (Int32 × hSt) := (if (σ0.1 200 39) = (0 : Int32) then some ((-1 : Int32), (sI σ0 200 0 (0 : Int32))) else (f_X12_isIn ((x1 : Int32).toInt64) (0 : Int64) ((((σ0.1 200 50) - (1 : Int32)) : Int32).toInt64)).bind fun q2 => (if q2 = (0 : Int32) then some ((-1 : Int32), (sI σ0 200 0 (0 : Int32))) else if (x1 : Int32) < 0 ∨ 6 ≤ (x1 : Int32).toNatClampNeg then none else some (((σ0.2.1 221 ((x1 : Int32).toNatClampNeg)) : Int64).toInt32, (sI σ0 200 0 (0 : Int32)))))
def f_X12_common_L6 : Nat → Int64 → Int64 → Option Int64
  | 0, _, _ => none
  | n + 1, z4, z6 => (if z6 = (0 : Int64) then some z4 else if z6 = (0 : Int64) then none else f_X12_common_L6 n z6 (z4 - z4 / z6 * z6))
def f_X12_common (F : Nat) (x0 : Int64) (x2 : Int64) : Option Int64 := f_X12_common_L6 F x0 x2
def f_X12_fraction (F : Nat) (x0 : Int64) (x2 : Int64) (x4 : Int32) : Option Int64 := (f_X12_common F x2 x0).bind fun q1 => (if x4 = (0 : Int32) then if q1 = (0 : Int64) then none else some (x0 / q1) else if q1 = (0 : Int64) then none else some (x2 / q1))
def b_X12_isWon (F : Nat) (Z : hZ) (u_X12_isWon : (hSt → Int32 → Int32 → Int32 → Int32 → Option (Int32 × hSt))) (σ0 : hSt) (x1 : Int32) (x2 : Int32) (x3 : Int32) (x4 : Int32) : Option (Int32 × hSt) := if (x1 : Int32) < 0 ∨ 21 ≤ (x1 : Int32).toNatClampNeg then none else (if x3 = (σ0.1 204 ((x1 : Int32).toNatClampNeg)) then (f_X12_isTrue F Z σ0 x1 x4).bind fun q10 => if q10.1 = 0 ∨ q10.1 = 1 then some (q10.1, q10.2) else none else (u_X12_isWon σ0 x1 x2 (x3 + (1 : Int32)) x4).bind fun q3 => (u_X12_isWon q3.2 x1 x2 (x3 + (1 : Int32)) (x4 ||| ((1 : Int32) <<< (x3 &&& 31)))).bind fun q4 => (if ((x2 >>> (x3 &&& 31)) &&& (1 : Int32)) = (1 : Int32) then (if q3.1 = (0 : Int32) then some ((0 : Int32), q4.2) else (if q4.1 = (0 : Int32) then some ((0 : Int32), q4.2) else some ((1 : Int32), q4.2))) else (if q3.1 = (0 : Int32) then (if q4.1 = (0 : Int32) then some ((0 : Int32), q4.2) else some ((1 : Int32), q4.2)) else some ((1 : Int32), q4.2))))
def G_Mw (F : Nat) (Z : hZ) : Nat → (hSt → Int32 → Int32 → Int32 → Int32 → Option (Int32 × hSt))
  | 0 => (fun _ _ _ _ _ => none)
  | d + 1 => b_X12_isWon F Z (G_Mw F Z d)
def f_X12_isWon (F : Nat) (Z : hZ) (σ0 : hSt) (x1 : Int32) (x2 : Int32) (x3 : Int32) (x4 : Int32) : Option (Int32 × hSt) := (G_Mw F Z 8) σ0 x1 x2 x3 x4
def f_X12_won (F : Nat) (Z : hZ) (σ0 : hSt) (x1 : Int32) (x2 : Int32) : Option (Int32 × hSt) := (f_X12_isSaying Z (sI σ0 200 0 (0 : Int32)) x1).bind fun q1 => (if q1 = (0 : Int32) then some ((-1 : Int32), (sI σ0 200 0 (0 : Int32))) else (f_X12_isIn ((x2 : Int32).toInt64) (0 : Int64) (63 : Int64)).bind fun q3 => (if q3 = (0 : Int32) then some ((-1 : Int32), (sI σ0 200 0 (0 : Int32))) else (f_X12_isWon F Z (sI σ0 200 0 (0 : Int32)) x1 x2 (0 : Int32) (0 : Int32)).bind fun q5 => (if q5.1 = (0 : Int32) then some ((0 : Int32), q5.2) else some ((1 : Int32), q5.2))))
def b_X12_folded (F : Nat) (Z : hZ) (u_X12_folded : (hSt → Int32 → Int32 → Int32 → Int64 → Option (Int64 × hSt))) (σ0 : hSt) (x1 : Int32) (x2 : Int32) (x3 : Int32) (x4 : Int64) : Option (Int64 × hSt) := if (x1 : Int32) < 0 ∨ 21 ≤ (x1 : Int32).toNatClampNeg then none else (if x3 < (σ0.1 204 ((x1 : Int32).toNatClampNeg)) then if (x3 : Int32) < 0 ∨ 6 ≤ (x3 : Int32).toNatClampNeg then none else (u_X12_folded (sJ σ0 208 ((x3 : Int32).toNatClampNeg) (0 : Int64)) x1 x2 (x3 + (1 : Int32)) x4).bind fun q4 => if (x3 : Int32) < 0 ∨ 6 ≤ (x3 : Int32).toNatClampNeg then none else (u_X12_folded (sJ q4.2 208 ((x3 : Int32).toNatClampNeg) (1 : Int64)) x1 x2 (x3 + (1 : Int32)) x4).bind fun q6 => if x4 = (0 : Int64) then none else (if ((x2 >>> (x3 &&& 31)) &&& (1 : Int32)) = (1 : Int32) then some (((q4.1 * q6.1) - (q4.1 * q6.1) / x4 * x4), q6.2) else (f_X12_rest ((q4.1 + q6.1) - ((q4.1 * q6.1) - (q4.1 * q6.1) / x4 * x4)) x4).bind fun q9 => some (q9, q6.2)) else (f_X12_worthAt F Z σ0 x1 x4).bind fun q10 => some (q10.1, q10.2))
def G_Mf (F : Nat) (Z : hZ) : Nat → (hSt → Int32 → Int32 → Int32 → Int64 → Option (Int64 × hSt))
  | 0 => (fun _ _ _ _ _ => none)
  | d + 1 => b_X12_folded F Z (G_Mf F Z d)
def f_X12_folded (F : Nat) (Z : hZ) (σ0 : hSt) (x1 : Int32) (x2 : Int32) (x3 : Int32) (x4 : Int64) : Option (Int64 × hSt) := (G_Mf F Z 8) σ0 x1 x2 x3 x4
def f_X12_game (F : Nat) (Z : hZ) (σ0 : hSt) (x1 : Int32) (x2 : Int32) (x3 : Int32) : Option (Int32 × hSt) := (f_X12_isSaying Z (sI σ0 200 0 (0 : Int32)) x1).bind fun q1 => (if q1 = (0 : Int32) then some ((-1 : Int32), (sI σ0 200 0 (0 : Int32))) else (f_X12_isIn ((x2 : Int32).toInt64) (0 : Int64) (63 : Int64)).bind fun q3 => (if q3 = (0 : Int32) then some ((-1 : Int32), (sI σ0 200 0 (0 : Int32))) else (f_X12_isRing F x3).bind fun q5 => (if q5 = (0 : Int32) then some ((-1 : Int32), (sI σ0 200 0 (0 : Int32))) else (f_X12_layPoint F Z (sI σ0 200 0 (0 : Int32)) x3).bind fun q7 => (f_X12_folded F Z q7.2 x1 x2 (q7.2.1 200 20) ((x3 : Int32).toInt64)).bind fun q8 => some ((q8.1 : Int64).toInt32, q8.2))))
def f_X12_steep_L71 (σ1 : hSt) (y1 : Int32) (y4 : Int32) : Nat → Int32 → Int32 → Option (Int32 × hSt)
  | 0, _, _ => none
  | n + 1, z5, z6 => if (y1 : Int32) < 0 ∨ 21 ≤ (y1 : Int32).toNatClampNeg then none else (if (σ1.1 204 ((y1 : Int32).toNatClampNeg)) ≤ z6 then some (z5, σ1) else (if y4 = (0 : Int32) then f_X12_steep_L71 σ1 y1 y4 n ((2 : Int32) * z5) (z6 + 1) else (if z5 = (0 : Int32) then f_X12_steep_L71 σ1 y1 y4 n (0 : Int32) (z6 + 1) else f_X12_steep_L71 σ1 y1 y4 n (2 : Int32) (z6 + 1))))
def f_X12_steep (F : Nat) (Z : hZ) (σ0 : hSt) (x1 : Int32) (x2 : Int32) (x3 : Int32) (x4 : Int32) : Option (Int32 × hSt) := (f_X12_isSaying Z (sI σ0 200 0 (0 : Int32)) x1).bind fun q1 => (if q1 = (0 : Int32) then some ((-1 : Int32), (sI σ0 200 0 (0 : Int32))) else if (x1 : Int32) < 0 ∨ 21 ≤ (x1 : Int32).toNatClampNeg then none else (f_X12_isIn ((x2 : Int32).toInt64) (0 : Int64) ((((σ0.1 204 ((x1 : Int32).toNatClampNeg)) - (1 : Int32)) : Int32).toInt64)).bind fun q4 => (if q4 = (0 : Int32) then some ((-1 : Int32), (sI σ0 200 0 (0 : Int32))) else if (x1 : Int32) < 0 ∨ 21 ≤ (x1 : Int32).toNatClampNeg then none else (f_X12_isIn ((x3 : Int32).toInt64) (0 : Int64) (((σ0.1 204 ((x1 : Int32).toNatClampNeg)) : Int32).toInt64)).bind fun q7 => (if q7 = (0 : Int32) then some ((-1 : Int32), (sI σ0 200 0 (0 : Int32))) else if ((((6 : Int32) * x1) + x2) : Int32) < 0 ∨ 126 ≤ ((((6 : Int32) * x1) + x2) : Int32).toNatClampNeg then none else f_X12_steep_L71 (sI σ0 200 0 (0 : Int32)) x1 x4 F (σ0.1 205 (((((6 : Int32) * x1) + x2) : Int32).toNatClampNeg)) (if (x2 + (1 : Int32)) < x3 then x3 else (x2 + (1 : Int32))))))
def f_X12_isNet (Z : hZ) (σ0 : hSt) (x1 : Int32) : Option Int32 := (if x1 < (0 : Int32) then some (0 : Int32) else (if (σ0.1 200 58) ≤ x1 then some (0 : Int32) else some (1 : Int32)))
def f_X12_net (Z : hZ) (σ0 : hSt) (x1 : Int32) (x2 : Int32) : Option (Int32 × hSt) := (if (σ0.1 200 58) = (12 : Int32) then some ((-1 : Int32), (sI σ0 200 0 (0 : Int32))) else (f_X12_isIn ((x1 : Int32).toInt64) (2 : Int64) (6 : Int64)).bind fun q2 => (if q2 = (0 : Int32) then some ((-1 : Int32), (sI σ0 200 0 (0 : Int32))) else (if x2 < (0 : Int32) then some ((-1 : Int32), (sI σ0 200 0 (0 : Int32))) else (if x2 < ((1 : Int32) <<< (((x1 * (x1 - (1 : Int32))) / (2 : Int32)) &&& 31)) then if ((σ0.1 200 58) : Int32) < 0 ∨ 12 ≤ ((σ0.1 200 58) : Int32).toNatClampNeg then none else if ((σ0.1 200 58) : Int32) < 0 ∨ 12 ≤ ((σ0.1 200 58) : Int32).toNatClampNeg then none else some ((((σ0.1 200 58) + (1 : Int32)) - (1 : Int32)), (sI (sI (sI (sI σ0 200 0 (0 : Int32)) 222 (((σ0.1 200 58) : Int32).toNatClampNeg) x1) 223 (((σ0.1 200 58) : Int32).toNatClampNeg) x2) 200 58 ((σ0.1 200 58) + (1 : Int32)))) else some ((-1 : Int32), (sI σ0 200 0 (0 : Int32)))))))
def f_X12_hasEdge (Z : hZ) (σ0 : hSt) (x1 : Int32) (x2 : Int32) (x3 : Int32) : Option Int32 := if (x1 : Int32) < 0 ∨ 12 ≤ (x1 : Int32).toNatClampNeg then none else (if (((σ0.1 223 ((x1 : Int32).toNatClampNeg)) >>> (((((if x2 < x3 then x3 else x2) * ((if x2 < x3 then x3 else x2) - (1 : Int32))) / (2 : Int32)) + (if x3 < x2 then x3 else x2)) &&& 31)) &&& (1 : Int32)) = (1 : Int32) then some (1 : Int32) else some (0 : Int32))
def f_X12_puts_L46 (Z : hZ) (σ1 : hSt) (y1 : Int32) (y2 : Int32) (y3 : Int32) (y4 : Int32) (y5 : Int32) (k95 : Int32 → Option (Int32 × hSt)) : Nat → Int32 → Int32 → Option (Int32 × hSt)
  | 0, _, _ => none
  | n + 1, z6, z7 => (if y3 ≤ z7 then k95 z6 else (if z6 = (0 : Int32) then k95 z6 else (f_X12_hasEdge Z σ1 y1 z7 y3).bind fun q8 => if (z7 : Int32) < 0 ∨ 6 ≤ (z7 : Int32).toNatClampNeg then none else (f_X12_hasEdge Z σ1 y2 (σ1.1 224 ((z7 : Int32).toNatClampNeg)) y5).bind fun q10 => (if q8 = q10 then f_X12_puts_L46 Z σ1 y1 y2 y3 y4 y5 k95 n (1 : Int32) (z7 + 1) else f_X12_puts_L46 Z σ1 y1 y2 y3 y4 y5 k95 n (0 : Int32) (z7 + 1))))
def f_X12_puts_L15 (F : Nat) (Z : hZ) (u_X12_puts : (hSt → Int32 → Int32 → Int32 → Int32 → Option (Int32 × hSt))) (y1 : Int32) (y2 : Int32) (y3 : Int32) (y4 : Int32) : Nat → hSt → Int32 → Option (Int32 × hSt)
  | 0, _, _ => none
  | n + 1, σ1, z5 => if (y1 : Int32) < 0 ∨ 12 ≤ (y1 : Int32).toNatClampNeg then none else (if (σ1.1 222 ((y1 : Int32).toNatClampNeg)) ≤ z5 then some ((0 : Int32), σ1) else (if ((y4 >>> (z5 &&& 31)) &&& (1 : Int32)) = (0 : Int32) then f_X12_puts_L46 Z σ1 y1 y2 y3 y4 z5 (fun z6 => if (y3 : Int32) < 0 ∨ 6 ≤ (y3 : Int32).toNatClampNeg then none else (if z6 = (0 : Int32) then f_X12_puts_L15 F Z u_X12_puts y1 y2 y3 y4 n (sI σ1 224 ((y3 : Int32).toNatClampNeg) z5) (z5 + 1) else (u_X12_puts (sI σ1 224 ((y3 : Int32).toNatClampNeg) z5) y1 y2 (y3 + (1 : Int32)) (y4 ||| ((1 : Int32) <<< (z5 &&& 31)))).bind fun q18 => (if q18.1 = (0 : Int32) then f_X12_puts_L15 F Z u_X12_puts y1 y2 y3 y4 n q18.2 (z5 + 1) else some ((1 : Int32), q18.2)))) F (1 : Int32) (0 : Int32) else f_X12_puts_L46 Z σ1 y1 y2 y3 y4 z5 (fun z6 => if (y3 : Int32) < 0 ∨ 6 ≤ (y3 : Int32).toNatClampNeg then none else (if z6 = (0 : Int32) then f_X12_puts_L15 F Z u_X12_puts y1 y2 y3 y4 n (sI σ1 224 ((y3 : Int32).toNatClampNeg) z5) (z5 + 1) else (u_X12_puts (sI σ1 224 ((y3 : Int32).toNatClampNeg) z5) y1 y2 (y3 + (1 : Int32)) (y4 ||| ((1 : Int32) <<< (z5 &&& 31)))).bind fun q14 => (if q14.1 = (0 : Int32) then f_X12_puts_L15 F Z u_X12_puts y1 y2 y3 y4 n q14.2 (z5 + 1) else some ((1 : Int32), q14.2)))) F (0 : Int32) (0 : Int32)))
def b_X12_puts (F : Nat) (Z : hZ) (u_X12_puts : (hSt → Int32 → Int32 → Int32 → Int32 → Option (Int32 × hSt))) (σ0 : hSt) (x1 : Int32) (x2 : Int32) (x3 : Int32) (x4 : Int32) : Option (Int32 × hSt) := if (x1 : Int32) < 0 ∨ 12 ≤ (x1 : Int32).toNatClampNeg then none else (if x3 = (σ0.1 222 ((x1 : Int32).toNatClampNeg)) then some ((1 : Int32), σ0) else f_X12_puts_L15 F Z u_X12_puts x1 x2 x3 x4 F σ0 (0 : Int32))
def G_Mp (F : Nat) (Z : hZ) : Nat → (hSt → Int32 → Int32 → Int32 → Int32 → Option (Int32 × hSt))
  | 0 => (fun _ _ _ _ _ => none)
  | d + 1 => b_X12_puts F Z (G_Mp F Z d)
def f_X12_puts (F : Nat) (Z : hZ) (σ0 : hSt) (x1 : Int32) (x2 : Int32) (x3 : Int32) (x4 : Int32) : Option (Int32 × hSt) := (G_Mp F Z 8) σ0 x1 x2 x3 x4
def f_X12_areAlike (F : Nat) (Z : hZ) (σ0 : hSt) (x1 : Int32) (x2 : Int32) : Option (Int32 × hSt) := if (x1 : Int32) < 0 ∨ 12 ≤ (x1 : Int32).toNatClampNeg then none else if (x2 : Int32) < 0 ∨ 12 ≤ (x2 : Int32).toNatClampNeg then none else (if (σ0.1 222 ((x1 : Int32).toNatClampNeg)) = (σ0.1 222 ((x2 : Int32).toNatClampNeg)) then (f_X12_puts F Z σ0 x1 x2 (0 : Int32) (0 : Int32)).bind fun q4 => (if q4.1 = (0 : Int32) then some ((0 : Int32), q4.2) else some ((1 : Int32), q4.2)) else some ((0 : Int32), σ0))
def f_X12_alike (F : Nat) (Z : hZ) (σ0 : hSt) (x1 : Int32) (x2 : Int32) : Option (Int32 × hSt) := (f_X12_isNet Z (sI σ0 200 0 (0 : Int32)) x1).bind fun q1 => (if q1 = (0 : Int32) then some ((-1 : Int32), (sI σ0 200 0 (0 : Int32))) else (f_X12_isNet Z (sI σ0 200 0 (0 : Int32)) x2).bind fun q3 => (if q3 = (0 : Int32) then some ((-1 : Int32), (sI σ0 200 0 (0 : Int32))) else (f_X12_areAlike F Z (sI σ0 200 0 (0 : Int32)) x1 x2).bind fun q5 => (if q5.1 = (0 : Int32) then some ((0 : Int32), q5.2) else some ((1 : Int32), q5.2))))
def f_X12_shuffle (F : Nat) (Z : hZ) (σ0 : hSt) (x1 : Int32) (x2 : Int32) (x3 : Int32) : Option (Int32 × hSt) := (f_X12_isNet Z (sI σ0 200 0 (0 : Int32)) x1).bind fun q1 => (if q1 = (0 : Int32) then some ((-1 : Int32), (sI σ0 200 0 (0 : Int32))) else (f_X12_isNet Z (sI σ0 200 0 (0 : Int32)) x2).bind fun q3 => (if q3 = (0 : Int32) then some ((-1 : Int32), (sI σ0 200 0 (0 : Int32))) else if (x1 : Int32) < 0 ∨ 12 ≤ (x1 : Int32).toNatClampNeg then none else (f_X12_isIn ((x3 : Int32).toInt64) (0 : Int64) ((((σ0.1 222 ((x1 : Int32).toNatClampNeg)) - (1 : Int32)) : Int32).toInt64)).bind fun q6 => (if q6 = (0 : Int32) then some ((-1 : Int32), (sI σ0 200 0 (0 : Int32))) else (f_X12_areAlike F Z (sI σ0 200 0 (0 : Int32)) x1 x2).bind fun q8 => (if q8.1 = (0 : Int32) then some ((-1 : Int32), q8.2) else if (x3 : Int32) < 0 ∨ 6 ≤ (x3 : Int32).toNatClampNeg then none else some ((q8.2.1 224 ((x3 : Int32).toNatClampNeg)), q8.2)))))
def f_X12_unlike_L73 (σ1 : hSt) (y1 : Int32) (y2 : Int32) (y5 : Int32) (y6 : Int32) : Nat → Int64 → Int32 → Int32 → Option (Int32 × hSt)
  | 0, _, _, _ => none
  | n + 1, z7, z9, z10 => (if y5 ≤ z10 then some (z9, σ1) else (if (((((z7 * (6364136223846793005 : Int64)) + (1442695040888963407 : Int64))).toUInt64 >>> (((33 : Int32) : Int32).toInt64.toUInt64 &&& Int64.toUInt64 63)).toInt64 - ((((z7 * (6364136223846793005 : Int64)) + (1442695040888963407 : Int64))).toUInt64 >>> (((33 : Int32) : Int32).toInt64.toUInt64 &&& Int64.toUInt64 63)).toInt64 / (2 : Int64) * (2 : Int64)) = (0 : Int64) then (if y6 = (0 : Int32) then f_X12_unlike_L73 σ1 y1 y2 y5 y6 n ((z7 * (6364136223846793005 : Int64)) + (1442695040888963407 : Int64)) (z9 + (1 : Int32)) (z10 + 1) else (if y1 = (if y2 < y1 then y2 else y1) then f_X12_unlike_L73 σ1 y1 y2 y5 y6 n ((z7 * (6364136223846793005 : Int64)) + (1442695040888963407 : Int64)) (z9 + (1 : Int32)) (z10 + 1) else f_X12_unlike_L73 σ1 y1 y2 y5 y6 n ((z7 * (6364136223846793005 : Int64)) + (1442695040888963407 : Int64)) (z9 + (0 : Int32)) (z10 + 1))) else (if y6 = (0 : Int32) then f_X12_unlike_L73 σ1 y1 y2 y5 y6 n ((z7 * (6364136223846793005 : Int64)) + (1442695040888963407 : Int64)) (z9 + (1 : Int32)) (z10 + 1) else (if y2 = (if y2 < y1 then y2 else y1) then f_X12_unlike_L73 σ1 y1 y2 y5 y6 n ((z7 * (6364136223846793005 : Int64)) + (1442695040888963407 : Int64)) (z9 + (1 : Int32)) (z10 + 1) else f_X12_unlike_L73 σ1 y1 y2 y5 y6 n ((z7 * (6364136223846793005 : Int64)) + (1442695040888963407 : Int64)) (z9 + (0 : Int32)) (z10 + 1)))))
def f_X12_unlike (F : Nat) (Z : hZ) (σ0 : hSt) (x1 : Int32) (x2 : Int32) (x3 : Int64) (x5 : Int32) : Option (Int32 × hSt) := (f_X12_isNet Z (sI σ0 200 0 (0 : Int32)) x1).bind fun q1 => (if q1 = (0 : Int32) then some ((-1 : Int32), (sI σ0 200 0 (0 : Int32))) else (f_X12_isNet Z (sI σ0 200 0 (0 : Int32)) x2).bind fun q3 => (if q3 = (0 : Int32) then some ((-1 : Int32), (sI σ0 200 0 (0 : Int32))) else (if x1 = x2 then some ((-1 : Int32), (sI σ0 200 0 (0 : Int32))) else if (x1 : Int32) < 0 ∨ 12 ≤ (x1 : Int32).toNatClampNeg then none else if (x2 : Int32) < 0 ∨ 12 ≤ (x2 : Int32).toNatClampNeg then none else (if (σ0.1 222 ((x1 : Int32).toNatClampNeg)) = (σ0.1 222 ((x2 : Int32).toNatClampNeg)) then (f_X12_isIn ((x5 : Int32).toInt64) (1 : Int64) (30 : Int64)).bind fun q9 => (if q9 = (0 : Int32) then some ((-1 : Int32), (sI σ0 200 0 (0 : Int32))) else (f_X12_areAlike F Z (sI σ0 200 0 (0 : Int32)) x1 x2).bind fun q11 => f_X12_unlike_L73 q11.2 x1 x2 x5 q11.1 F x3 (0 : Int32) (0 : Int32)) else some ((-1 : Int32), (sI σ0 200 0 (0 : Int32)))))))
def f_X12_agrees (x0 : Int64) (x2 : Int32) (x3 : Int32) (x4 : Int32) (x5 : Int32) : Option Int32 := some ((((x0 >>> ((((((((x2 * (3 : Int32)) + x3) * (2 : Int32)) + x4) * (2 : Int32)) + x5) : Int32).toInt64 &&& 63)) &&& (1 : Int64)) : Int64).toInt32)
def f_X12_rooms_L93 (y1 : Int64) (y3 : Int32) (y4 : Int32) (y5 : Int32) (y6 : Int32) (y7 : Int32) (y9 : Int32) (k142 : Int32 → Option (Int32 × hSt)) : Nat → Int32 → Int32 → Option (Int32 × hSt)
  | 0, _, _ => none
  | n + 1, z8, z10 => (if (3 : Int32) ≤ z10 then k142 z8 else (f_X12_agrees y1 y9 z10 ((y5 >>> (y9 &&& 31)) &&& (1 : Int32)) ((y7 >>> ((((3 : Int32) * ((y6 >>> (y9 &&& 31)) &&& (1 : Int32))) + z10) &&& 31)) &&& (1 : Int32))).bind fun q12 => f_X12_rooms_L93 y1 y3 y4 y5 y6 y7 y9 k142 n (z8 + q12) (z10 + 1))
def f_X12_rooms_L84 (F : Nat) (y1 : Int64) (y3 : Int32) (y4 : Int32) (y5 : Int32) (y6 : Int32) (y7 : Int32) (k148 : Int32 → Option (Int32 × hSt)) : Nat → Int32 → Int32 → Option (Int32 × hSt)
  | 0, _, _ => none
  | n + 1, z8, z9 => (if (3 : Int32) ≤ z9 then k148 z8 else f_X12_rooms_L93 y1 y3 y4 y5 y6 y7 z9 (fun z8 => f_X12_rooms_L84 F y1 y3 y4 y5 y6 y7 k148 n z8 (z9 + 1)) F z8 (0 : Int32))
def f_X12_rooms_L62 (F : Nat) (y1 : Int64) (y3 : Int32) (y5 : Int32) (y6 : Int32) (k163 : Int32 → Option (Int32 × hSt)) : Nat → Int32 → Int32 → Option (Int32 × hSt)
  | 0, _, _ => none
  | n + 1, z4, z7 => (if y3 = (0 : Int32) then (if (8 : Int32) ≤ z7 then k163 z4 else f_X12_rooms_L84 F y1 y3 z4 y5 y6 z7 (fun z8 => f_X12_rooms_L62 F y1 y3 y5 y6 k163 n (if z4 < z8 then z8 else z4) (z7 + 1)) F (0 : Int32) (0 : Int32)) else (if (64 : Int32) ≤ z7 then k163 z4 else f_X12_rooms_L84 F y1 y3 z4 y5 y6 z7 (fun z8 => f_X12_rooms_L62 F y1 y3 y5 y6 k163 n (if z4 < z8 then z8 else z4) (z7 + 1)) F (0 : Int32) (0 : Int32)))
def f_X12_rooms_L44 (F : Nat) (y1 : Int64) (y3 : Int32) (y5 : Int32) (k169 : Int32 → Option (Int32 × hSt)) : Nat → Int32 → Int32 → Option (Int32 × hSt)
  | 0, _, _ => none
  | n + 1, z4, z6 => (if y3 = (0 : Int32) then (if (1 : Int32) ≤ z6 then k169 z4 else f_X12_rooms_L62 F y1 y3 y5 z6 (fun z4 => f_X12_rooms_L44 F y1 y3 y5 k169 n z4 (z6 + 1)) F z4 (0 : Int32)) else (if (8 : Int32) ≤ z6 then k169 z4 else f_X12_rooms_L62 F y1 y3 y5 z6 (fun z4 => f_X12_rooms_L44 F y1 y3 y5 k169 n z4 (z6 + 1)) F z4 (0 : Int32)))
def f_X12_rooms_L34 (F : Nat) (σ1 : hSt) (y1 : Int64) (y3 : Int32) : Nat → Int32 → Int32 → Option (Int32 × hSt)
  | 0, _, _ => none
  | n + 1, z4, z5 => (if (8 : Int32) ≤ z5 then some (z4, σ1) else f_X12_rooms_L44 F y1 y3 z5 (fun z4 => f_X12_rooms_L34 F σ1 y1 y3 n z4 (z5 + 1)) F z4 (0 : Int32))
def f_X12_rooms (F : Nat) (Z : hZ) (σ0 : hSt) (x1 : Int64) (x3 : Int32) : Option (Int32 × hSt) := (f_X12_isIn x1 (0 : Int64) (68719476735 : Int64)).bind fun q1 => (if q1 = (0 : Int32) then some ((-1 : Int32), (sI σ0 200 0 (0 : Int32))) else (f_X12_isIn ((x3 : Int32).toInt64) (0 : Int64) (1 : Int64)).bind fun q3 => (if q3 = (0 : Int32) then some ((-1 : Int32), (sI σ0 200 0 (0 : Int32))) else f_X12_rooms_L34 F (sI σ0 200 0 (0 : Int32)) x1 x3 F (0 : Int32) (0 : Int32)))
def f_X12_cell (x0 : Int32) (x1 : Int32) : Option Int32 := some ((x0 >>> (x1 &&& 31)) &&& (1 : Int32))
def f_X12_caughtBy_L14 (y0 : Int32) (y1 : Int32) (y3 : Int32) (k59 : Int32 → Option Int32) : Nat → Int32 → Int32 → Option Int32
  | 0, _, _ => none
  | n + 1, z2, z4 => (if ((1 : Int32) <<< (y0 &&& 31)) ≤ z4 then k59 z2 else (f_X12_cell y1 (y3 ^^^ z4)).bind fun q3 => (f_X12_cell y1 y3).bind fun q4 => (f_X12_cell y1 z4).bind fun q5 => (if q3 = (q4 ^^^ q5) then f_X12_caughtBy_L14 y0 y1 y3 k59 n (z2 + (0 : Int32)) (z4 + 1) else f_X12_caughtBy_L14 y0 y1 y3 k59 n (z2 + (1 : Int32)) (z4 + 1)))
def f_X12_caughtBy_L4 (F : Nat) (y0 : Int32) (y1 : Int32) : Nat → Int32 → Int32 → Option Int32
  | 0, _, _ => none
  | n + 1, z2, z3 => (if ((1 : Int32) <<< (y0 &&& 31)) ≤ z3 then some z2 else f_X12_caughtBy_L14 y0 y1 z3 (fun z2 => f_X12_caughtBy_L4 F y0 y1 n z2 (z3 + 1)) F z2 (0 : Int32))
def f_X12_caughtBy (F : Nat) (x0 : Int32) (x1 : Int32) : Option Int32 := f_X12_caughtBy_L4 F x0 x1 F (0 : Int32) (0 : Int32)
def f_X12_isBook (x0 : Int32) (x1 : Int32) : Option Int32 := (f_X12_isIn ((x0 : Int32).toInt64) (1 : Int64) (4 : Int64)).bind fun q1 => (if q1 = (0 : Int32) then some (0 : Int32) else (f_X12_isIn ((x1 : Int32).toInt64) (0 : Int64) (((1 : Int64) <<< ((((1 : Int32) <<< (x0 &&& 31)) : Int32).toInt64 &&& 63)) - (1 : Int64))).bind fun q3 => (if q3 = (0 : Int32) then some (0 : Int32) else some (1 : Int32)))
def f_X12_mended_L36 (y1 : Int32) (y2 : Int32) (y3 : Int32) (k70 : Int32 → Option (Int32 × hSt)) : Nat → Int32 → Int32 → Option (Int32 × hSt)
  | 0, _, _ => none
  | n + 1, z4, z5 => (if ((1 : Int32) <<< (y1 &&& 31)) ≤ z5 then k70 z4 else (f_X12_cell y2 (y3 ^^^ z5)).bind fun q6 => (f_X12_cell y2 z5).bind fun q7 => f_X12_mended_L36 y1 y2 y3 k70 n (z4 + (q6 ^^^ q7)) (z5 + 1))
def f_X12_mended (F : Nat) (Z : hZ) (σ0 : hSt) (x1 : Int32) (x2 : Int32) (x3 : Int32) : Option (Int32 × hSt) := (f_X12_isBook x1 x2).bind fun q1 => (if q1 = (0 : Int32) then some ((-1 : Int32), (sI σ0 200 0 (0 : Int32))) else (f_X12_isIn ((x3 : Int32).toInt64) (0 : Int64) (((((1 : Int32) <<< (x1 &&& 31)) - (1 : Int32)) : Int32).toInt64)).bind fun q3 => (if q3 = (0 : Int32) then some ((-1 : Int32), (sI σ0 200 0 (0 : Int32))) else f_X12_mended_L36 x1 x2 x3 (fun z4 => (if ((2 : Int32) * z4) ≤ ((1 : Int32) <<< (x1 &&& 31)) then some ((0 : Int32), (sI σ0 200 0 (0 : Int32))) else some ((1 : Int32), (sI σ0 200 0 (0 : Int32))))) F (0 : Int32) (0 : Int32)))
def f_X12_least_L34 (F : Nat) (y1 : Int32) (y2 : Int32) (k81 : Int32 → Option (Int32 × hSt)) : Nat → Int32 → Int32 → Option (Int32 × hSt)
  | 0, _, _ => none
  | n + 1, z3, z4 => (if ((1 : Int32) <<< (((1 : Int32) <<< (y1 &&& 31)) &&& 31)) ≤ z4 then k81 z3 else (f_X12_caughtBy F y1 z4).bind fun q6 => (if q6 ≤ (0 : Int32) then f_X12_least_L34 F y1 y2 k81 n z3 (z4 + 1) else (if z3 = (-1 : Int32) then f_X12_least_L34 F y1 y2 k81 n z4 (z4 + 1) else (f_X12_caughtBy F y1 z3).bind fun q9 => (if q9 ≤ q6 then f_X12_least_L34 F y1 y2 k81 n z3 (z4 + 1) else f_X12_least_L34 F y1 y2 k81 n z4 (z4 + 1)))))
def f_X12_least (F : Nat) (Z : hZ) (σ0 : hSt) (x1 : Int32) (x2 : Int32) : Option (Int32 × hSt) := (f_X12_isIn ((x1 : Int32).toInt64) (1 : Int64) (3 : Int64)).bind fun q1 => (if q1 = (0 : Int32) then some ((-1 : Int32), (sI σ0 200 0 (0 : Int32))) else (f_X12_isIn ((x2 : Int32).toInt64) (0 : Int64) (1 : Int64)).bind fun q3 => (if q3 = (0 : Int32) then some ((-1 : Int32), (sI σ0 200 0 (0 : Int32))) else f_X12_least_L34 F x1 x2 (fun z3 => (if z3 = (-1 : Int32) then some ((-1 : Int32), (sI σ0 200 0 (0 : Int32))) else (if x2 = (0 : Int32) then (f_X12_caughtBy F x1 z3).bind fun q13 => some (q13, (sI σ0 200 0 (0 : Int32))) else some (z3, (sI σ0 200 0 (0 : Int32)))))) F (-1 : Int32) (0 : Int32)))
def f_X12_count (Z : hZ) (σ0 : hSt) (x1 : Int32) : Option (Int32 × hSt) := (if x1 = 0 then some ((σ0.1 200 15), (sI σ0 200 0 (0 : Int32))) else (if x1 = 1 then some ((σ0.1 200 25), (sI σ0 200 0 (0 : Int32))) else (if x1 = 2 then some ((σ0.1 200 26), (sI σ0 200 0 (0 : Int32))) else (if x1 = 3 then some ((σ0.1 200 36), (sI σ0 200 0 (0 : Int32))) else (if x1 = 4 then some ((σ0.1 200 58), (sI σ0 200 0 (0 : Int32))) else (if x1 = 5 then some ((σ0.1 200 20), (sI σ0 200 0 (0 : Int32))) else (if x1 = 6 then some ((σ0.1 200 3), (sI σ0 200 0 (0 : Int32))) else some ((-1 : Int32), (sI σ0 200 0 (0 : Int32))))))))))
abbrev rm_X12_thrown : Room := { frames := 0, cells := 0, slots := 0, locals := 0 }
set_option maxRecDepth 100000 in
set_option maxHeartbeats 8000000 in
theorem c_X12_thrown (l : Launch) (D : va_G) (G : hG) (Z : hZ) (Y : va_W) (σ0 : hSt) (res : Int32) (h : f_X12_thrown Z σ0 = some res) : CT l yX12_thrown cX12_thrown 1 (some .int) rm_X12_thrown D G 0 0 [.ref (G.2.1 200)] (mW G Z Y σ0) (mW G Z Y σ0) (some (.int res)) := by
  unfold f_X12_thrown at h
  refine CT.mk (cc := cX12_thrown) (maxL := 1) (ret := (some .int)) (own := RX12) (plainFor_of_name (by decide)) rfl (Nat.le_of_ble_eq_true rfl) ?_
  intro p e s m args below meth c A ls C0 hnm hA hP hD hl
  obtain ⟨hx, hb, hr, hml, hown, hts, hlocks, hK, hE⟩ := id C0
  have hS : va_S A s.heap s.heap [] := va_S.rf
  have hl : lv_has ls 1 [(0, .ref (G.2.1 200))] := hl
  refine lv_aload_n hx hb dX12_thrown_0 rfl (lv_at hl 0 rfl) ?_
  refine va_get (D := D) (ci := 12) (v := .int (σ0.1 200 0)) (C := RX12) (T := TX12) (N := 59) hx hb hts inU_X12 hown hK hP _ (mg_200 G Z Y σ0) rfl 0 (by decide) (hts _ wd_1248) (fun _ h9 => h9) rfl dX12_thrown_1 ?_
  obtain rfl := Option.some.inj h
  exact W.iret (v := (σ0.1 200 0)) hx hb hr (q_end hK hP hD hS) hS.2.2 dX12_thrown_4
abbrev rm_X12_isIn : Room := { frames := 0, cells := 0, slots := 0, locals := 0 }
set_option maxRecDepth 100000 in
set_option maxHeartbeats 8000000 in
theorem c_X12_isIn (l : Launch) (D : va_G) (G : hG) (w : va_W) (x0 : Int64) (x2 : Int64) (x4 : Int64) (res : Int32) (h : f_X12_isIn x0 x2 x4 = some res) : CT l yX12_isIn cX12_isIn 6 (some .boolean) rm_X12_isIn D G 0 0 [.long x0, .long x2, .long x4] w w (some (.int res)) := by
  unfold f_X12_isIn at h
  refine CT.mk (cc := cX12_isIn) (maxL := 6) (ret := (some .boolean)) (own := RX12) (plainFor_of_name (by decide)) rfl (Nat.le_of_ble_eq_true rfl) ?_
  intro p e s m args below meth c A ls C0 hnm hA hP hD hl
  obtain ⟨hx, hb, hr, hml, hown, hts, hlocks, hK, hE⟩ := id C0
  have hS : va_S A s.heap s.heap [] := va_S.rf
  have hl : lv_has ls 6 [(0, .long x0), (2, .long x2), (4, .long x4)] := hl
  refine lv_lload_n hx hb dX12_isIn_0 rfl (lv_at hl 0 rfl) ?_
  refine lv_lload_n hx hb dX12_isIn_1 rfl (lv_at hl 1 rfl) ?_
  refine W.lcmp hx hb dX12_isIn_2 ?_
  refine lv_if_lt (tgt := 17) hx hb dX12_isIn_3 (by decide) (fun c1 => ?_) (fun c1 => ?_)
  · skip
    have c1 := (lg_cmp_lt _ _).mp c1
    have h := f_t c1 h
    refine lv_iconst (v := 0) hx hb dX12_isIn_17 (by decide) ?_
    obtain rfl := Option.some.inj h
    exact W.zret (v := (0 : Int32)) hx hb hr rfl (q_end hK hP hD hS) hS.2.2 dX12_isIn_18
  · skip
    have c1 := mt (lg_cmp_lt _ _).mpr c1
    have h := f_f c1 h
    refine lv_lload_n hx hb dX12_isIn_6 rfl (lv_at hl 0 rfl) ?_
    refine lv_lload hx hb dX12_isIn_7 (lv_at hl 2 rfl) ?_
    refine W.lcmp hx hb dX12_isIn_9 ?_
    refine lv_if_gt (tgt := 17) hx hb dX12_isIn_10 (by decide) (fun c2 => ?_) (fun c2 => ?_)
    · skip
      have c2 := (lg_cmp_gt _ _).mp c2
      have h := f_t c2 h
      refine lv_iconst (v := 0) hx hb dX12_isIn_17 (by decide) ?_
      obtain rfl := Option.some.inj h
      exact W.zret (v := (0 : Int32)) hx hb hr rfl (q_end hK hP hD hS) hS.2.2 dX12_isIn_18
    · skip
      have c2 := mt (lg_cmp_gt _ _).mpr c2
      have h := f_f c2 h
      refine lv_iconst (v := 1) hx hb dX12_isIn_13 (by decide) ?_
      refine lv_goto (tgt := 18) hx hb dX12_isIn_14 (by decide) ?_
      obtain rfl := Option.some.inj h
      exact W.zret (v := (1 : Int32)) hx hb hr rfl (q_end hK hP hD hS) hS.2.2 dX12_isIn_18
abbrev rm_X12_bytesIn : Room := { frames := 0, cells := 0, slots := 0, locals := 0 }
set_option maxRecDepth 100000 in
set_option maxHeartbeats 8000000 in
theorem W_X12_bytesIn_L5 {p : Program} {e : Env} {s : State} {m : MethodId} {args : Array Value} {below : List Frame} {meth : Method} {c : Code} {A : Nat → Prop} (l : Launch) (D : va_G) (G : hG) (w : va_W) (F : Nat) (x0 : Int32) (y0 : Int32) (res : Int32) (C0 : Cx p s m args meth c cX12_bytesIn (some .int) RX12 3 D G A) (hA : ∀ q : Nat, s.heap.size ≤ q → A q) : ∀ (n : Nat) (z1 : Int32) (z2 : Int32), f_X12_bytesIn_L5 y0 n z1 z2 = some res → ∀ (H : Heap) (locs : List Loc) (ls : Array Slot), va_P D vwCl w H → va_D A w → va_S A s.heap H locs → lv_has ls 3 [(0, .int y0), (1, .int z1), (2, .int z2)] → W p l e rm_X12_bytesIn s m args below meth c H locs 0 0 (MQ below (Qg (some (.int res)) D (tysG G) w A) args s 0 0 A) (F0 m 5 ls []) := by
  obtain ⟨hx, hb, hr, hml, hown, hts, hlocks, hK, hE⟩ := id C0
  intro n
  induction n with
  | zero =>
    intro z1 z2 h
    cases h
  | succ n ih =>
    intro z1 z2 h H locs ls hP hD hS hl
    rw [f_X12_bytesIn_L5] at h
    refine lv_iload_n hx hb dX12_bytesIn_5 rfl (lv_at hl 2 rfl) ?_
    refine lv_if_lt (tgt := 33) hx hb dX12_bytesIn_6 (by decide) (fun c1 => ?_) (fun c1 => ?_)
    · skip
      have h := f_t c1 h
      refine lv_iload_n hx hb dX12_bytesIn_33 rfl (lv_at hl 1 rfl) ?_
      obtain rfl := Option.some.inj h
      exact W.iret (v := z1) hx hb hr (q_end hK hP hD hS) hS.2.2 dX12_bytesIn_34
    · skip
      have h := f_f c1 h
      refine lv_iload_n hx hb dX12_bytesIn_9 rfl (lv_at hl 1 rfl) ?_
      refine lv_iload_n hx hb dX12_bytesIn_10 rfl (lv_at hl 0 rfl) ?_
      refine lv_iload_n hx hb dX12_bytesIn_11 rfl (lv_at hl 2 rfl) ?_
      refine lv_ishr hx hb dX12_bytesIn_12 ?_
      refine lv_sipush (v := 255) hx hb dX12_bytesIn_13 (by decide) ?_
      refine lv_iand hx hb dX12_bytesIn_16 ?_
      refine lv_if_eq (tgt := 24) hx hb dX12_bytesIn_17 (by decide) (fun c2 => ?_) (fun c2 => ?_)
      · skip
        have h := f_t c2 h
        refine lv_iconst (v := 0) hx hb dX12_bytesIn_24 (by decide) ?_
        refine lv_iadd hx hb dX12_bytesIn_25 ?_
        refine lv_istore_n (lv' := [(1, .int (z1 + (0 : Int32))), (0, .int y0), (2, .int z2)]) hx hb dX12_bytesIn_26 rfl hl (by decide) rfl (fun ls hl => ?_)
        refine lv_iinc (v := (z2 + (-8 : Int32))) (lv' := [(2, .int (z2 + (-8 : Int32))), (1, .int (z1 + (0 : Int32))), (0, .int y0)]) hx hb dX12_bytesIn_27 hl (k := 2) rfl rfl (by decide) rfl (fun ls hl => ?_)
        refine lv_goto (tgt := 5) hx hb dX12_bytesIn_30 (by decide) ?_
        exact ih (z1 + (0 : Int32)) (z2 + (-8 : Int32)) h _ _ _ hP hD hS (lv_sub hl [2, 1, 0] rfl)
      · skip
        have h := f_f c2 h
        refine lv_iconst (v := 1) hx hb dX12_bytesIn_20 (by decide) ?_
        refine lv_goto (tgt := 25) hx hb dX12_bytesIn_21 (by decide) ?_
        refine lv_iadd hx hb dX12_bytesIn_25 ?_
        refine lv_istore_n (lv' := [(1, .int (z1 + (1 : Int32))), (0, .int y0), (2, .int z2)]) hx hb dX12_bytesIn_26 rfl hl (by decide) rfl (fun ls hl => ?_)
        refine lv_iinc (v := (z2 + (-8 : Int32))) (lv' := [(2, .int (z2 + (-8 : Int32))), (1, .int (z1 + (1 : Int32))), (0, .int y0)]) hx hb dX12_bytesIn_27 hl (k := 2) rfl rfl (by decide) rfl (fun ls hl => ?_)
        refine lv_goto (tgt := 5) hx hb dX12_bytesIn_30 (by decide) ?_
        exact ih (z1 + (1 : Int32)) (z2 + (-8 : Int32)) h _ _ _ hP hD hS (lv_sub hl [2, 1, 0] rfl)
set_option maxRecDepth 100000 in
set_option maxHeartbeats 8000000 in
theorem c_X12_bytesIn (l : Launch) (D : va_G) (G : hG) (w : va_W) (F : Nat) (x0 : Int32) (res : Int32) (h : f_X12_bytesIn F x0 = some res) : CT l yX12_bytesIn cX12_bytesIn 3 (some .int) rm_X12_bytesIn D G 0 0 [.int x0] w w (some (.int res)) := by
  unfold f_X12_bytesIn at h
  refine CT.mk (cc := cX12_bytesIn) (maxL := 3) (ret := (some .int)) (own := RX12) (plainFor_of_name (by decide)) rfl (Nat.le_of_ble_eq_true rfl) ?_
  intro p e s m args below meth c A ls C0 hnm hA hP hD hl
  obtain ⟨hx, hb, hr, hml, hown, hts, hlocks, hK, hE⟩ := id C0
  have hS : va_S A s.heap s.heap [] := va_S.rf
  have hl : lv_has ls 3 [(0, .int x0)] := hl
  refine lv_iconst (v := 0) hx hb dX12_bytesIn_0 (by decide) ?_
  refine lv_istore_n (lv' := [(1, .int (0 : Int32)), (0, .int x0)]) hx hb dX12_bytesIn_1 rfl hl (by decide) rfl (fun ls hl => ?_)
  refine lv_bipush (v := 24) hx hb dX12_bytesIn_2 (by decide) ?_
  refine lv_istore_n (lv' := [(2, .int (24 : Int32)), (1, .int (0 : Int32)), (0, .int x0)]) hx hb dX12_bytesIn_4 rfl hl (by decide) rfl (fun ls hl => ?_)
  refine W_X12_bytesIn_L5 l D G w F x0 x0 res C0 hA F (0 : Int32) (24 : Int32) h _ _ _ hP hD hS (lv_sub hl [2, 1, 0] rfl)
abbrev rm_X12_put : Room := { frames := 0, cells := 0, slots := 0, locals := 0 }
set_option maxRecDepth 100000 in
set_option maxHeartbeats 8000000 in
theorem W_X12_put_L3 {p : Program} {e : Env} {s : State} {m : MethodId} {args : Array Value} {below : List Frame} {meth : Method} {c : Code} {A : Nat → Prop} (l : Launch) (D : va_G) (G : hG) (Z : hZ) (Y : va_W) (σ0 : hSt) (F : Nat) (x1 : Int32) (y1 : Int32) (res : (Unit × hSt)) (C0 : Cx p s m args meth c cX12_put none RX12 3 D G A) (hA : ∀ q : Nat, s.heap.size ≤ q → A q) : ∀ (n : Nat) (σ1 : hSt) (z2 : Int32), f_X12_put_L3 y1 n σ1 z2 = some res → ∀ (H : Heap) (locs : List Loc) (ls : Array Slot), va_P D vwCl (mW G Z Y σ1) H → va_D A (mW G Z Y σ1) → va_S A s.heap H locs → lv_has ls 3 [(0, .ref (G.2.1 200)), (1, .int y1), (2, .int z2)] → W p l e rm_X12_put s m args below meth c H locs 0 0 (MQ below (Qg none D (tysG G) (mW G Z Y res.2) A) args s 0 0 A) (F0 m 3 ls []) := by
  obtain ⟨hx, hb, hr, hml, hown, hts, hlocks, hK, hE⟩ := id C0
  intro n
  induction n with
  | zero =>
    intro σ1 z2 h
    cases h
  | succ n ih =>
    intro σ1 z2 h H locs ls hP hD hS hl
    rw [f_X12_put_L3] at h
    refine lv_iload_n hx hb dX12_put_3 rfl (lv_at hl 2 rfl) ?_
    refine lv_if_lt (tgt := 49) hx hb dX12_put_4 (by decide) (fun c1 => ?_) (fun c1 => ?_)
    · skip
      have h := f_t c1 h
      obtain rfl := Option.some.inj h
      exact W.vret hx hb hr (q_end hK hP hD hS) hS.2.2 dX12_put_49
    · skip
      have h := f_f c1 h
      refine lv_iload_n hx hb dX12_put_7 rfl (lv_at hl 1 rfl) ?_
      refine lv_iload_n hx hb dX12_put_8 rfl (lv_at hl 2 rfl) ?_
      refine lv_ishr hx hb dX12_put_9 ?_
      refine lv_sipush (v := 255) hx hb dX12_put_10 (by decide) ?_
      refine lv_iand hx hb dX12_put_13 ?_
      refine lv_if_ne (tgt := 20) hx hb dX12_put_14 (by decide) (fun c2 => ?_) (fun c2 => ?_)
      · skip
        have h := f_f c2 h
        refine lv_aload_n hx hb dX12_put_20 rfl (lv_at hl 0 rfl) ?_
        refine va_get (D := D) (ci := 12) (v := .ref (G.2.1 201)) (C := RX12) (T := TX12) (N := 59) hx hb hts inU_X12 hown hK hP _ (mg_200 G Z Y σ1) rfl 1 (by decide) (hts _ wd_1249) (fun _ h9 => h9) rfl dX12_put_21 ?_
        refine lv_aload_n hx hb dX12_put_24 rfl (lv_at hl 0 rfl) ?_
        refine va_get (D := D) (ci := 12) (v := .int (σ1.1 200 3)) (C := RX12) (T := TX12) (N := 59) hx hb hts inU_X12 hown hK hP _ (mg_200 G Z Y σ1) rfl 3 (by decide) (hts _ wd_1251) (fun _ h9 => h9) rfl dX12_put_25 ?_
        refine lv_iload_n hx hb dX12_put_28 rfl (lv_at hl 1 rfl) ?_
        refine lv_iload_n hx hb dX12_put_29 rfl (lv_at hl 2 rfl) ?_
        refine lv_ishr hx hb dX12_put_30 ?_
        refine lv_i2b (v := ((y1 >>> (z2 &&& 31)) : Int32).toInt8.toInt32) hx hb dX12_put_31 rfl ?_
        obtain ⟨c3, h⟩ := f_n h
        refine va_bast hx hb hK hP hD hS _ 2 (mg_201 G Z Y σ1) rfl c3 dX12_put_32 (fun H locs hP hD hS => ?_)
        have hP := wrP (mp_201 G Z Y σ1 _ _) hP
        have hD := wrD (mp_201 G Z Y σ1 _ _) hD
        refine lv_aload_n hx hb dX12_put_33 rfl (lv_at hl 0 rfl) ?_
        refine lv_dup hx hb dX12_put_34 rfl ?_
        refine va_get (D := D) (ci := 12) (v := .int (σ1.1 200 3)) (C := RX12) (T := TX12) (N := 59) hx hb hts inU_X12 hown hK hP _ (mg_200 G Z Y (sI σ1 201 (((σ1.1 200 3) : Int32).toNatClampNeg) (vp_nar .byte ((y1 >>> (z2 &&& 31)) : Int32).toInt8.toInt32))) rfl 3 (by decide) (hts _ wd_1251) (fun _ h9 => h9) rfl dX12_put_35 ?_
        refine lv_iconst (v := 1) hx hb dX12_put_38 (by decide) ?_
        refine lv_iadd hx hb dX12_put_39 ?_
        refine va_put (D := D) (ci := 12) (v := .int ((σ1.1 200 3) + (1 : Int32))) (ty := .int) (C := RX12) (T := TX12) (N := 59) hx hb hts inU_X12 tyX12 tyX12_ok nmX12 hown hK hP hD hS _ (mg_200 G Z Y (sI σ1 201 (((σ1.1 200 3) : Int32).toNatClampNeg) (vp_nar .byte ((y1 >>> (z2 &&& 31)) : Int32).toInt8.toInt32))) rfl 3 (by decide) (hts _ wd_1251) (fun _ h9 => h9) rfl (by decide +kernel) rfl rfl (Nat.le_of_ble_eq_true rfl) dX12_put_40 (fun H locs hP hD hS => ?_)
        have hP := wrP (mp_200_3 G Z Y (sI σ1 201 (((σ1.1 200 3) : Int32).toNatClampNeg) (vp_nar .byte ((y1 >>> (z2 &&& 31)) : Int32).toInt8.toInt32)) ((σ1.1 200 3) + (1 : Int32))) hP
        have hD := wrD (mp_200_3 G Z Y (sI σ1 201 (((σ1.1 200 3) : Int32).toNatClampNeg) (vp_nar .byte ((y1 >>> (z2 &&& 31)) : Int32).toInt8.toInt32)) ((σ1.1 200 3) + (1 : Int32))) hD
        refine lv_iinc (v := (z2 + (-8 : Int32))) (lv' := [(2, .int (z2 + (-8 : Int32))), (0, .ref (G.2.1 200)), (1, .int y1)]) hx hb dX12_put_43 hl (k := 2) rfl rfl (by decide) rfl (fun ls hl => ?_)
        refine lv_goto (tgt := 3) hx hb dX12_put_46 (by decide) ?_
        exact ih (sI (sI σ1 201 (((σ1.1 200 3) : Int32).toNatClampNeg) (vp_nar .byte ((y1 >>> (z2 &&& 31)) : Int32).toInt8.toInt32)) 200 3 ((σ1.1 200 3) + (1 : Int32))) (z2 + (-8 : Int32)) h _ _ _ hP hD hS (lv_sub hl [1, 2, 0] rfl)
      · skip
        have h := f_t c2 h
        refine lv_goto (tgt := 43) hx hb dX12_put_17 (by decide) ?_
        refine lv_iinc (v := (z2 + (-8 : Int32))) (lv' := [(2, .int (z2 + (-8 : Int32))), (0, .ref (G.2.1 200)), (1, .int y1)]) hx hb dX12_put_43 hl (k := 2) rfl rfl (by decide) rfl (fun ls hl => ?_)
        refine lv_goto (tgt := 3) hx hb dX12_put_46 (by decide) ?_
        exact ih σ1 (z2 + (-8 : Int32)) h _ _ _ hP hD hS (lv_sub hl [1, 2, 0] rfl)
set_option maxRecDepth 100000 in
set_option maxHeartbeats 8000000 in
theorem c_X12_put (l : Launch) (D : va_G) (G : hG) (Z : hZ) (Y : va_W) (σ0 : hSt) (F : Nat) (x1 : Int32) (res : (Unit × hSt)) (h : f_X12_put F Z σ0 x1 = some res) : CT l yX12_put cX12_put 3 none rm_X12_put D G 0 0 [.ref (G.2.1 200), .int x1] (mW G Z Y σ0) (mW G Z Y res.2) none := by
  unfold f_X12_put at h
  refine CT.mk (cc := cX12_put) (maxL := 3) (ret := none) (own := RX12) (plainFor_of_name (by decide)) rfl (Nat.le_of_ble_eq_true rfl) ?_
  intro p e s m args below meth c A ls C0 hnm hA hP hD hl
  obtain ⟨hx, hb, hr, hml, hown, hts, hlocks, hK, hE⟩ := id C0
  have hS : va_S A s.heap s.heap [] := va_S.rf
  have hl : lv_has ls 3 [(0, .ref (G.2.1 200)), (1, .int x1)] := hl
  refine lv_bipush (v := 24) hx hb dX12_put_0 (by decide) ?_
  refine lv_istore_n (lv' := [(2, .int (24 : Int32)), (0, .ref (G.2.1 200)), (1, .int x1)]) hx hb dX12_put_2 rfl hl (by decide) rfl (fun ls hl => ?_)
  refine W_X12_put_L3 l D G Z Y σ0 F x1 x1 res C0 hA F σ0 (24 : Int32) h _ _ _ hP hD hS (lv_sub hl [1, 2, 0] rfl)
abbrev rm_X12_feed : Room := { frames := 1, cells := 0, slots := 0, locals := 22 }
set_option maxRecDepth 100000 in
set_option maxHeartbeats 8000000 in
theorem c_X12_feed (l : Launch) (D : va_G) (G : hG) (Z : hZ) (Y : va_W) (σ0 : hSt) (F : Nat) (x1 : Int32) (x2 : Int32) (x3 : Int32) (x4 : Int32) (x5 : Int32) (res : (Int32 × hSt)) (h : f_X12_feed F Z σ0 x1 x2 x3 x4 x5 = some res) : CT l yX12_feed cX12_feed 6 (some .int) rm_X12_feed D G 0 0 [.ref (G.2.1 200), .int x1, .int x2, .int x3, .int x4, .int x5] (mW G Z Y σ0) (mW G Z Y res.2) (some (.int res.1)) := by
  unfold f_X12_feed at h
  refine CT.mk (cc := cX12_feed) (maxL := 6) (ret := (some .int)) (own := RX12) (plainFor_of_name (by decide)) rfl (Nat.le_of_ble_eq_true rfl) ?_
  intro p e s m args below meth c A ls C0 hnm hA hP hD hl
  obtain ⟨hx, hb, hr, hml, hown, hts, hlocks, hK, hE⟩ := id C0
  have hS : va_S A s.heap s.heap [] := va_S.rf
  have hl : lv_has ls 6 [(0, .ref (G.2.1 200)), (1, .int x1), (2, .int x2), (3, .int x3), (4, .int x4), (5, .int x5)] := hl
  refine lv_aload_n hx hb dX12_feed_0 rfl (lv_at hl 0 rfl) ?_
  refine lv_iconst (v := 0) hx hb dX12_feed_1 (by decide) ?_
  refine va_put (D := D) (ci := 12) (v := .int (0 : Int32)) (ty := .int) (C := RX12) (T := TX12) (N := 59) hx hb hts inU_X12 tyX12 tyX12_ok nmX12 hown hK hP hD hS _ (mg_200 G Z Y σ0) rfl 0 (by decide) (hts _ wd_1248) (fun _ h9 => h9) rfl (by decide +kernel) rfl rfl (Nat.le_of_ble_eq_true rfl) dX12_feed_2 (fun H locs hP hD hS => ?_)
  have hP := wrP (mp_200_0 G Z Y σ0 (0 : Int32)) hP
  have hD := wrD (mp_200_0 G Z Y σ0 (0 : Int32)) hD
  refine lv_aload_n hx hb dX12_feed_5 rfl (lv_at hl 0 rfl) ?_
  refine va_get (D := D) (ci := 12) (v := .int (σ0.1 200 3)) (C := RX12) (T := TX12) (N := 59) hx hb hts inU_X12 hown hK hP _ (mg_200 G Z Y (sI σ0 200 0 (0 : Int32))) rfl 3 (by decide) (hts _ wd_1251) (fun _ h9 => h9) rfl dX12_feed_6 ?_
  refine lv_iload_n hx hb dX12_feed_9 rfl (lv_at hl 1 rfl) ?_
  obtain ⟨q1, hq1, h⟩ := f_b h
  refine cl_S (w := (mW G Z Y (sI σ0 200 0 (0 : Int32)))) (w' := (mW G Z Y (sI σ0 200 0 (0 : Int32)))) (rv := some (.int q1)) (bytes := cX12_bytesIn) (maxL := 3) (ret := (some .int)) (As := [.int x1]) (rest := [.int (σ0.1 200 3)]) (stk := [.int q1, .int (σ0.1 200 3)]) ⟨hx, hb, hml, hown, hts⟩ hK hE hA hP hD hS (c_X12_bytesIn l D G (mW G Z Y (sI σ0 200 0 (0 : Int32))) F x1 q1 hq1) (mkS hts wd_1433 wd_1434 wd_11 wd_1435 rfl rfl hd_X12_bytesIn ⟨Nat.le_of_ble_eq_true rfl, Nat.le_of_ble_eq_true rfl⟩) rfl hl.1 rfl (Nat.le_of_ble_eq_true rfl) dX12_feed_10 ⟨Nat.zero_le _, Nat.zero_le _⟩ rfl (fun H locs hP hD hS => ?_)
  refine lv_iadd hx hb dX12_feed_13 ?_
  refine lv_iload_n hx hb dX12_feed_14 rfl (lv_at hl 2 rfl) ?_
  obtain ⟨q2, hq2, h⟩ := f_b h
  refine cl_S (w := (mW G Z Y (sI σ0 200 0 (0 : Int32)))) (w' := (mW G Z Y (sI σ0 200 0 (0 : Int32)))) (rv := some (.int q2)) (bytes := cX12_bytesIn) (maxL := 3) (ret := (some .int)) (As := [.int x2]) (rest := [.int ((σ0.1 200 3) + q1)]) (stk := [.int q2, .int ((σ0.1 200 3) + q1)]) ⟨hx, hb, hml, hown, hts⟩ hK hE hA hP hD hS (c_X12_bytesIn l D G (mW G Z Y (sI σ0 200 0 (0 : Int32))) F x2 q2 hq2) (mkS hts wd_1433 wd_1434 wd_11 wd_1435 rfl rfl hd_X12_bytesIn ⟨Nat.le_of_ble_eq_true rfl, Nat.le_of_ble_eq_true rfl⟩) rfl hl.1 rfl (Nat.le_of_ble_eq_true rfl) dX12_feed_15 ⟨Nat.zero_le _, Nat.zero_le _⟩ rfl (fun H locs hP hD hS => ?_)
  refine lv_iadd hx hb dX12_feed_18 ?_
  refine lv_iload_n hx hb dX12_feed_19 rfl (lv_at hl 3 rfl) ?_
  obtain ⟨q3, hq3, h⟩ := f_b h
  refine cl_S (w := (mW G Z Y (sI σ0 200 0 (0 : Int32)))) (w' := (mW G Z Y (sI σ0 200 0 (0 : Int32)))) (rv := some (.int q3)) (bytes := cX12_bytesIn) (maxL := 3) (ret := (some .int)) (As := [.int x3]) (rest := [.int (((σ0.1 200 3) + q1) + q2)]) (stk := [.int q3, .int (((σ0.1 200 3) + q1) + q2)]) ⟨hx, hb, hml, hown, hts⟩ hK hE hA hP hD hS (c_X12_bytesIn l D G (mW G Z Y (sI σ0 200 0 (0 : Int32))) F x3 q3 hq3) (mkS hts wd_1433 wd_1434 wd_11 wd_1435 rfl rfl hd_X12_bytesIn ⟨Nat.le_of_ble_eq_true rfl, Nat.le_of_ble_eq_true rfl⟩) rfl hl.1 rfl (Nat.le_of_ble_eq_true rfl) dX12_feed_20 ⟨Nat.zero_le _, Nat.zero_le _⟩ rfl (fun H locs hP hD hS => ?_)
  refine lv_iadd hx hb dX12_feed_23 ?_
  refine lv_iload hx hb dX12_feed_24 (lv_at hl 4 rfl) ?_
  obtain ⟨q4, hq4, h⟩ := f_b h
  refine cl_S (w := (mW G Z Y (sI σ0 200 0 (0 : Int32)))) (w' := (mW G Z Y (sI σ0 200 0 (0 : Int32)))) (rv := some (.int q4)) (bytes := cX12_bytesIn) (maxL := 3) (ret := (some .int)) (As := [.int x4]) (rest := [.int ((((σ0.1 200 3) + q1) + q2) + q3)]) (stk := [.int q4, .int ((((σ0.1 200 3) + q1) + q2) + q3)]) ⟨hx, hb, hml, hown, hts⟩ hK hE hA hP hD hS (c_X12_bytesIn l D G (mW G Z Y (sI σ0 200 0 (0 : Int32))) F x4 q4 hq4) (mkS hts wd_1433 wd_1434 wd_11 wd_1435 rfl rfl hd_X12_bytesIn ⟨Nat.le_of_ble_eq_true rfl, Nat.le_of_ble_eq_true rfl⟩) rfl hl.1 rfl (Nat.le_of_ble_eq_true rfl) dX12_feed_26 ⟨Nat.zero_le _, Nat.zero_le _⟩ rfl (fun H locs hP hD hS => ?_)
  refine lv_iadd hx hb dX12_feed_29 ?_
  refine lv_iload hx hb dX12_feed_30 (lv_at hl 5 rfl) ?_
  obtain ⟨q5, hq5, h⟩ := f_b h
  refine cl_S (w := (mW G Z Y (sI σ0 200 0 (0 : Int32)))) (w' := (mW G Z Y (sI σ0 200 0 (0 : Int32)))) (rv := some (.int q5)) (bytes := cX12_bytesIn) (maxL := 3) (ret := (some .int)) (As := [.int x5]) (rest := [.int (((((σ0.1 200 3) + q1) + q2) + q3) + q4)]) (stk := [.int q5, .int (((((σ0.1 200 3) + q1) + q2) + q3) + q4)]) ⟨hx, hb, hml, hown, hts⟩ hK hE hA hP hD hS (c_X12_bytesIn l D G (mW G Z Y (sI σ0 200 0 (0 : Int32))) F x5 q5 hq5) (mkS hts wd_1433 wd_1434 wd_11 wd_1435 rfl rfl hd_X12_bytesIn ⟨Nat.le_of_ble_eq_true rfl, Nat.le_of_ble_eq_true rfl⟩) rfl hl.1 rfl (Nat.le_of_ble_eq_true rfl) dX12_feed_32 ⟨Nat.zero_le _, Nat.zero_le _⟩ rfl (fun H locs hP hD hS => ?_)
  refine lv_iadd hx hb dX12_feed_35 ?_
  refine lv_sipush (v := 200) hx hb dX12_feed_36 (by decide) ?_
  refine lv_icmp_le (tgt := 44) hx hb dX12_feed_39 (by decide) (fun c6 => ?_) (fun c6 => ?_)
  · skip
    have h := f_t c6 h
    refine lv_aload_n hx hb dX12_feed_44 rfl (lv_at hl 0 rfl) ?_
    refine lv_iload_n hx hb dX12_feed_45 rfl (lv_at hl 1 rfl) ?_
    obtain ⟨q7, hq7, h⟩ := f_b h
    refine cl_V (w := (mW G Z Y (sI σ0 200 0 (0 : Int32)))) (w' := (mW G Z Y q7.2)) (rv := none) (bytes := cX12_put) (maxL := 3) (ret := none) (C := RX12) (As := [.int x1]) (rest := []) (stk := []) ⟨hx, hb, hml, hown, hts⟩ hK hE hA hP hD hS (c_X12_put l D G Z Y (sI σ0 200 0 (0 : Int32)) F x1 q7 hq7) (cwV 1 hts (gwV wd_1436 wd_1438 wp_46 wd_11 wd_1439) rfl rfl rfl hd_X12_put ⟨Nat.le_of_ble_eq_true rfl, Nat.le_of_ble_eq_true rfl⟩) (mg_200 G Z Y (sI σ0 200 0 (0 : Int32))) rfl rfl rfl hl.1 rfl (Nat.le_of_ble_eq_true rfl) dX12_feed_46 ⟨Nat.zero_le _, Nat.zero_le _⟩ rfl (fun H locs hP hD hS => ?_)
    refine lv_aload_n hx hb dX12_feed_49 rfl (lv_at hl 0 rfl) ?_
    refine lv_iload_n hx hb dX12_feed_50 rfl (lv_at hl 2 rfl) ?_
    obtain ⟨q8, hq8, h⟩ := f_b h
    refine cl_V (w := (mW G Z Y q7.2)) (w' := (mW G Z Y q8.2)) (rv := none) (bytes := cX12_put) (maxL := 3) (ret := none) (C := RX12) (As := [.int x2]) (rest := []) (stk := []) ⟨hx, hb, hml, hown, hts⟩ hK hE hA hP hD hS (c_X12_put l D G Z Y q7.2 F x2 q8 hq8) (cwV 1 hts (gwV wd_1436 wd_1438 wp_46 wd_11 wd_1439) rfl rfl rfl hd_X12_put ⟨Nat.le_of_ble_eq_true rfl, Nat.le_of_ble_eq_true rfl⟩) (mg_200 G Z Y q7.2) rfl rfl rfl hl.1 rfl (Nat.le_of_ble_eq_true rfl) dX12_feed_51 ⟨Nat.zero_le _, Nat.zero_le _⟩ rfl (fun H locs hP hD hS => ?_)
    refine lv_aload_n hx hb dX12_feed_54 rfl (lv_at hl 0 rfl) ?_
    refine lv_iload_n hx hb dX12_feed_55 rfl (lv_at hl 3 rfl) ?_
    obtain ⟨q9, hq9, h⟩ := f_b h
    refine cl_V (w := (mW G Z Y q8.2)) (w' := (mW G Z Y q9.2)) (rv := none) (bytes := cX12_put) (maxL := 3) (ret := none) (C := RX12) (As := [.int x3]) (rest := []) (stk := []) ⟨hx, hb, hml, hown, hts⟩ hK hE hA hP hD hS (c_X12_put l D G Z Y q8.2 F x3 q9 hq9) (cwV 1 hts (gwV wd_1436 wd_1438 wp_46 wd_11 wd_1439) rfl rfl rfl hd_X12_put ⟨Nat.le_of_ble_eq_true rfl, Nat.le_of_ble_eq_true rfl⟩) (mg_200 G Z Y q8.2) rfl rfl rfl hl.1 rfl (Nat.le_of_ble_eq_true rfl) dX12_feed_56 ⟨Nat.zero_le _, Nat.zero_le _⟩ rfl (fun H locs hP hD hS => ?_)
    refine lv_aload_n hx hb dX12_feed_59 rfl (lv_at hl 0 rfl) ?_
    refine lv_iload hx hb dX12_feed_60 (lv_at hl 4 rfl) ?_
    obtain ⟨q10, hq10, h⟩ := f_b h
    refine cl_V (w := (mW G Z Y q9.2)) (w' := (mW G Z Y q10.2)) (rv := none) (bytes := cX12_put) (maxL := 3) (ret := none) (C := RX12) (As := [.int x4]) (rest := []) (stk := []) ⟨hx, hb, hml, hown, hts⟩ hK hE hA hP hD hS (c_X12_put l D G Z Y q9.2 F x4 q10 hq10) (cwV 1 hts (gwV wd_1436 wd_1438 wp_46 wd_11 wd_1439) rfl rfl rfl hd_X12_put ⟨Nat.le_of_ble_eq_true rfl, Nat.le_of_ble_eq_true rfl⟩) (mg_200 G Z Y q9.2) rfl rfl rfl hl.1 rfl (Nat.le_of_ble_eq_true rfl) dX12_feed_62 ⟨Nat.zero_le _, Nat.zero_le _⟩ rfl (fun H locs hP hD hS => ?_)
    refine lv_aload_n hx hb dX12_feed_65 rfl (lv_at hl 0 rfl) ?_
    refine lv_iload hx hb dX12_feed_66 (lv_at hl 5 rfl) ?_
    obtain ⟨q11, hq11, h⟩ := f_b h
    refine cl_V (w := (mW G Z Y q10.2)) (w' := (mW G Z Y q11.2)) (rv := none) (bytes := cX12_put) (maxL := 3) (ret := none) (C := RX12) (As := [.int x5]) (rest := []) (stk := []) ⟨hx, hb, hml, hown, hts⟩ hK hE hA hP hD hS (c_X12_put l D G Z Y q10.2 F x5 q11 hq11) (cwV 1 hts (gwV wd_1436 wd_1438 wp_46 wd_11 wd_1439) rfl rfl rfl hd_X12_put ⟨Nat.le_of_ble_eq_true rfl, Nat.le_of_ble_eq_true rfl⟩) (mg_200 G Z Y q10.2) rfl rfl rfl hl.1 rfl (Nat.le_of_ble_eq_true rfl) dX12_feed_68 ⟨Nat.zero_le _, Nat.zero_le _⟩ rfl (fun H locs hP hD hS => ?_)
    refine lv_aload_n hx hb dX12_feed_71 rfl (lv_at hl 0 rfl) ?_
    refine va_get (D := D) (ci := 12) (v := .int (q11.2.1 200 3)) (C := RX12) (T := TX12) (N := 59) hx hb hts inU_X12 hown hK hP _ (mg_200 G Z Y q11.2) rfl 3 (by decide) (hts _ wd_1251) (fun _ h9 => h9) rfl dX12_feed_72 ?_
    obtain rfl := Option.some.inj h
    exact W.iret (v := (q11.2.1 200 3)) hx hb hr (q_end hK hP hD hS) hS.2.2 dX12_feed_75
  · skip
    have h := f_f c6 h
    refine lv_iconst (v := (-1)) hx hb dX12_feed_42 (by decide) ?_
    obtain rfl := Option.some.inj h
    exact W.iret (v := (-1 : Int32)) hx hb hr (q_end hK hP hD hS) hS.2.2 dX12_feed_43
abbrev rm_X12_end : Room := { frames := 0, cells := 0, slots := 0, locals := 0 }
set_option maxRecDepth 100000 in
set_option maxHeartbeats 8000000 in
theorem c_X12_end (l : Launch) (D : va_G) (G : hG) (Z : hZ) (Y : va_W) (σ0 : hSt) (x1 : Int32) (res : (Int32 × hSt)) (h : f_X12_end Z σ0 x1 = some res) : CT l yX12_end cX12_end 2 (some .boolean) rm_X12_end D G 0 0 [.ref (G.2.1 200), .int x1] (mW G Z Y σ0) (mW G Z Y res.2) (some (.int res.1)) := by
  unfold f_X12_end at h
  refine CT.mk (cc := cX12_end) (maxL := 2) (ret := (some .boolean)) (own := RX12) (plainFor_of_name (by decide)) rfl (Nat.le_of_ble_eq_true rfl) ?_
  intro p e s m args below meth c A ls C0 hnm hA hP hD hl
  obtain ⟨hx, hb, hr, hml, hown, hts, hlocks, hK, hE⟩ := id C0
  have hS : va_S A s.heap s.heap [] := va_S.rf
  have hl : lv_has ls 2 [(0, .ref (G.2.1 200)), (1, .int x1)] := hl
  refine lv_aload_n hx hb dX12_end_0 rfl (lv_at hl 0 rfl) ?_
  refine lv_iconst (v := 0) hx hb dX12_end_1 (by decide) ?_
  refine va_put (D := D) (ci := 12) (v := .int (0 : Int32)) (ty := .int) (C := RX12) (T := TX12) (N := 59) hx hb hts inU_X12 tyX12 tyX12_ok nmX12 hown hK hP hD hS _ (mg_200 G Z Y σ0) rfl 0 (by decide) (hts _ wd_1248) (fun _ h9 => h9) rfl (by decide +kernel) rfl rfl (Nat.le_of_ble_eq_true rfl) dX12_end_2 (fun H locs hP hD hS => ?_)
  have hP := wrP (mp_200_0 G Z Y σ0 (0 : Int32)) hP
  have hD := wrD (mp_200_0 G Z Y σ0 (0 : Int32)) hD
  refine lv_iload_n hx hb dX12_end_5 rfl (lv_at hl 1 rfl) ?_
  refine lv_if_lt (tgt := 17) hx hb dX12_end_6 (by decide) (fun c1 => ?_) (fun c1 => ?_)
  · skip
    have h := f_t c1 h
    refine lv_iconst (v := 0) hx hb dX12_end_17 (by decide) ?_
    obtain rfl := Option.some.inj h
    exact W.zret (v := (0 : Int32)) hx hb hr rfl (q_end hK hP hD hS) hS.2.2 dX12_end_18
  · skip
    have h := f_f c1 h
    refine lv_iload_n hx hb dX12_end_9 rfl (lv_at hl 1 rfl) ?_
    refine lv_aload_n hx hb dX12_end_10 rfl (lv_at hl 0 rfl) ?_
    refine va_get (D := D) (ci := 12) (v := .int (σ0.1 200 3)) (C := RX12) (T := TX12) (N := 59) hx hb hts inU_X12 hown hK hP _ (mg_200 G Z Y (sI σ0 200 0 (0 : Int32))) rfl 3 (by decide) (hts _ wd_1251) (fun _ h9 => h9) rfl dX12_end_11 ?_
    refine lv_icmp_le (tgt := 19) hx hb dX12_end_14 (by decide) (fun c2 => ?_) (fun c2 => ?_)
    · skip
      have h := f_t c2 h
      refine lv_aload_n hx hb dX12_end_19 rfl (lv_at hl 0 rfl) ?_
      refine lv_iload_n hx hb dX12_end_20 rfl (lv_at hl 1 rfl) ?_
      refine va_put (D := D) (ci := 12) (v := .int x1) (ty := .int) (C := RX12) (T := TX12) (N := 59) hx hb hts inU_X12 tyX12 tyX12_ok nmX12 hown hK hP hD hS _ (mg_200 G Z Y (sI σ0 200 0 (0 : Int32))) rfl 3 (by decide) (hts _ wd_1251) (fun _ h9 => h9) rfl (by decide +kernel) rfl rfl (Nat.le_of_ble_eq_true rfl) dX12_end_21 (fun H locs hP hD hS => ?_)
      have hP := wrP (mp_200_3 G Z Y (sI σ0 200 0 (0 : Int32)) x1) hP
      have hD := wrD (mp_200_3 G Z Y (sI σ0 200 0 (0 : Int32)) x1) hD
      refine lv_iconst (v := 1) hx hb dX12_end_24 (by decide) ?_
      obtain rfl := Option.some.inj h
      exact W.zret (v := (1 : Int32)) hx hb hr rfl (q_end hK hP hD hS) hS.2.2 dX12_end_25
    · skip
      have h := f_f c2 h
      refine lv_iconst (v := 0) hx hb dX12_end_17 (by decide) ?_
      obtain rfl := Option.some.inj h
      exact W.zret (v := (0 : Int32)) hx hb hr rfl (q_end hK hP hD hS) hS.2.2 dX12_end_18
abbrev rm_X12_begin : Room := { frames := 0, cells := 0, slots := 0, locals := 0 }
set_option maxRecDepth 100000 in
set_option maxHeartbeats 8000000 in
theorem c_X12_begin (l : Launch) (D : va_G) (G : hG) (Z : hZ) (Y : va_W) (σ0 : hSt) (r1 : Nat) (hr1 : isBy r1 = true) (x2 : Int32) (x3 : Int32) (x4 : Int32) (res : (Unit × hSt)) (h : f_X12_begin Z σ0 r1 x2 x3 x4 = some res) : CT l yX12_begin cX12_begin 5 none rm_X12_begin D G 0 0 [.ref (G.2.1 200), .ref (G.2.1 r1), .int x2, .int x3, .int x4] (mW G Z Y σ0) (mW G Z Y res.2) none := by
  unfold f_X12_begin at h
  refine CT.mk (cc := cX12_begin) (maxL := 5) (ret := none) (own := RX12) (plainFor_of_name (by decide)) rfl (Nat.le_of_ble_eq_true rfl) ?_
  intro p e s m args below meth c A ls C0 hnm hA hP hD hl
  obtain ⟨hx, hb, hr, hml, hown, hts, hlocks, hK, hE⟩ := id C0
  have hS : va_S A s.heap s.heap [] := va_S.rf
  have hl : lv_has ls 5 [(0, .ref (G.2.1 200)), (1, .ref (G.2.1 r1)), (2, .int x2), (3, .int x3), (4, .int x4)] := hl
  refine lv_aload_n hx hb dX12_begin_0 rfl (lv_at hl 0 rfl) ?_
  refine lv_aload_n hx hb dX12_begin_1 rfl (lv_at hl 1 rfl) ?_
  refine va_put (D := D) (ci := 12) (v := .ref (G.2.1 r1)) (ty := (.array .byte)) (C := RX12) (T := TX12) (N := 59) hx hb hts inU_X12 tyX12 tyX12_ok nmX12 hown hK hP hD hS _ (mg_200 G Z Y σ0) rfl 2 (by decide) (hts _ wd_1250) (fun _ h9 => h9) rfl (by decide +kernel) rfl rfl (Nat.le_of_ble_eq_true rfl) dX12_begin_2 (fun H locs hP hD hS => ?_)
  have hP := wrP (mp_200_2 G Z Y σ0 (some r1)) hP
  have hD := wrD (mp_200_2 G Z Y σ0 (some r1)) hD
  refine lv_aload_n hx hb dX12_begin_5 rfl (lv_at hl 0 rfl) ?_
  refine lv_iload_n hx hb dX12_begin_6 rfl (lv_at hl 2 rfl) ?_
  refine va_put (D := D) (ci := 12) (v := .int x2) (ty := .int) (C := RX12) (T := TX12) (N := 59) hx hb hts inU_X12 tyX12 tyX12_ok nmX12 hown hK hP hD hS _ (mg_200 G Z Y (sR σ0 200 2 (some r1))) rfl 4 (by decide) (hts _ wd_1252) (fun _ h9 => h9) rfl (by decide +kernel) rfl rfl (Nat.le_of_ble_eq_true rfl) dX12_begin_7 (fun H locs hP hD hS => ?_)
  have hP := wrP (mp_200_4 G Z Y (sR σ0 200 2 (some r1)) x2) hP
  have hD := wrD (mp_200_4 G Z Y (sR σ0 200 2 (some r1)) x2) hD
  refine lv_aload_n hx hb dX12_begin_10 rfl (lv_at hl 0 rfl) ?_
  refine lv_iload_n hx hb dX12_begin_11 rfl (lv_at hl 3 rfl) ?_
  refine va_put (D := D) (ci := 12) (v := .int x3) (ty := .int) (C := RX12) (T := TX12) (N := 59) hx hb hts inU_X12 tyX12 tyX12_ok nmX12 hown hK hP hD hS _ (mg_200 G Z Y (sI (sR σ0 200 2 (some r1)) 200 4 x2)) rfl 5 (by decide) (hts _ wd_1253) (fun _ h9 => h9) rfl (by decide +kernel) rfl rfl (Nat.le_of_ble_eq_true rfl) dX12_begin_12 (fun H locs hP hD hS => ?_)
  have hP := wrP (mp_200_5 G Z Y (sI (sR σ0 200 2 (some r1)) 200 4 x2) x3) hP
  have hD := wrD (mp_200_5 G Z Y (sI (sR σ0 200 2 (some r1)) 200 4 x2) x3) hD
  refine lv_aload_n hx hb dX12_begin_15 rfl (lv_at hl 0 rfl) ?_
  refine lv_iconst (v := 0) hx hb dX12_begin_16 (by decide) ?_
  refine va_put (D := D) (ci := 12) (v := .int (0 : Int32)) (ty := .int) (C := RX12) (T := TX12) (N := 59) hx hb hts inU_X12 tyX12 tyX12_ok nmX12 hown hK hP hD hS _ (mg_200 G Z Y (sI (sI (sR σ0 200 2 (some r1)) 200 4 x2) 200 5 x3)) rfl 6 (by decide) (hts _ wd_1254) (fun _ h9 => h9) rfl (by decide +kernel) rfl rfl (Nat.le_of_ble_eq_true rfl) dX12_begin_17 (fun H locs hP hD hS => ?_)
  have hP := wrP (mp_200_6 G Z Y (sI (sI (sR σ0 200 2 (some r1)) 200 4 x2) 200 5 x3) (0 : Int32)) hP
  have hD := wrD (mp_200_6 G Z Y (sI (sI (sR σ0 200 2 (some r1)) 200 4 x2) 200 5 x3) (0 : Int32)) hD
  refine lv_aload_n hx hb dX12_begin_20 rfl (lv_at hl 0 rfl) ?_
  refine lv_iconst (v := (-1)) hx hb dX12_begin_21 (by decide) ?_
  refine va_put (D := D) (ci := 12) (v := .int (-1 : Int32)) (ty := .int) (C := RX12) (T := TX12) (N := 59) hx hb hts inU_X12 tyX12 tyX12_ok nmX12 hown hK hP hD hS _ (mg_200 G Z Y (sI (sI (sI (sR σ0 200 2 (some r1)) 200 4 x2) 200 5 x3) 200 6 (0 : Int32))) rfl 7 (by decide) (hts _ wd_1255) (fun _ h9 => h9) rfl (by decide +kernel) rfl rfl (Nat.le_of_ble_eq_true rfl) dX12_begin_22 (fun H locs hP hD hS => ?_)
  have hP := wrP (mp_200_7 G Z Y (sI (sI (sI (sR σ0 200 2 (some r1)) 200 4 x2) 200 5 x3) 200 6 (0 : Int32)) (-1 : Int32)) hP
  have hD := wrD (mp_200_7 G Z Y (sI (sI (sI (sR σ0 200 2 (some r1)) 200 4 x2) 200 5 x3) 200 6 (0 : Int32)) (-1 : Int32)) hD
  refine lv_aload_n hx hb dX12_begin_25 rfl (lv_at hl 0 rfl) ?_
  refine lv_iconst (v := 0) hx hb dX12_begin_26 (by decide) ?_
  refine va_put (D := D) (ci := 12) (v := .int (0 : Int32)) (ty := .int) (C := RX12) (T := TX12) (N := 59) hx hb hts inU_X12 tyX12 tyX12_ok nmX12 hown hK hP hD hS _ (mg_200 G Z Y (sI (sI (sI (sI (sR σ0 200 2 (some r1)) 200 4 x2) 200 5 x3) 200 6 (0 : Int32)) 200 7 (-1 : Int32))) rfl 8 (by decide) (hts _ wd_1256) (fun _ h9 => h9) rfl (by decide +kernel) rfl rfl (Nat.le_of_ble_eq_true rfl) dX12_begin_27 (fun H locs hP hD hS => ?_)
  have hP := wrP (mp_200_8 G Z Y (sI (sI (sI (sI (sR σ0 200 2 (some r1)) 200 4 x2) 200 5 x3) 200 6 (0 : Int32)) 200 7 (-1 : Int32)) (0 : Int32)) hP
  have hD := wrD (mp_200_8 G Z Y (sI (sI (sI (sI (sR σ0 200 2 (some r1)) 200 4 x2) 200 5 x3) 200 6 (0 : Int32)) 200 7 (-1 : Int32)) (0 : Int32)) hD
  refine lv_aload_n hx hb dX12_begin_30 rfl (lv_at hl 0 rfl) ?_
  refine lv_iload hx hb dX12_begin_31 (lv_at hl 4 rfl) ?_
  refine va_put (D := D) (ci := 12) (v := .int x4) (ty := .int) (C := RX12) (T := TX12) (N := 59) hx hb hts inU_X12 tyX12 tyX12_ok nmX12 hown hK hP hD hS _ (mg_200 G Z Y (sI (sI (sI (sI (sI (sR σ0 200 2 (some r1)) 200 4 x2) 200 5 x3) 200 6 (0 : Int32)) 200 7 (-1 : Int32)) 200 8 (0 : Int32))) rfl 9 (by decide) (hts _ wd_1257) (fun _ h9 => h9) rfl (by decide +kernel) rfl rfl (Nat.le_of_ble_eq_true rfl) dX12_begin_33 (fun H locs hP hD hS => ?_)
  have hP := wrP (mp_200_9 G Z Y (sI (sI (sI (sI (sI (sR σ0 200 2 (some r1)) 200 4 x2) 200 5 x3) 200 6 (0 : Int32)) 200 7 (-1 : Int32)) 200 8 (0 : Int32)) x4) hP
  have hD := wrD (mp_200_9 G Z Y (sI (sI (sI (sI (sI (sR σ0 200 2 (some r1)) 200 4 x2) 200 5 x3) 200 6 (0 : Int32)) 200 7 (-1 : Int32)) 200 8 (0 : Int32)) x4) hD
  obtain rfl := Option.some.inj h
  exact W.vret hx hb hr (q_end hK hP hD hS) hS.2.2 dX12_begin_36
abbrev rm_X12_look : Room := { frames := 0, cells := 0, slots := 0, locals := 0 }
set_option maxRecDepth 100000 in
set_option maxHeartbeats 8000000 in
theorem W_X12_look_L0 {p : Program} {e : Env} {s : State} {m : MethodId} {args : Array Value} {below : List Frame} {meth : Method} {c : Code} {A : Nat → Prop} (l : Launch) (D : va_G) (G : hG) (Z : hZ) (Y : va_W) (σ0 : hSt) (F : Nat) (res : (Int32 × hSt)) (C0 : Cx p s m args meth c cX12_look (some .int) RX12 1 D G A) (hA : ∀ q : Nat, s.heap.size ≤ q → A q) (k43 : hSt → Option (Int32 × hSt)) (hk43 : ∀ (σ1 : hSt), k43 σ1 = some res → ∀ (H : Heap) (locs : List Loc) (ls : Array Slot), va_P D vwCl (mW G Z Y σ1) H → va_D A (mW G Z Y σ1) → va_S A s.heap H locs → lv_has ls 1 [(0, .ref (G.2.1 200))] → W p l e rm_X12_look s m args below meth c H locs 0 0 (MQ below (Qg (some (.int res.1)) D (tysG G) (mW G Z Y res.2) A) args s 0 0 A) (F0 m 43 ls [])) : ∀ (n : Nat) (σ1 : hSt), f_X12_look_L0 k43 n σ1 = some res → ∀ (H : Heap) (locs : List Loc) (ls : Array Slot), va_P D vwCl (mW G Z Y σ1) H → va_D A (mW G Z Y σ1) → va_S A s.heap H locs → lv_has ls 1 [(0, .ref (G.2.1 200))] → W p l e rm_X12_look s m args below meth c H locs 0 0 (MQ below (Qg (some (.int res.1)) D (tysG G) (mW G Z Y res.2) A) args s 0 0 A) (F0 m 0 ls []) := by
  obtain ⟨hx, hb, hr, hml, hown, hts, hlocks, hK, hE⟩ := id C0
  intro n
  induction n with
  | zero =>
    intro σ1 h
    cases h
  | succ n ih =>
    intro σ1 h H locs ls hP hD hS hl
    rw [f_X12_look_L0] at h
    refine lv_aload_n hx hb dX12_look_0 rfl (lv_at hl 0 rfl) ?_
    refine va_get (D := D) (ci := 12) (v := .int (σ1.1 200 6)) (C := RX12) (T := TX12) (N := 59) hx hb hts inU_X12 hown hK hP _ (mg_200 G Z Y σ1) rfl 6 (by decide) (hts _ wd_1254) (fun _ h9 => h9) rfl dX12_look_1 ?_
    refine lv_aload_n hx hb dX12_look_4 rfl (lv_at hl 0 rfl) ?_
    refine va_get (D := D) (ci := 12) (v := .int (σ1.1 200 5)) (C := RX12) (T := TX12) (N := 59) hx hb hts inU_X12 hown hK hP _ (mg_200 G Z Y σ1) rfl 5 (by decide) (hts _ wd_1253) (fun _ h9 => h9) rfl dX12_look_5 ?_
    refine lv_icmp_ge (tgt := 43) hx hb dX12_look_8 (by decide) (fun c1 => ?_) (fun c1 => ?_)
    · skip
      have h := f_t c1 h
      exact hk43 σ1 h _ _ _ hP hD hS hl
    · skip
      have h := f_f c1 h
      refine lv_aload_n hx hb dX12_look_11 rfl (lv_at hl 0 rfl) ?_
      refine va_get (D := D) (ci := 12) (v := va_rf (((σ1.2.2 200 2)).map G.2.1)) (C := RX12) (T := TX12) (N := 59) hx hb hts inU_X12 hown hK hP _ (mg_200 G Z Y σ1) rfl 2 (by decide) (hts _ wd_1250) (fun _ h9 => h9) rfl dX12_look_12 ?_
      rcases f_o h with ⟨ho, h⟩ | ⟨r2, ho, h⟩
      · rw [ho]
        refine lv_aload_n hx hb dX12_look_15 rfl (lv_at hl 0 rfl) ?_
        refine va_get (D := D) (ci := 12) (v := .int (σ1.1 200 4)) (C := RX12) (T := TX12) (N := 59) hx hb hts inU_X12 hown hK hP _ (mg_200 G Z Y σ1) rfl 4 (by decide) (hts _ wd_1252) (fun _ h9 => h9) rfl dX12_look_16 ?_
        refine lv_aload_n hx hb dX12_look_19 rfl (lv_at hl 0 rfl) ?_
        refine va_get (D := D) (ci := 12) (v := .int (σ1.1 200 6)) (C := RX12) (T := TX12) (N := 59) hx hb hts inU_X12 hown hK hP _ (mg_200 G Z Y σ1) rfl 6 (by decide) (hts _ wd_1254) (fun _ h9 => h9) rfl dX12_look_20 ?_
        refine lv_iadd hx hb dX12_look_23 ?_
        cases h
      · rw [ho]
        obtain ⟨hr2, h⟩ := f_c h
        refine lv_aload_n hx hb dX12_look_15 rfl (lv_at hl 0 rfl) ?_
        refine va_get (D := D) (ci := 12) (v := .int (σ1.1 200 4)) (C := RX12) (T := TX12) (N := 59) hx hb hts inU_X12 hown hK hP _ (mg_200 G Z Y σ1) rfl 4 (by decide) (hts _ wd_1252) (fun _ h9 => h9) rfl dX12_look_16 ?_
        refine lv_aload_n hx hb dX12_look_19 rfl (lv_at hl 0 rfl) ?_
        refine va_get (D := D) (ci := 12) (v := .int (σ1.1 200 6)) (C := RX12) (T := TX12) (N := 59) hx hb hts inU_X12 hown hK hP _ (mg_200 G Z Y σ1) rfl 6 (by decide) (hts _ wd_1254) (fun _ h9 => h9) rfl dX12_look_20 ?_
        refine lv_iadd hx hb dX12_look_23 ?_
        obtain ⟨c3, h⟩ := f_n h
        refine va_baldE (v := (σ1.1 r2 ((((σ1.1 200 4) + (σ1.1 200 6)) : Int32).toNatClampNeg))) hx hb hK hP _ 2 (mg_By G Z Y σ1 hr2) rfl c3 dX12_look_24 rfl ?_
        refine lv_bipush (v := 32) hx hb dX12_look_25 (by decide) ?_
        refine lv_icmp_ne (tgt := 43) hx hb dX12_look_27 (by decide) (fun c4 => ?_) (fun c4 => ?_)
        · skip
          have h := f_f c4 h
          exact hk43 σ1 h _ _ _ hP hD hS hl
        · skip
          have h := f_t c4 h
          refine lv_aload_n hx hb dX12_look_30 rfl (lv_at hl 0 rfl) ?_
          refine lv_dup hx hb dX12_look_31 rfl ?_
          refine va_get (D := D) (ci := 12) (v := .int (σ1.1 200 6)) (C := RX12) (T := TX12) (N := 59) hx hb hts inU_X12 hown hK hP _ (mg_200 G Z Y σ1) rfl 6 (by decide) (hts _ wd_1254) (fun _ h9 => h9) rfl dX12_look_32 ?_
          refine lv_iconst (v := 1) hx hb dX12_look_35 (by decide) ?_
          refine lv_iadd hx hb dX12_look_36 ?_
          refine va_put (D := D) (ci := 12) (v := .int ((σ1.1 200 6) + (1 : Int32))) (ty := .int) (C := RX12) (T := TX12) (N := 59) hx hb hts inU_X12 tyX12 tyX12_ok nmX12 hown hK hP hD hS _ (mg_200 G Z Y σ1) rfl 6 (by decide) (hts _ wd_1254) (fun _ h9 => h9) rfl (by decide +kernel) rfl rfl (Nat.le_of_ble_eq_true rfl) dX12_look_37 (fun H locs hP hD hS => ?_)
          have hP := wrP (mp_200_6 G Z Y σ1 ((σ1.1 200 6) + (1 : Int32))) hP
          have hD := wrD (mp_200_6 G Z Y σ1 ((σ1.1 200 6) + (1 : Int32))) hD
          refine lv_goto (tgt := 0) hx hb dX12_look_40 (by decide) ?_
          exact ih (sI σ1 200 6 ((σ1.1 200 6) + (1 : Int32))) h _ _ _ hP hD hS hl
set_option maxRecDepth 100000 in
set_option maxHeartbeats 8000000 in
theorem c_X12_look (l : Launch) (D : va_G) (G : hG) (Z : hZ) (Y : va_W) (σ0 : hSt) (F : Nat) (res : (Int32 × hSt)) (h : f_X12_look F Z σ0 = some res) : CT l yX12_look cX12_look 1 (some .int) rm_X12_look D G 0 0 [.ref (G.2.1 200)] (mW G Z Y σ0) (mW G Z Y res.2) (some (.int res.1)) := by
  unfold f_X12_look at h
  refine CT.mk (cc := cX12_look) (maxL := 1) (ret := (some .int)) (own := RX12) (plainFor_of_name (by decide)) rfl (Nat.le_of_ble_eq_true rfl) ?_
  intro p e s m args below meth c A ls C0 hnm hA hP hD hl
  obtain ⟨hx, hb, hr, hml, hown, hts, hlocks, hK, hE⟩ := id C0
  have hS : va_S A s.heap s.heap [] := va_S.rf
  have hl : lv_has ls 1 [(0, .ref (G.2.1 200))] := hl
  refine W_X12_look_L0 l D G Z Y σ0 F res C0 hA _ ?_ F σ0 h _ _ _ hP hD hS hl
  · intro σ1 h H locs ls hP hD hS hl
    refine lv_aload_n hx hb dX12_look_43 rfl (lv_at hl 0 rfl) ?_
    refine va_get (D := D) (ci := 12) (v := .int (σ1.1 200 6)) (C := RX12) (T := TX12) (N := 59) hx hb hts inU_X12 hown hK hP _ (mg_200 G Z Y σ1) rfl 6 (by decide) (hts _ wd_1254) (fun _ h9 => h9) rfl dX12_look_44 ?_
    refine lv_aload_n hx hb dX12_look_47 rfl (lv_at hl 0 rfl) ?_
    refine va_get (D := D) (ci := 12) (v := .int (σ1.1 200 5)) (C := RX12) (T := TX12) (N := 59) hx hb hts inU_X12 hown hK hP _ (mg_200 G Z Y σ1) rfl 5 (by decide) (hts _ wd_1253) (fun _ h9 => h9) rfl dX12_look_48 ?_
    refine lv_icmp_ge (tgt := 75) hx hb dX12_look_51 (by decide) (fun c5 => ?_) (fun c5 => ?_)
    · skip
      have h := f_t c5 h
      refine lv_iconst (v := (-1)) hx hb dX12_look_75 (by decide) ?_
      obtain rfl := Option.some.inj h
      exact W.iret (v := (-1 : Int32)) hx hb hr (q_end hK hP hD hS) hS.2.2 dX12_look_76
    · skip
      have h := f_f c5 h
      refine lv_aload_n hx hb dX12_look_54 rfl (lv_at hl 0 rfl) ?_
      refine va_get (D := D) (ci := 12) (v := va_rf (((σ1.2.2 200 2)).map G.2.1)) (C := RX12) (T := TX12) (N := 59) hx hb hts inU_X12 hown hK hP _ (mg_200 G Z Y σ1) rfl 2 (by decide) (hts _ wd_1250) (fun _ h9 => h9) rfl dX12_look_55 ?_
      rcases f_o h with ⟨ho, h⟩ | ⟨r6, ho, h⟩
      · rw [ho]
        refine lv_aload_n hx hb dX12_look_58 rfl (lv_at hl 0 rfl) ?_
        refine va_get (D := D) (ci := 12) (v := .int (σ1.1 200 4)) (C := RX12) (T := TX12) (N := 59) hx hb hts inU_X12 hown hK hP _ (mg_200 G Z Y σ1) rfl 4 (by decide) (hts _ wd_1252) (fun _ h9 => h9) rfl dX12_look_59 ?_
        refine lv_aload_n hx hb dX12_look_62 rfl (lv_at hl 0 rfl) ?_
        refine va_get (D := D) (ci := 12) (v := .int (σ1.1 200 6)) (C := RX12) (T := TX12) (N := 59) hx hb hts inU_X12 hown hK hP _ (mg_200 G Z Y σ1) rfl 6 (by decide) (hts _ wd_1254) (fun _ h9 => h9) rfl dX12_look_63 ?_
        refine lv_iadd hx hb dX12_look_66 ?_
        cases h
      · rw [ho]
        obtain ⟨hr6, h⟩ := f_c h
        refine lv_aload_n hx hb dX12_look_58 rfl (lv_at hl 0 rfl) ?_
        refine va_get (D := D) (ci := 12) (v := .int (σ1.1 200 4)) (C := RX12) (T := TX12) (N := 59) hx hb hts inU_X12 hown hK hP _ (mg_200 G Z Y σ1) rfl 4 (by decide) (hts _ wd_1252) (fun _ h9 => h9) rfl dX12_look_59 ?_
        refine lv_aload_n hx hb dX12_look_62 rfl (lv_at hl 0 rfl) ?_
        refine va_get (D := D) (ci := 12) (v := .int (σ1.1 200 6)) (C := RX12) (T := TX12) (N := 59) hx hb hts inU_X12 hown hK hP _ (mg_200 G Z Y σ1) rfl 6 (by decide) (hts _ wd_1254) (fun _ h9 => h9) rfl dX12_look_63 ?_
        refine lv_iadd hx hb dX12_look_66 ?_
        obtain ⟨c7, h⟩ := f_n h
        refine va_baldE (v := (σ1.1 r6 ((((σ1.1 200 4) + (σ1.1 200 6)) : Int32).toNatClampNeg))) hx hb hK hP _ 2 (mg_By G Z Y σ1 hr6) rfl c7 dX12_look_67 rfl ?_
        refine lv_sipush (v := 255) hx hb dX12_look_68 (by decide) ?_
        refine lv_iand hx hb dX12_look_71 ?_
        refine lv_goto (tgt := 76) hx hb dX12_look_72 (by decide) ?_
        obtain rfl := Option.some.inj h
        exact W.iret (v := ((σ1.1 r6 ((((σ1.1 200 4) + (σ1.1 200 6)) : Int32).toNatClampNeg)) &&& (255 : Int32))) hx hb hr (q_end hK hP hD hS) hS.2.2 dX12_look_76
abbrev rm_X12_fails : Room := { frames := 0, cells := 0, slots := 0, locals := 0 }
set_option maxRecDepth 100000 in
set_option maxHeartbeats 8000000 in
theorem c_X12_fails (l : Launch) (D : va_G) (G : hG) (Z : hZ) (Y : va_W) (σ0 : hSt) (res : (Int32 × hSt)) (h : f_X12_fails Z σ0 = some res) : CT l yX12_fails cX12_fails 1 (some .boolean) rm_X12_fails D G 0 0 [.ref (G.2.1 200)] (mW G Z Y σ0) (mW G Z Y res.2) (some (.int res.1)) := by
  unfold f_X12_fails at h
  refine CT.mk (cc := cX12_fails) (maxL := 1) (ret := (some .boolean)) (own := RX12) (plainFor_of_name (by decide)) rfl (Nat.le_of_ble_eq_true rfl) ?_
  intro p e s m args below meth c A ls C0 hnm hA hP hD hl
  obtain ⟨hx, hb, hr, hml, hown, hts, hlocks, hK, hE⟩ := id C0
  have hS : va_S A s.heap s.heap [] := va_S.rf
  have hl : lv_has ls 1 [(0, .ref (G.2.1 200))] := hl
  refine lv_aload_n hx hb dX12_fails_0 rfl (lv_at hl 0 rfl) ?_
  refine va_get (D := D) (ci := 12) (v := .int (σ0.1 200 7)) (C := RX12) (T := TX12) (N := 59) hx hb hts inU_X12 hown hK hP _ (mg_200 G Z Y σ0) rfl 7 (by decide) (hts _ wd_1255) (fun _ h9 => h9) rfl dX12_fails_1 ?_
  refine lv_iconst (v := (-1)) hx hb dX12_fails_4 (by decide) ?_
  refine lv_icmp_ne (tgt := 16) hx hb dX12_fails_5 (by decide) (fun c1 => ?_) (fun c1 => ?_)
  · skip
    have h := f_f c1 h
    refine lv_iconst (v := 0) hx hb dX12_fails_16 (by decide) ?_
    obtain rfl := Option.some.inj h
    exact W.zret (v := (0 : Int32)) hx hb hr rfl (q_end hK hP hD hS) hS.2.2 dX12_fails_17
  · skip
    have h := f_t c1 h
    refine lv_aload_n hx hb dX12_fails_8 rfl (lv_at hl 0 rfl) ?_
    refine lv_aload_n hx hb dX12_fails_9 rfl (lv_at hl 0 rfl) ?_
    refine va_get (D := D) (ci := 12) (v := .int (σ0.1 200 6)) (C := RX12) (T := TX12) (N := 59) hx hb hts inU_X12 hown hK hP _ (mg_200 G Z Y σ0) rfl 6 (by decide) (hts _ wd_1254) (fun _ h9 => h9) rfl dX12_fails_10 ?_
    refine va_put (D := D) (ci := 12) (v := .int (σ0.1 200 6)) (ty := .int) (C := RX12) (T := TX12) (N := 59) hx hb hts inU_X12 tyX12 tyX12_ok nmX12 hown hK hP hD hS _ (mg_200 G Z Y σ0) rfl 7 (by decide) (hts _ wd_1255) (fun _ h9 => h9) rfl (by decide +kernel) rfl rfl (Nat.le_of_ble_eq_true rfl) dX12_fails_13 (fun H locs hP hD hS => ?_)
    have hP := wrP (mp_200_7 G Z Y σ0 (σ0.1 200 6)) hP
    have hD := wrD (mp_200_7 G Z Y σ0 (σ0.1 200 6)) hD
    refine lv_iconst (v := 0) hx hb dX12_fails_16 (by decide) ?_
    obtain rfl := Option.some.inj h
    exact W.zret (v := (0 : Int32)) hx hb hr rfl (q_end hK hP hD hS) hS.2.2 dX12_fails_17
abbrev rm_X12_goesIn : Room := { frames := 1, cells := 0, slots := 0, locals := 20 }
set_option maxRecDepth 100000 in
set_option maxHeartbeats 8000000 in
theorem c_X12_goesIn (l : Launch) (D : va_G) (G : hG) (Z : hZ) (Y : va_W) (σ0 : hSt) (res : (Int32 × hSt)) (h : f_X12_goesIn Z σ0 = some res) : CT l yX12_goesIn cX12_goesIn 1 (some .boolean) rm_X12_goesIn D G 0 0 [.ref (G.2.1 200)] (mW G Z Y σ0) (mW G Z Y res.2) (some (.int res.1)) := by
  unfold f_X12_goesIn at h
  refine CT.mk (cc := cX12_goesIn) (maxL := 1) (ret := (some .boolean)) (own := RX12) (plainFor_of_name (by decide)) rfl (Nat.le_of_ble_eq_true rfl) ?_
  intro p e s m args below meth c A ls C0 hnm hA hP hD hl
  obtain ⟨hx, hb, hr, hml, hown, hts, hlocks, hK, hE⟩ := id C0
  have hS : va_S A s.heap s.heap [] := va_S.rf
  have hl : lv_has ls 1 [(0, .ref (G.2.1 200))] := hl
  refine lv_aload_n hx hb dX12_goesIn_0 rfl (lv_at hl 0 rfl) ?_
  refine va_get (D := D) (ci := 12) (v := .int (σ0.1 200 8)) (C := RX12) (T := TX12) (N := 59) hx hb hts inU_X12 hown hK hP _ (mg_200 G Z Y σ0) rfl 8 (by decide) (hts _ wd_1256) (fun _ h9 => h9) rfl dX12_goesIn_1 ?_
  refine lv_aload_n hx hb dX12_goesIn_4 rfl (lv_at hl 0 rfl) ?_
  refine va_get (D := D) (ci := 12) (v := .int (σ0.1 200 9)) (C := RX12) (T := TX12) (N := 59) hx hb hts inU_X12 hown hK hP _ (mg_200 G Z Y σ0) rfl 9 (by decide) (hts _ wd_1257) (fun _ h9 => h9) rfl dX12_goesIn_5 ?_
  refine lv_icmp_ne (tgt := 16) hx hb dX12_goesIn_8 (by decide) (fun c1 => ?_) (fun c1 => ?_)
  · skip
    have h := f_f c1 h
    refine lv_aload_n hx hb dX12_goesIn_16 rfl (lv_at hl 0 rfl) ?_
    refine lv_dup hx hb dX12_goesIn_17 rfl ?_
    refine va_get (D := D) (ci := 12) (v := .int (σ0.1 200 8)) (C := RX12) (T := TX12) (N := 59) hx hb hts inU_X12 hown hK hP _ (mg_200 G Z Y σ0) rfl 8 (by decide) (hts _ wd_1256) (fun _ h9 => h9) rfl dX12_goesIn_18 ?_
    refine lv_iconst (v := 1) hx hb dX12_goesIn_21 (by decide) ?_
    refine lv_iadd hx hb dX12_goesIn_22 ?_
    refine va_put (D := D) (ci := 12) (v := .int ((σ0.1 200 8) + (1 : Int32))) (ty := .int) (C := RX12) (T := TX12) (N := 59) hx hb hts inU_X12 tyX12 tyX12_ok nmX12 hown hK hP hD hS _ (mg_200 G Z Y σ0) rfl 8 (by decide) (hts _ wd_1256) (fun _ h9 => h9) rfl (by decide +kernel) rfl rfl (Nat.le_of_ble_eq_true rfl) dX12_goesIn_23 (fun H locs hP hD hS => ?_)
    have hP := wrP (mp_200_8 G Z Y σ0 ((σ0.1 200 8) + (1 : Int32))) hP
    have hD := wrD (mp_200_8 G Z Y σ0 ((σ0.1 200 8) + (1 : Int32))) hD
    refine lv_aload_n hx hb dX12_goesIn_26 rfl (lv_at hl 0 rfl) ?_
    refine lv_dup hx hb dX12_goesIn_27 rfl ?_
    refine va_get (D := D) (ci := 12) (v := .int (σ0.1 200 6)) (C := RX12) (T := TX12) (N := 59) hx hb hts inU_X12 hown hK hP _ (mg_200 G Z Y (sI σ0 200 8 ((σ0.1 200 8) + (1 : Int32)))) rfl 6 (by decide) (hts _ wd_1254) (fun _ h9 => h9) rfl dX12_goesIn_28 ?_
    refine lv_iconst (v := 1) hx hb dX12_goesIn_31 (by decide) ?_
    refine lv_iadd hx hb dX12_goesIn_32 ?_
    refine va_put (D := D) (ci := 12) (v := .int ((σ0.1 200 6) + (1 : Int32))) (ty := .int) (C := RX12) (T := TX12) (N := 59) hx hb hts inU_X12 tyX12 tyX12_ok nmX12 hown hK hP hD hS _ (mg_200 G Z Y (sI σ0 200 8 ((σ0.1 200 8) + (1 : Int32)))) rfl 6 (by decide) (hts _ wd_1254) (fun _ h9 => h9) rfl (by decide +kernel) rfl rfl (Nat.le_of_ble_eq_true rfl) dX12_goesIn_33 (fun H locs hP hD hS => ?_)
    have hP := wrP (mp_200_6 G Z Y (sI σ0 200 8 ((σ0.1 200 8) + (1 : Int32))) ((σ0.1 200 6) + (1 : Int32))) hP
    have hD := wrD (mp_200_6 G Z Y (sI σ0 200 8 ((σ0.1 200 8) + (1 : Int32))) ((σ0.1 200 6) + (1 : Int32))) hD
    refine lv_iconst (v := 1) hx hb dX12_goesIn_36 (by decide) ?_
    obtain rfl := Option.some.inj h
    exact W.zret (v := (1 : Int32)) hx hb hr rfl (q_end hK hP hD hS) hS.2.2 dX12_goesIn_37
  · skip
    have h := f_t c1 h
    refine lv_aload_n hx hb dX12_goesIn_11 rfl (lv_at hl 0 rfl) ?_
    obtain ⟨q2, hq2, h⟩ := f_b h
    refine cl_V (w := (mW G Z Y σ0)) (w' := (mW G Z Y q2.2)) (rv := some (.int q2.1)) (bytes := cX12_fails) (maxL := 1) (ret := (some .boolean)) (C := RX12) (As := []) (rest := []) (stk := [.int q2.1]) ⟨hx, hb, hml, hown, hts⟩ hK hE hA hP hD hS (c_X12_fails l D G Z Y σ0 q2 hq2) (cwV 0 hts (gwV wd_1477 wd_1479 wp_54 wd_11 wd_1480) rfl rfl rfl hd_X12_fails ⟨Nat.le_of_ble_eq_true rfl, Nat.le_of_ble_eq_true rfl⟩) (mg_200 G Z Y σ0) rfl rfl rfl hl.1 rfl (Nat.le_of_ble_eq_true rfl) dX12_goesIn_12 ⟨Nat.zero_le _, Nat.zero_le _⟩ rfl (fun H locs hP hD hS => ?_)
    obtain ⟨c3, h⟩ := f_c h
    obtain rfl := Option.some.inj h
    exact W.zret (v := q2.1) hx hb hr (bn c3) (q_end hK hP hD hS) hS.2.2 dX12_goesIn_15
abbrev rm_X12_takes : Room := { frames := 1, cells := 0, slots := 0, locals := 20 }
set_option maxRecDepth 100000 in
set_option maxHeartbeats 8000000 in
theorem c_X12_takes (l : Launch) (D : va_G) (G : hG) (Z : hZ) (Y : va_W) (σ0 : hSt) (F : Nat) (x1 : Int32) (res : (Int32 × hSt)) (h : f_X12_takes F Z σ0 x1 = some res) : CT l yX12_takes cX12_takes 2 (some .boolean) rm_X12_takes D G 0 0 [.ref (G.2.1 200), .int x1] (mW G Z Y σ0) (mW G Z Y res.2) (some (.int res.1)) := by
  unfold f_X12_takes at h
  refine CT.mk (cc := cX12_takes) (maxL := 2) (ret := (some .boolean)) (own := RX12) (plainFor_of_name (by decide)) rfl (Nat.le_of_ble_eq_true rfl) ?_
  intro p e s m args below meth c A ls C0 hnm hA hP hD hl
  obtain ⟨hx, hb, hr, hml, hown, hts, hlocks, hK, hE⟩ := id C0
  have hS : va_S A s.heap s.heap [] := va_S.rf
  have hl : lv_has ls 2 [(0, .ref (G.2.1 200)), (1, .int x1)] := hl
  refine lv_aload_n hx hb dX12_takes_0 rfl (lv_at hl 0 rfl) ?_
  refine va_get (D := D) (ci := 12) (v := .int (σ0.1 200 7)) (C := RX12) (T := TX12) (N := 59) hx hb hts inU_X12 hown hK hP _ (mg_200 G Z Y σ0) rfl 7 (by decide) (hts _ wd_1255) (fun _ h9 => h9) rfl dX12_takes_1 ?_
  refine lv_iconst (v := (-1)) hx hb dX12_takes_4 (by decide) ?_
  refine lv_icmp_ne (tgt := 16) hx hb dX12_takes_5 (by decide) (fun c1 => ?_) (fun c1 => ?_)
  · skip
    have h := f_f c1 h
    refine lv_aload_n hx hb dX12_takes_16 rfl (lv_at hl 0 rfl) ?_
    obtain ⟨q2, hq2, h⟩ := f_b h
    refine cl_V (w := (mW G Z Y σ0)) (w' := (mW G Z Y q2.2)) (rv := some (.int q2.1)) (bytes := cX12_fails) (maxL := 1) (ret := (some .boolean)) (C := RX12) (As := []) (rest := []) (stk := [.int q2.1]) ⟨hx, hb, hml, hown, hts⟩ hK hE hA hP hD hS (c_X12_fails l D G Z Y σ0 q2 hq2) (cwV 0 hts (gwV wd_1477 wd_1479 wp_54 wd_11 wd_1480) rfl rfl rfl hd_X12_fails ⟨Nat.le_of_ble_eq_true rfl, Nat.le_of_ble_eq_true rfl⟩) (mg_200 G Z Y σ0) rfl rfl rfl hl.1 rfl (Nat.le_of_ble_eq_true rfl) dX12_takes_17 ⟨Nat.zero_le _, Nat.zero_le _⟩ rfl (fun H locs hP hD hS => ?_)
    obtain ⟨c3, h⟩ := f_c h
    obtain rfl := Option.some.inj h
    exact W.zret (v := q2.1) hx hb hr (bn c3) (q_end hK hP hD hS) hS.2.2 dX12_takes_20
  · skip
    have h := f_t c1 h
    refine lv_aload_n hx hb dX12_takes_8 rfl (lv_at hl 0 rfl) ?_
    obtain ⟨q4, hq4, h⟩ := f_b h
    refine cl_V (w := (mW G Z Y σ0)) (w' := (mW G Z Y q4.2)) (rv := some (.int q4.1)) (bytes := cX12_look) (maxL := 1) (ret := (some .int)) (C := RX12) (As := []) (rest := []) (stk := [.int q4.1]) ⟨hx, hb, hml, hown, hts⟩ hK hE hA hP hD hS (c_X12_look l D G Z Y σ0 F q4 hq4) (cwV 0 hts (gwV wd_1468 wd_1470 wp_52 wd_11 wd_1471) rfl rfl rfl hd_X12_look ⟨Nat.le_of_ble_eq_true rfl, Nat.le_of_ble_eq_true rfl⟩) (mg_200 G Z Y σ0) rfl rfl rfl hl.1 rfl (Nat.le_of_ble_eq_true rfl) dX12_takes_9 ⟨Nat.zero_le _, Nat.zero_le _⟩ rfl (fun H locs hP hD hS => ?_)
    refine lv_iload_n hx hb dX12_takes_12 rfl (lv_at hl 1 rfl) ?_
    refine lv_icmp_eq (tgt := 21) hx hb dX12_takes_13 (by decide) (fun c5 => ?_) (fun c5 => ?_)
    · skip
      have h := f_t c5 h
      refine lv_aload_n hx hb dX12_takes_21 rfl (lv_at hl 0 rfl) ?_
      refine lv_dup hx hb dX12_takes_22 rfl ?_
      refine va_get (D := D) (ci := 12) (v := .int (q4.2.1 200 6)) (C := RX12) (T := TX12) (N := 59) hx hb hts inU_X12 hown hK hP _ (mg_200 G Z Y q4.2) rfl 6 (by decide) (hts _ wd_1254) (fun _ h9 => h9) rfl dX12_takes_23 ?_
      refine lv_iconst (v := 1) hx hb dX12_takes_26 (by decide) ?_
      refine lv_iadd hx hb dX12_takes_27 ?_
      refine va_put (D := D) (ci := 12) (v := .int ((q4.2.1 200 6) + (1 : Int32))) (ty := .int) (C := RX12) (T := TX12) (N := 59) hx hb hts inU_X12 tyX12 tyX12_ok nmX12 hown hK hP hD hS _ (mg_200 G Z Y q4.2) rfl 6 (by decide) (hts _ wd_1254) (fun _ h9 => h9) rfl (by decide +kernel) rfl rfl (Nat.le_of_ble_eq_true rfl) dX12_takes_28 (fun H locs hP hD hS => ?_)
      have hP := wrP (mp_200_6 G Z Y q4.2 ((q4.2.1 200 6) + (1 : Int32))) hP
      have hD := wrD (mp_200_6 G Z Y q4.2 ((q4.2.1 200 6) + (1 : Int32))) hD
      refine lv_iconst (v := 1) hx hb dX12_takes_31 (by decide) ?_
      obtain rfl := Option.some.inj h
      exact W.zret (v := (1 : Int32)) hx hb hr rfl (q_end hK hP hD hS) hS.2.2 dX12_takes_32
    · skip
      have h := f_f c5 h
      refine lv_aload_n hx hb dX12_takes_16 rfl (lv_at hl 0 rfl) ?_
      obtain ⟨q6, hq6, h⟩ := f_b h
      refine cl_V (w := (mW G Z Y q4.2)) (w' := (mW G Z Y q6.2)) (rv := some (.int q6.1)) (bytes := cX12_fails) (maxL := 1) (ret := (some .boolean)) (C := RX12) (As := []) (rest := []) (stk := [.int q6.1]) ⟨hx, hb, hml, hown, hts⟩ hK hE hA hP hD hS (c_X12_fails l D G Z Y q4.2 q6 hq6) (cwV 0 hts (gwV wd_1477 wd_1479 wp_54 wd_11 wd_1480) rfl rfl rfl hd_X12_fails ⟨Nat.le_of_ble_eq_true rfl, Nat.le_of_ble_eq_true rfl⟩) (mg_200 G Z Y q4.2) rfl rfl rfl hl.1 rfl (Nat.le_of_ble_eq_true rfl) dX12_takes_17 ⟨Nat.zero_le _, Nat.zero_le _⟩ rfl (fun H locs hP hD hS => ?_)
      obtain ⟨c7, h⟩ := f_c h
      obtain rfl := Option.some.inj h
      exact W.zret (v := q6.1) hx hb hr (bn c7) (q_end hK hP hD hS) hS.2.2 dX12_takes_20
abbrev rm_X12_sign : Room := { frames := 1, cells := 0, slots := 0, locals := 30 }
set_option maxRecDepth 100000 in
set_option maxHeartbeats 8000000 in
theorem c_X12_sign (l : Launch) (D : va_G) (G : hG) (Z : hZ) (Y : va_W) (σ0 : hSt) (x1 : Int32) (res : (Unit × hSt)) (h : f_X12_sign Z σ0 x1 = some res) : CT l yX12_sign cX12_sign 2 none rm_X12_sign D G 0 0 [.ref (G.2.1 200), .int x1] (mW G Z Y σ0) (mW G Z Y res.2) none := by
  unfold f_X12_sign at h
  refine CT.mk (cc := cX12_sign) (maxL := 2) (ret := none) (own := RX12) (plainFor_of_name (by decide)) rfl (Nat.le_of_ble_eq_true rfl) ?_
  intro p e s m args below meth c A ls C0 hnm hA hP hD hl
  obtain ⟨hx, hb, hr, hml, hown, hts, hlocks, hK, hE⟩ := id C0
  have hS : va_S A s.heap s.heap [] := va_S.rf
  have hl : lv_has ls 2 [(0, .ref (G.2.1 200)), (1, .int x1)] := hl
  refine lv_aload_n hx hb dX12_sign_0 rfl (lv_at hl 0 rfl) ?_
  refine va_get (D := D) (ci := 12) (v := .ref (G.2.1 202)) (C := RX12) (T := TX12) (N := 59) hx hb hts inU_X12 hown hK hP _ (mg_200 G Z Y σ0) rfl 10 (by decide) (hts _ wd_1258) (fun _ h9 => h9) rfl dX12_sign_1 ?_
  refine lv_sipush (v := 200) hx hb dX12_sign_4 (by decide) ?_
  refine lv_aload_n hx hb dX12_sign_7 rfl (lv_at hl 0 rfl) ?_
  refine va_get (D := D) (ci := 12) (v := .int (σ0.1 200 16)) (C := RX12) (T := TX12) (N := 59) hx hb hts inU_X12 hown hK hP _ (mg_200 G Z Y σ0) rfl 16 (by decide) (hts _ wd_1264) (fun _ h9 => h9) rfl dX12_sign_8 ?_
  refine lv_imul hx hb dX12_sign_11 ?_
  refine lv_aload_n hx hb dX12_sign_12 rfl (lv_at hl 0 rfl) ?_
  refine va_get (D := D) (ci := 12) (v := .ref (G.2.1 203)) (C := RX12) (T := TX12) (N := 59) hx hb hts inU_X12 hown hK hP _ (mg_200 G Z Y σ0) rfl 11 (by decide) (hts _ wd_1259) (fun _ h9 => h9) rfl dX12_sign_13 ?_
  refine lv_aload_n hx hb dX12_sign_16 rfl (lv_at hl 0 rfl) ?_
  refine va_get (D := D) (ci := 12) (v := .int (σ0.1 200 16)) (C := RX12) (T := TX12) (N := 59) hx hb hts inU_X12 hown hK hP _ (mg_200 G Z Y σ0) rfl 16 (by decide) (hts _ wd_1264) (fun _ h9 => h9) rfl dX12_sign_17 ?_
  obtain ⟨c1, h⟩ := f_n h
  refine va_ialdE (v := (σ0.1 203 (((σ0.1 200 16) : Int32).toNatClampNeg))) hx hb hK hP _ 0 (mg_203 G Z Y σ0) rfl c1 dX12_sign_20 rfl ?_
  refine lv_iadd hx hb dX12_sign_21 ?_
  refine lv_iload_n hx hb dX12_sign_22 rfl (lv_at hl 1 rfl) ?_
  obtain ⟨c2, h⟩ := f_n h
  refine va_iast hx hb hK hP hD hS _ 0 (mg_202 G Z Y σ0) rfl c2 dX12_sign_23 (fun H locs hP hD hS => ?_)
  have hP := wrP (mp_202 G Z Y σ0 _ _) hP
  have hD := wrD (mp_202 G Z Y σ0 _ _) hD
  refine lv_aload_n hx hb dX12_sign_24 rfl (lv_at hl 0 rfl) ?_
  refine va_get (D := D) (ci := 12) (v := .ref (G.2.1 203)) (C := RX12) (T := TX12) (N := 59) hx hb hts inU_X12 hown hK hP _ (mg_200 G Z Y (sI σ0 202 (((((200 : Int32) * (σ0.1 200 16)) + (σ0.1 203 (((σ0.1 200 16) : Int32).toNatClampNeg))) : Int32).toNatClampNeg) x1)) rfl 11 (by decide) (hts _ wd_1259) (fun _ h9 => h9) rfl dX12_sign_25 ?_
  refine lv_aload_n hx hb dX12_sign_28 rfl (lv_at hl 0 rfl) ?_
  refine va_get (D := D) (ci := 12) (v := .int (σ0.1 200 16)) (C := RX12) (T := TX12) (N := 59) hx hb hts inU_X12 hown hK hP _ (mg_200 G Z Y (sI σ0 202 (((((200 : Int32) * (σ0.1 200 16)) + (σ0.1 203 (((σ0.1 200 16) : Int32).toNatClampNeg))) : Int32).toNatClampNeg) x1)) rfl 16 (by decide) (hts _ wd_1264) (fun _ h9 => h9) rfl dX12_sign_29 ?_
  refine lv_dup2_11 hx hb dX12_sign_32 rfl rfl ?_
  obtain ⟨c3, h⟩ := f_n h
  refine va_ialdE (v := (σ0.1 203 (((σ0.1 200 16) : Int32).toNatClampNeg))) hx hb hK hP _ 0 (mg_203 G Z Y (sI σ0 202 (((((200 : Int32) * (σ0.1 200 16)) + (σ0.1 203 (((σ0.1 200 16) : Int32).toNatClampNeg))) : Int32).toNatClampNeg) x1)) rfl c3 dX12_sign_33 rfl ?_
  refine lv_iconst (v := 1) hx hb dX12_sign_34 (by decide) ?_
  refine lv_iadd hx hb dX12_sign_35 ?_
  obtain ⟨c4, h⟩ := f_n h
  refine va_iast hx hb hK hP hD hS _ 0 (mg_203 G Z Y (sI σ0 202 (((((200 : Int32) * (σ0.1 200 16)) + (σ0.1 203 (((σ0.1 200 16) : Int32).toNatClampNeg))) : Int32).toNatClampNeg) x1)) rfl c4 dX12_sign_36 (fun H locs hP hD hS => ?_)
  have hP := wrP (mp_203 G Z Y (sI σ0 202 (((((200 : Int32) * (σ0.1 200 16)) + (σ0.1 203 (((σ0.1 200 16) : Int32).toNatClampNeg))) : Int32).toNatClampNeg) x1) _ _) hP
  have hD := wrD (mp_203 G Z Y (sI σ0 202 (((((200 : Int32) * (σ0.1 200 16)) + (σ0.1 203 (((σ0.1 200 16) : Int32).toNatClampNeg))) : Int32).toNatClampNeg) x1) _ _) hD
  refine lv_iload_n hx hb dX12_sign_37 rfl (lv_at hl 1 rfl) ?_
  refine lv_iconst (v := 5) hx hb dX12_sign_38 (by decide) ?_
  refine lv_icmp_le (tgt := 56) hx hb dX12_sign_39 (by decide) (fun c5 => ?_) (fun c5 => ?_)
  · skip
    have h := f_t c5 h
    refine lv_aload_n hx hb dX12_sign_56 rfl (lv_at hl 0 rfl) ?_
    refine va_get (D := D) (ci := 12) (v := .ref (G.2.1 205)) (C := RX12) (T := TX12) (N := 59) hx hb hts inU_X12 hown hK hP _ (mg_200 G Z Y (sI (sI σ0 202 (((((200 : Int32) * (σ0.1 200 16)) + (σ0.1 203 (((σ0.1 200 16) : Int32).toNatClampNeg))) : Int32).toNatClampNeg) x1) 203 (((σ0.1 200 16) : Int32).toNatClampNeg) ((σ0.1 203 (((σ0.1 200 16) : Int32).toNatClampNeg)) + (1 : Int32)))) rfl 13 (by decide) (hts _ wd_1261) (fun _ h9 => h9) rfl dX12_sign_57 ?_
    refine lv_bipush (v := 6) hx hb dX12_sign_60 (by decide) ?_
    refine lv_aload_n hx hb dX12_sign_62 rfl (lv_at hl 0 rfl) ?_
    refine va_get (D := D) (ci := 12) (v := .int (σ0.1 200 16)) (C := RX12) (T := TX12) (N := 59) hx hb hts inU_X12 hown hK hP _ (mg_200 G Z Y (sI (sI σ0 202 (((((200 : Int32) * (σ0.1 200 16)) + (σ0.1 203 (((σ0.1 200 16) : Int32).toNatClampNeg))) : Int32).toNatClampNeg) x1) 203 (((σ0.1 200 16) : Int32).toNatClampNeg) ((σ0.1 203 (((σ0.1 200 16) : Int32).toNatClampNeg)) + (1 : Int32)))) rfl 16 (by decide) (hts _ wd_1264) (fun _ h9 => h9) rfl dX12_sign_63 ?_
    refine lv_imul hx hb dX12_sign_66 ?_
    refine lv_iload_n hx hb dX12_sign_67 rfl (lv_at hl 1 rfl) ?_
    refine lv_iadd hx hb dX12_sign_68 ?_
    refine lv_dup2_11 hx hb dX12_sign_69 rfl rfl ?_
    obtain ⟨c6, h⟩ := f_n h
    refine va_ialdE (v := (σ0.1 205 (((((6 : Int32) * (σ0.1 200 16)) + x1) : Int32).toNatClampNeg))) hx hb hK hP _ 0 (mg_205 G Z Y (sI (sI σ0 202 (((((200 : Int32) * (σ0.1 200 16)) + (σ0.1 203 (((σ0.1 200 16) : Int32).toNatClampNeg))) : Int32).toNatClampNeg) x1) 203 (((σ0.1 200 16) : Int32).toNatClampNeg) ((σ0.1 203 (((σ0.1 200 16) : Int32).toNatClampNeg)) + (1 : Int32)))) rfl c6 dX12_sign_70 rfl ?_
    refine lv_iconst (v := 1) hx hb dX12_sign_71 (by decide) ?_
    refine lv_iadd hx hb dX12_sign_72 ?_
    obtain ⟨c7, h⟩ := f_n h
    refine va_iast hx hb hK hP hD hS _ 0 (mg_205 G Z Y (sI (sI σ0 202 (((((200 : Int32) * (σ0.1 200 16)) + (σ0.1 203 (((σ0.1 200 16) : Int32).toNatClampNeg))) : Int32).toNatClampNeg) x1) 203 (((σ0.1 200 16) : Int32).toNatClampNeg) ((σ0.1 203 (((σ0.1 200 16) : Int32).toNatClampNeg)) + (1 : Int32)))) rfl c7 dX12_sign_73 (fun H locs hP hD hS => ?_)
    have hP := wrP (mp_205 G Z Y (sI (sI σ0 202 (((((200 : Int32) * (σ0.1 200 16)) + (σ0.1 203 (((σ0.1 200 16) : Int32).toNatClampNeg))) : Int32).toNatClampNeg) x1) 203 (((σ0.1 200 16) : Int32).toNatClampNeg) ((σ0.1 203 (((σ0.1 200 16) : Int32).toNatClampNeg)) + (1 : Int32))) _ _) hP
    have hD := wrD (mp_205 G Z Y (sI (sI σ0 202 (((((200 : Int32) * (σ0.1 200 16)) + (σ0.1 203 (((σ0.1 200 16) : Int32).toNatClampNeg))) : Int32).toNatClampNeg) x1) 203 (((σ0.1 200 16) : Int32).toNatClampNeg) ((σ0.1 203 (((σ0.1 200 16) : Int32).toNatClampNeg)) + (1 : Int32))) _ _) hD
    refine lv_aload_n hx hb dX12_sign_74 rfl (lv_at hl 0 rfl) ?_
    refine va_get (D := D) (ci := 12) (v := .ref (G.2.1 204)) (C := RX12) (T := TX12) (N := 59) hx hb hts inU_X12 hown hK hP _ (mg_200 G Z Y (sI (sI (sI σ0 202 (((((200 : Int32) * (σ0.1 200 16)) + (σ0.1 203 (((σ0.1 200 16) : Int32).toNatClampNeg))) : Int32).toNatClampNeg) x1) 203 (((σ0.1 200 16) : Int32).toNatClampNeg) ((σ0.1 203 (((σ0.1 200 16) : Int32).toNatClampNeg)) + (1 : Int32))) 205 (((((6 : Int32) * (σ0.1 200 16)) + x1) : Int32).toNatClampNeg) ((σ0.1 205 (((((6 : Int32) * (σ0.1 200 16)) + x1) : Int32).toNatClampNeg)) + (1 : Int32)))) rfl 12 (by decide) (hts _ wd_1260) (fun _ h9 => h9) rfl dX12_sign_75 ?_
    refine lv_aload_n hx hb dX12_sign_78 rfl (lv_at hl 0 rfl) ?_
    refine va_get (D := D) (ci := 12) (v := .int (σ0.1 200 16)) (C := RX12) (T := TX12) (N := 59) hx hb hts inU_X12 hown hK hP _ (mg_200 G Z Y (sI (sI (sI σ0 202 (((((200 : Int32) * (σ0.1 200 16)) + (σ0.1 203 (((σ0.1 200 16) : Int32).toNatClampNeg))) : Int32).toNatClampNeg) x1) 203 (((σ0.1 200 16) : Int32).toNatClampNeg) ((σ0.1 203 (((σ0.1 200 16) : Int32).toNatClampNeg)) + (1 : Int32))) 205 (((((6 : Int32) * (σ0.1 200 16)) + x1) : Int32).toNatClampNeg) ((σ0.1 205 (((((6 : Int32) * (σ0.1 200 16)) + x1) : Int32).toNatClampNeg)) + (1 : Int32)))) rfl 16 (by decide) (hts _ wd_1264) (fun _ h9 => h9) rfl dX12_sign_79 ?_
    refine lv_aload_n hx hb dX12_sign_82 rfl (lv_at hl 0 rfl) ?_
    refine va_get (D := D) (ci := 12) (v := .ref (G.2.1 204)) (C := RX12) (T := TX12) (N := 59) hx hb hts inU_X12 hown hK hP _ (mg_200 G Z Y (sI (sI (sI σ0 202 (((((200 : Int32) * (σ0.1 200 16)) + (σ0.1 203 (((σ0.1 200 16) : Int32).toNatClampNeg))) : Int32).toNatClampNeg) x1) 203 (((σ0.1 200 16) : Int32).toNatClampNeg) ((σ0.1 203 (((σ0.1 200 16) : Int32).toNatClampNeg)) + (1 : Int32))) 205 (((((6 : Int32) * (σ0.1 200 16)) + x1) : Int32).toNatClampNeg) ((σ0.1 205 (((((6 : Int32) * (σ0.1 200 16)) + x1) : Int32).toNatClampNeg)) + (1 : Int32)))) rfl 12 (by decide) (hts _ wd_1260) (fun _ h9 => h9) rfl dX12_sign_83 ?_
    refine lv_aload_n hx hb dX12_sign_86 rfl (lv_at hl 0 rfl) ?_
    refine va_get (D := D) (ci := 12) (v := .int (σ0.1 200 16)) (C := RX12) (T := TX12) (N := 59) hx hb hts inU_X12 hown hK hP _ (mg_200 G Z Y (sI (sI (sI σ0 202 (((((200 : Int32) * (σ0.1 200 16)) + (σ0.1 203 (((σ0.1 200 16) : Int32).toNatClampNeg))) : Int32).toNatClampNeg) x1) 203 (((σ0.1 200 16) : Int32).toNatClampNeg) ((σ0.1 203 (((σ0.1 200 16) : Int32).toNatClampNeg)) + (1 : Int32))) 205 (((((6 : Int32) * (σ0.1 200 16)) + x1) : Int32).toNatClampNeg) ((σ0.1 205 (((((6 : Int32) * (σ0.1 200 16)) + x1) : Int32).toNatClampNeg)) + (1 : Int32)))) rfl 16 (by decide) (hts _ wd_1264) (fun _ h9 => h9) rfl dX12_sign_87 ?_
    obtain ⟨c8, h⟩ := f_n h
    refine va_ialdE (v := (σ0.1 204 (((σ0.1 200 16) : Int32).toNatClampNeg))) hx hb hK hP _ 0 (mg_204 G Z Y (sI (sI (sI σ0 202 (((((200 : Int32) * (σ0.1 200 16)) + (σ0.1 203 (((σ0.1 200 16) : Int32).toNatClampNeg))) : Int32).toNatClampNeg) x1) 203 (((σ0.1 200 16) : Int32).toNatClampNeg) ((σ0.1 203 (((σ0.1 200 16) : Int32).toNatClampNeg)) + (1 : Int32))) 205 (((((6 : Int32) * (σ0.1 200 16)) + x1) : Int32).toNatClampNeg) ((σ0.1 205 (((((6 : Int32) * (σ0.1 200 16)) + x1) : Int32).toNatClampNeg)) + (1 : Int32)))) rfl c8 dX12_sign_90 rfl ?_
    refine lv_iload_n hx hb dX12_sign_91 rfl (lv_at hl 1 rfl) ?_
    refine lv_iconst (v := 1) hx hb dX12_sign_92 (by decide) ?_
    refine lv_iadd hx hb dX12_sign_93 ?_
    refine va_mmax hx hb (hml.trans hl.1.symm) hown (hts _ wd_1476) (hts _ wd_328) (hts _ wd_12) (hts _ wd_329) (Nat.le_of_ble_eq_true rfl) (Nat.le_of_ble_eq_true rfl) (Nat.zero_le _) (Nat.zero_le _) dX12_sign_94 ?_
    obtain ⟨c9, h⟩ := f_n h
    refine va_iast hx hb hK hP hD hS _ 0 (mg_204 G Z Y (sI (sI (sI σ0 202 (((((200 : Int32) * (σ0.1 200 16)) + (σ0.1 203 (((σ0.1 200 16) : Int32).toNatClampNeg))) : Int32).toNatClampNeg) x1) 203 (((σ0.1 200 16) : Int32).toNatClampNeg) ((σ0.1 203 (((σ0.1 200 16) : Int32).toNatClampNeg)) + (1 : Int32))) 205 (((((6 : Int32) * (σ0.1 200 16)) + x1) : Int32).toNatClampNeg) ((σ0.1 205 (((((6 : Int32) * (σ0.1 200 16)) + x1) : Int32).toNatClampNeg)) + (1 : Int32)))) rfl c9 dX12_sign_97 (fun H locs hP hD hS => ?_)
    have hP := wrP (mp_204 G Z Y (sI (sI (sI σ0 202 (((((200 : Int32) * (σ0.1 200 16)) + (σ0.1 203 (((σ0.1 200 16) : Int32).toNatClampNeg))) : Int32).toNatClampNeg) x1) 203 (((σ0.1 200 16) : Int32).toNatClampNeg) ((σ0.1 203 (((σ0.1 200 16) : Int32).toNatClampNeg)) + (1 : Int32))) 205 (((((6 : Int32) * (σ0.1 200 16)) + x1) : Int32).toNatClampNeg) ((σ0.1 205 (((((6 : Int32) * (σ0.1 200 16)) + x1) : Int32).toNatClampNeg)) + (1 : Int32))) _ _) hP
    have hD := wrD (mp_204 G Z Y (sI (sI (sI σ0 202 (((((200 : Int32) * (σ0.1 200 16)) + (σ0.1 203 (((σ0.1 200 16) : Int32).toNatClampNeg))) : Int32).toNatClampNeg) x1) 203 (((σ0.1 200 16) : Int32).toNatClampNeg) ((σ0.1 203 (((σ0.1 200 16) : Int32).toNatClampNeg)) + (1 : Int32))) 205 (((((6 : Int32) * (σ0.1 200 16)) + x1) : Int32).toNatClampNeg) ((σ0.1 205 (((((6 : Int32) * (σ0.1 200 16)) + x1) : Int32).toNatClampNeg)) + (1 : Int32))) _ _) hD
    obtain rfl := Option.some.inj h
    exact W.vret hx hb hr (q_end hK hP hD hS) hS.2.2 dX12_sign_98
  · skip
    have h := f_f c5 h
    refine lv_aload_n hx hb dX12_sign_42 rfl (lv_at hl 0 rfl) ?_
    refine va_get (D := D) (ci := 12) (v := .ref (G.2.1 206)) (C := RX12) (T := TX12) (N := 59) hx hb hts inU_X12 hown hK hP _ (mg_200 G Z Y (sI (sI σ0 202 (((((200 : Int32) * (σ0.1 200 16)) + (σ0.1 203 (((σ0.1 200 16) : Int32).toNatClampNeg))) : Int32).toNatClampNeg) x1) 203 (((σ0.1 200 16) : Int32).toNatClampNeg) ((σ0.1 203 (((σ0.1 200 16) : Int32).toNatClampNeg)) + (1 : Int32)))) rfl 14 (by decide) (hts _ wd_1262) (fun _ h9 => h9) rfl dX12_sign_43 ?_
    refine lv_aload_n hx hb dX12_sign_46 rfl (lv_at hl 0 rfl) ?_
    refine va_get (D := D) (ci := 12) (v := .int (σ0.1 200 16)) (C := RX12) (T := TX12) (N := 59) hx hb hts inU_X12 hown hK hP _ (mg_200 G Z Y (sI (sI σ0 202 (((((200 : Int32) * (σ0.1 200 16)) + (σ0.1 203 (((σ0.1 200 16) : Int32).toNatClampNeg))) : Int32).toNatClampNeg) x1) 203 (((σ0.1 200 16) : Int32).toNatClampNeg) ((σ0.1 203 (((σ0.1 200 16) : Int32).toNatClampNeg)) + (1 : Int32)))) rfl 16 (by decide) (hts _ wd_1264) (fun _ h9 => h9) rfl dX12_sign_47 ?_
    refine lv_dup2_11 hx hb dX12_sign_50 rfl rfl ?_
    obtain ⟨c10, h⟩ := f_n h
    refine va_ialdE (v := (σ0.1 206 (((σ0.1 200 16) : Int32).toNatClampNeg))) hx hb hK hP _ 0 (mg_206 G Z Y (sI (sI σ0 202 (((((200 : Int32) * (σ0.1 200 16)) + (σ0.1 203 (((σ0.1 200 16) : Int32).toNatClampNeg))) : Int32).toNatClampNeg) x1) 203 (((σ0.1 200 16) : Int32).toNatClampNeg) ((σ0.1 203 (((σ0.1 200 16) : Int32).toNatClampNeg)) + (1 : Int32)))) rfl c10 dX12_sign_51 rfl ?_
    refine lv_iconst (v := 1) hx hb dX12_sign_52 (by decide) ?_
    refine lv_iadd hx hb dX12_sign_53 ?_
    obtain ⟨c11, h⟩ := f_n h
    refine va_iast hx hb hK hP hD hS _ 0 (mg_206 G Z Y (sI (sI σ0 202 (((((200 : Int32) * (σ0.1 200 16)) + (σ0.1 203 (((σ0.1 200 16) : Int32).toNatClampNeg))) : Int32).toNatClampNeg) x1) 203 (((σ0.1 200 16) : Int32).toNatClampNeg) ((σ0.1 203 (((σ0.1 200 16) : Int32).toNatClampNeg)) + (1 : Int32)))) rfl c11 dX12_sign_54 (fun H locs hP hD hS => ?_)
    have hP := wrP (mp_206 G Z Y (sI (sI σ0 202 (((((200 : Int32) * (σ0.1 200 16)) + (σ0.1 203 (((σ0.1 200 16) : Int32).toNatClampNeg))) : Int32).toNatClampNeg) x1) 203 (((σ0.1 200 16) : Int32).toNatClampNeg) ((σ0.1 203 (((σ0.1 200 16) : Int32).toNatClampNeg)) + (1 : Int32))) _ _) hP
    have hD := wrD (mp_206 G Z Y (sI (sI σ0 202 (((((200 : Int32) * (σ0.1 200 16)) + (σ0.1 203 (((σ0.1 200 16) : Int32).toNatClampNeg))) : Int32).toNatClampNeg) x1) 203 (((σ0.1 200 16) : Int32).toNatClampNeg) ((σ0.1 203 (((σ0.1 200 16) : Int32).toNatClampNeg)) + (1 : Int32))) _ _) hD
    obtain rfl := Option.some.inj h
    exact W.vret hx hb hr (q_end hK hP hD hS) hS.2.2 dX12_sign_55
def rmG_Mo (d : Nat) : Room := { frames := 2 + d, cells := 0, slots := 0, locals := 51 + d * 21 }
set_option maxRecDepth 100000 in
set_option maxHeartbeats 8000000 in
theorem W_X12_ors_L4 {p : Program} {e : Env} {s : State} {m : MethodId} {args : Array Value} {below : List Frame} {meth : Method} {c : Code} {A : Nat → Prop} (l : Launch) (D : va_G) (G : hG) (Z : hZ) (Y : va_W) (F : Nat) (d : Nat) (u_X12_ands : (hSt → Option (Unit × hSt))) (hu_X12_ands : ∀ (σ0 : hSt) (res : (Unit × hSt)), u_X12_ands σ0  = some res → CT l yX12_ands cX12_ands 1 none (rmG_Mo d) D G 0 0 [.ref (G.2.1 200)] (mW G Z Y σ0) (mW G Z Y res.2) none) (σ0 : hSt) (res : (Unit × hSt)) (C0 : Cx p s m args meth c cX12_ors none RX12 1 D G A) (hA : ∀ q : Nat, s.heap.size ≤ q → A q) : ∀ (n : Nat) (σ1 : hSt), f_X12_ors_L4 F Z u_X12_ands n σ1 = some res → ∀ (H : Heap) (locs : List Loc) (ls : Array Slot), va_P D vwCl (mW G Z Y σ1) H → va_D A (mW G Z Y σ1) → va_S A s.heap H locs → lv_has ls 1 [(0, .ref (G.2.1 200))] → W p l e (rmG_Mo (d + 1)) s m args below meth c H locs 0 0 (MQ below (Qg none D (tysG G) (mW G Z Y res.2) A) args s 0 0 A) (F0 m 4 ls []) := by
  obtain ⟨hx, hb, hr, hml, hown, hts, hlocks, hK, hE⟩ := id C0
  intro n
  induction n with
  | zero =>
    intro σ1 h
    cases h
  | succ n ih =>
    intro σ1 h H locs ls hP hD hS hl
    rw [f_X12_ors_L4] at h
    refine lv_aload_n hx hb dX12_ors_4 rfl (lv_at hl 0 rfl) ?_
    refine va_get (D := D) (ci := 12) (v := .int (σ1.1 200 7)) (C := RX12) (T := TX12) (N := 59) hx hb hts inU_X12 hown hK hP _ (mg_200 G Z Y σ1) rfl 7 (by decide) (hts _ wd_1255) (fun _ h9 => h9) rfl dX12_ors_5 ?_
    refine lv_iconst (v := (-1)) hx hb dX12_ors_8 (by decide) ?_
    refine lv_icmp_ne (tgt := 52) hx hb dX12_ors_9 (by decide) (fun c2 => ?_) (fun c2 => ?_)
    · skip
      have h := f_f c2 h
      obtain rfl := Option.some.inj h
      exact W.vret hx hb hr (q_end hK hP hD hS) hS.2.2 dX12_ors_52
    · skip
      have h := f_t c2 h
      refine lv_aload_n hx hb dX12_ors_12 rfl (lv_at hl 0 rfl) ?_
      obtain ⟨q3, hq3, h⟩ := f_b h
      refine cl_V (w := (mW G Z Y σ1)) (w' := (mW G Z Y q3.2)) (rv := some (.int q3.1)) (bytes := cX12_look) (maxL := 1) (ret := (some .int)) (C := RX12) (As := []) (rest := []) (stk := [.int q3.1]) ⟨hx, hb, hml, hown, hts⟩ hK hE hA hP hD hS (c_X12_look l D G Z Y σ1 F q3 hq3) (cwV 0 hts (gwV wd_1468 wd_1470 wp_52 wd_11 wd_1471) rfl rfl rfl hd_X12_look ⟨by show 0 + 1 ≤ 2 + (d + 1); omega, by show 8 + (1 + 11) + 0 ≤ 51 + (d + 1) * 21; omega⟩) (mg_200 G Z Y σ1) rfl rfl rfl hl.1 rfl (Nat.le_of_ble_eq_true rfl) dX12_ors_13 ⟨Nat.zero_le _, Nat.zero_le _⟩ rfl (fun H locs hP hD hS => ?_)
      refine lv_bipush (v := 124) hx hb dX12_ors_16 (by decide) ?_
      refine lv_icmp_ne (tgt := 52) hx hb dX12_ors_18 (by decide) (fun c4 => ?_) (fun c4 => ?_)
      · skip
        have h := f_f c4 h
        obtain rfl := Option.some.inj h
        exact W.vret hx hb hr (q_end hK hP hD hS) hS.2.2 dX12_ors_52
      · skip
        have h := f_t c4 h
        refine lv_aload_n hx hb dX12_ors_21 rfl (lv_at hl 0 rfl) ?_
        refine lv_dup hx hb dX12_ors_22 rfl ?_
        refine va_get (D := D) (ci := 12) (v := .int (q3.2.1 200 6)) (C := RX12) (T := TX12) (N := 59) hx hb hts inU_X12 hown hK hP _ (mg_200 G Z Y q3.2) rfl 6 (by decide) (hts _ wd_1254) (fun _ h9 => h9) rfl dX12_ors_23 ?_
        refine lv_iconst (v := 1) hx hb dX12_ors_26 (by decide) ?_
        refine lv_iadd hx hb dX12_ors_27 ?_
        refine va_put (D := D) (ci := 12) (v := .int ((q3.2.1 200 6) + (1 : Int32))) (ty := .int) (C := RX12) (T := TX12) (N := 59) hx hb hts inU_X12 tyX12 tyX12_ok nmX12 hown hK hP hD hS _ (mg_200 G Z Y q3.2) rfl 6 (by decide) (hts _ wd_1254) (fun _ h9 => h9) rfl (by decide +kernel) rfl rfl (Nat.le_of_ble_eq_true rfl) dX12_ors_28 (fun H locs hP hD hS => ?_)
        have hP := wrP (mp_200_6 G Z Y q3.2 ((q3.2.1 200 6) + (1 : Int32))) hP
        have hD := wrD (mp_200_6 G Z Y q3.2 ((q3.2.1 200 6) + (1 : Int32))) hD
        refine lv_aload_n hx hb dX12_ors_31 rfl (lv_at hl 0 rfl) ?_
        obtain ⟨q5, hq5, h⟩ := f_b h
        refine cl_V (w := (mW G Z Y (sI q3.2 200 6 ((q3.2.1 200 6) + (1 : Int32))))) (w' := (mW G Z Y q5.2)) (rv := none) (bytes := cX12_ands) (maxL := 1) (ret := none) (C := RX12) (As := []) (rest := []) (stk := []) ⟨hx, hb, hml, hown, hts⟩ hK hE hA hP hD hS (hu_X12_ands (sI q3.2 200 6 ((q3.2.1 200 6) + (1 : Int32))) q5 hq5) (cwV 0 hts (gwV wd_1460 wd_1462 wp_50 wd_11 wd_1463) rfl rfl rfl hd_X12_ands ⟨by show 2 + d + 1 ≤ 2 + (d + 1); omega, by show 8 + (1 + 11) + (51 + d * 21) ≤ 51 + (d + 1) * 21; omega⟩) (mg_200 G Z Y (sI q3.2 200 6 ((q3.2.1 200 6) + (1 : Int32)))) rfl rfl rfl hl.1 rfl (Nat.le_of_ble_eq_true rfl) dX12_ors_32 ⟨Nat.zero_le _, Nat.zero_le _⟩ rfl (fun H locs hP hD hS => ?_)
        refine lv_aload_n hx hb dX12_ors_35 rfl (lv_at hl 0 rfl) ?_
        refine va_get (D := D) (ci := 12) (v := .int (q5.2.1 200 7)) (C := RX12) (T := TX12) (N := 59) hx hb hts inU_X12 hown hK hP _ (mg_200 G Z Y q5.2) rfl 7 (by decide) (hts _ wd_1255) (fun _ h9 => h9) rfl dX12_ors_36 ?_
        refine lv_iconst (v := (-1)) hx hb dX12_ors_39 (by decide) ?_
        refine lv_icmp_ne (tgt := 4) hx hb dX12_ors_40 (by decide) (fun c6 => ?_) (fun c6 => ?_)
        · skip
          have h := f_f c6 h
          exact ih q5.2 h _ _ _ hP hD hS hl
        · skip
          have h := f_t c6 h
          refine lv_aload_n hx hb dX12_ors_43 rfl (lv_at hl 0 rfl) ?_
          refine lv_bipush (v := 8) hx hb dX12_ors_44 (by decide) ?_
          obtain ⟨q7, hq7, h⟩ := f_b h
          refine cl_V (w := (mW G Z Y q5.2)) (w' := (mW G Z Y q7.2)) (rv := none) (bytes := cX12_sign) (maxL := 2) (ret := none) (C := RX12) (As := [.int (8 : Int32)]) (rest := []) (stk := []) ⟨hx, hb, hml, hown, hts⟩ hK hE hA hP hD hS (c_X12_sign l D G Z Y q5.2 (8 : Int32) q7 hq7) (cwV 1 hts (gwV wd_1472 wd_1474 wp_53 wd_11 wd_1475) rfl rfl rfl hd_X12_sign ⟨by show 1 + 1 ≤ 2 + (d + 1); omega, by show 8 + (2 + 11) + 30 ≤ 51 + (d + 1) * 21; omega⟩) (mg_200 G Z Y q5.2) rfl rfl rfl hl.1 rfl (Nat.le_of_ble_eq_true rfl) dX12_ors_46 ⟨Nat.zero_le _, Nat.zero_le _⟩ rfl (fun H locs hP hD hS => ?_)
          refine lv_goto (tgt := 4) hx hb dX12_ors_49 (by decide) ?_
          exact ih q7.2 h _ _ _ hP hD hS hl
set_option maxRecDepth 100000 in
set_option maxHeartbeats 8000000 in
theorem o_X12_ors (l : Launch) (D : va_G) (G : hG) (Z : hZ) (Y : va_W) (F : Nat) (d : Nat) (u_X12_ands : (hSt → Option (Unit × hSt))) (hu_X12_ands : ∀ (σ0 : hSt) (res : (Unit × hSt)), u_X12_ands σ0  = some res → CT l yX12_ands cX12_ands 1 none (rmG_Mo d) D G 0 0 [.ref (G.2.1 200)] (mW G Z Y σ0) (mW G Z Y res.2) none) (σ0 : hSt) (res : (Unit × hSt)) (h : b_X12_ors F Z u_X12_ands σ0 = some res) : CT l yX12_ors cX12_ors 1 none (rmG_Mo (d + 1)) D G 0 0 [.ref (G.2.1 200)] (mW G Z Y σ0) (mW G Z Y res.2) none := by
  unfold b_X12_ors at h
  refine CT.mk (cc := cX12_ors) (maxL := 1) (ret := none) (own := RX12) (plainFor_of_name (by decide)) rfl (Nat.le_of_ble_eq_true rfl) ?_
  intro p e s m args below meth c A ls C0 hnm hA hP hD hl
  obtain ⟨hx, hb, hr, hml, hown, hts, hlocks, hK, hE⟩ := id C0
  have hS : va_S A s.heap s.heap [] := va_S.rf
  have hl : lv_has ls 1 [(0, .ref (G.2.1 200))] := hl
  refine lv_aload_n hx hb dX12_ors_0 rfl (lv_at hl 0 rfl) ?_
  obtain ⟨q1, hq1, h⟩ := f_b h
  refine cl_V (w := (mW G Z Y σ0)) (w' := (mW G Z Y q1.2)) (rv := none) (bytes := cX12_ands) (maxL := 1) (ret := none) (C := RX12) (As := []) (rest := []) (stk := []) ⟨hx, hb, hml, hown, hts⟩ hK hE hA hP hD hS (hu_X12_ands σ0 q1 hq1) (cwV 0 hts (gwV wd_1460 wd_1462 wp_50 wd_11 wd_1463) rfl rfl rfl hd_X12_ands ⟨by show 2 + d + 1 ≤ 2 + (d + 1); omega, by show 8 + (1 + 11) + (51 + d * 21) ≤ 51 + (d + 1) * 21; omega⟩) (mg_200 G Z Y σ0) rfl rfl rfl hl.1 rfl (Nat.le_of_ble_eq_true rfl) dX12_ors_1 ⟨Nat.zero_le _, Nat.zero_le _⟩ rfl (fun H locs hP hD hS => ?_)
  refine W_X12_ors_L4 l D G Z Y F d u_X12_ands hu_X12_ands σ0 res C0 hA F q1.2 h _ _ _ hP hD hS hl
set_option maxRecDepth 100000 in
set_option maxHeartbeats 8000000 in
theorem W_X12_ands_L4 {p : Program} {e : Env} {s : State} {m : MethodId} {args : Array Value} {below : List Frame} {meth : Method} {c : Code} {A : Nat → Prop} (l : Launch) (D : va_G) (G : hG) (Z : hZ) (Y : va_W) (F : Nat) (d : Nat) (u_X12_saidUnit : (hSt → Option (Unit × hSt))) (hu_X12_saidUnit : ∀ (σ0 : hSt) (res : (Unit × hSt)), u_X12_saidUnit σ0  = some res → CT l yX12_saidUnit cX12_saidUnit 2 none (rmG_Mo d) D G 0 0 [.ref (G.2.1 200)] (mW G Z Y σ0) (mW G Z Y res.2) none) (σ0 : hSt) (res : (Unit × hSt)) (C0 : Cx p s m args meth c cX12_ands none RX12 1 D G A) (hA : ∀ q : Nat, s.heap.size ≤ q → A q) : ∀ (n : Nat) (σ1 : hSt), f_X12_ands_L4 F Z u_X12_saidUnit n σ1 = some res → ∀ (H : Heap) (locs : List Loc) (ls : Array Slot), va_P D vwCl (mW G Z Y σ1) H → va_D A (mW G Z Y σ1) → va_S A s.heap H locs → lv_has ls 1 [(0, .ref (G.2.1 200))] → W p l e (rmG_Mo (d + 1)) s m args below meth c H locs 0 0 (MQ below (Qg none D (tysG G) (mW G Z Y res.2) A) args s 0 0 A) (F0 m 4 ls []) := by
  obtain ⟨hx, hb, hr, hml, hown, hts, hlocks, hK, hE⟩ := id C0
  intro n
  induction n with
  | zero =>
    intro σ1 h
    cases h
  | succ n ih =>
    intro σ1 h H locs ls hP hD hS hl
    rw [f_X12_ands_L4] at h
    refine lv_aload_n hx hb dX12_ands_4 rfl (lv_at hl 0 rfl) ?_
    refine va_get (D := D) (ci := 12) (v := .int (σ1.1 200 7)) (C := RX12) (T := TX12) (N := 59) hx hb hts inU_X12 hown hK hP _ (mg_200 G Z Y σ1) rfl 7 (by decide) (hts _ wd_1255) (fun _ h9 => h9) rfl dX12_ands_5 ?_
    refine lv_iconst (v := (-1)) hx hb dX12_ands_8 (by decide) ?_
    refine lv_icmp_ne (tgt := 52) hx hb dX12_ands_9 (by decide) (fun c2 => ?_) (fun c2 => ?_)
    · skip
      have h := f_f c2 h
      obtain rfl := Option.some.inj h
      exact W.vret hx hb hr (q_end hK hP hD hS) hS.2.2 dX12_ands_52
    · skip
      have h := f_t c2 h
      refine lv_aload_n hx hb dX12_ands_12 rfl (lv_at hl 0 rfl) ?_
      obtain ⟨q3, hq3, h⟩ := f_b h
      refine cl_V (w := (mW G Z Y σ1)) (w' := (mW G Z Y q3.2)) (rv := some (.int q3.1)) (bytes := cX12_look) (maxL := 1) (ret := (some .int)) (C := RX12) (As := []) (rest := []) (stk := [.int q3.1]) ⟨hx, hb, hml, hown, hts⟩ hK hE hA hP hD hS (c_X12_look l D G Z Y σ1 F q3 hq3) (cwV 0 hts (gwV wd_1468 wd_1470 wp_52 wd_11 wd_1471) rfl rfl rfl hd_X12_look ⟨by show 0 + 1 ≤ 2 + (d + 1); omega, by show 8 + (1 + 11) + 0 ≤ 51 + (d + 1) * 21; omega⟩) (mg_200 G Z Y σ1) rfl rfl rfl hl.1 rfl (Nat.le_of_ble_eq_true rfl) dX12_ands_13 ⟨Nat.zero_le _, Nat.zero_le _⟩ rfl (fun H locs hP hD hS => ?_)
      refine lv_bipush (v := 38) hx hb dX12_ands_16 (by decide) ?_
      refine lv_icmp_ne (tgt := 52) hx hb dX12_ands_18 (by decide) (fun c4 => ?_) (fun c4 => ?_)
      · skip
        have h := f_f c4 h
        obtain rfl := Option.some.inj h
        exact W.vret hx hb hr (q_end hK hP hD hS) hS.2.2 dX12_ands_52
      · skip
        have h := f_t c4 h
        refine lv_aload_n hx hb dX12_ands_21 rfl (lv_at hl 0 rfl) ?_
        refine lv_dup hx hb dX12_ands_22 rfl ?_
        refine va_get (D := D) (ci := 12) (v := .int (q3.2.1 200 6)) (C := RX12) (T := TX12) (N := 59) hx hb hts inU_X12 hown hK hP _ (mg_200 G Z Y q3.2) rfl 6 (by decide) (hts _ wd_1254) (fun _ h9 => h9) rfl dX12_ands_23 ?_
        refine lv_iconst (v := 1) hx hb dX12_ands_26 (by decide) ?_
        refine lv_iadd hx hb dX12_ands_27 ?_
        refine va_put (D := D) (ci := 12) (v := .int ((q3.2.1 200 6) + (1 : Int32))) (ty := .int) (C := RX12) (T := TX12) (N := 59) hx hb hts inU_X12 tyX12 tyX12_ok nmX12 hown hK hP hD hS _ (mg_200 G Z Y q3.2) rfl 6 (by decide) (hts _ wd_1254) (fun _ h9 => h9) rfl (by decide +kernel) rfl rfl (Nat.le_of_ble_eq_true rfl) dX12_ands_28 (fun H locs hP hD hS => ?_)
        have hP := wrP (mp_200_6 G Z Y q3.2 ((q3.2.1 200 6) + (1 : Int32))) hP
        have hD := wrD (mp_200_6 G Z Y q3.2 ((q3.2.1 200 6) + (1 : Int32))) hD
        refine lv_aload_n hx hb dX12_ands_31 rfl (lv_at hl 0 rfl) ?_
        obtain ⟨q5, hq5, h⟩ := f_b h
        refine cl_V (w := (mW G Z Y (sI q3.2 200 6 ((q3.2.1 200 6) + (1 : Int32))))) (w' := (mW G Z Y q5.2)) (rv := none) (bytes := cX12_saidUnit) (maxL := 2) (ret := none) (C := RX12) (As := []) (rest := []) (stk := []) ⟨hx, hb, hml, hown, hts⟩ hK hE hA hP hD hS (hu_X12_saidUnit (sI q3.2 200 6 ((q3.2.1 200 6) + (1 : Int32))) q5 hq5) (cwV 0 hts (gwV wd_1464 wd_1466 wp_51 wd_11 wd_1467) rfl rfl rfl hd_X12_saidUnit ⟨by show 2 + d + 1 ≤ 2 + (d + 1); omega, by show 8 + (2 + 11) + (51 + d * 21) ≤ 51 + (d + 1) * 21; omega⟩) (mg_200 G Z Y (sI q3.2 200 6 ((q3.2.1 200 6) + (1 : Int32)))) rfl rfl rfl hl.1 rfl (Nat.le_of_ble_eq_true rfl) dX12_ands_32 ⟨Nat.zero_le _, Nat.zero_le _⟩ rfl (fun H locs hP hD hS => ?_)
        refine lv_aload_n hx hb dX12_ands_35 rfl (lv_at hl 0 rfl) ?_
        refine va_get (D := D) (ci := 12) (v := .int (q5.2.1 200 7)) (C := RX12) (T := TX12) (N := 59) hx hb hts inU_X12 hown hK hP _ (mg_200 G Z Y q5.2) rfl 7 (by decide) (hts _ wd_1255) (fun _ h9 => h9) rfl dX12_ands_36 ?_
        refine lv_iconst (v := (-1)) hx hb dX12_ands_39 (by decide) ?_
        refine lv_icmp_ne (tgt := 4) hx hb dX12_ands_40 (by decide) (fun c6 => ?_) (fun c6 => ?_)
        · skip
          have h := f_f c6 h
          exact ih q5.2 h _ _ _ hP hD hS hl
        · skip
          have h := f_t c6 h
          refine lv_aload_n hx hb dX12_ands_43 rfl (lv_at hl 0 rfl) ?_
          refine lv_bipush (v := 7) hx hb dX12_ands_44 (by decide) ?_
          obtain ⟨q7, hq7, h⟩ := f_b h
          refine cl_V (w := (mW G Z Y q5.2)) (w' := (mW G Z Y q7.2)) (rv := none) (bytes := cX12_sign) (maxL := 2) (ret := none) (C := RX12) (As := [.int (7 : Int32)]) (rest := []) (stk := []) ⟨hx, hb, hml, hown, hts⟩ hK hE hA hP hD hS (c_X12_sign l D G Z Y q5.2 (7 : Int32) q7 hq7) (cwV 1 hts (gwV wd_1472 wd_1474 wp_53 wd_11 wd_1475) rfl rfl rfl hd_X12_sign ⟨by show 1 + 1 ≤ 2 + (d + 1); omega, by show 8 + (2 + 11) + 30 ≤ 51 + (d + 1) * 21; omega⟩) (mg_200 G Z Y q5.2) rfl rfl rfl hl.1 rfl (Nat.le_of_ble_eq_true rfl) dX12_ands_46 ⟨Nat.zero_le _, Nat.zero_le _⟩ rfl (fun H locs hP hD hS => ?_)
          refine lv_goto (tgt := 4) hx hb dX12_ands_49 (by decide) ?_
          exact ih q7.2 h _ _ _ hP hD hS hl
set_option maxRecDepth 100000 in
set_option maxHeartbeats 8000000 in
theorem o_X12_ands (l : Launch) (D : va_G) (G : hG) (Z : hZ) (Y : va_W) (F : Nat) (d : Nat) (u_X12_saidUnit : (hSt → Option (Unit × hSt))) (hu_X12_saidUnit : ∀ (σ0 : hSt) (res : (Unit × hSt)), u_X12_saidUnit σ0  = some res → CT l yX12_saidUnit cX12_saidUnit 2 none (rmG_Mo d) D G 0 0 [.ref (G.2.1 200)] (mW G Z Y σ0) (mW G Z Y res.2) none) (σ0 : hSt) (res : (Unit × hSt)) (h : b_X12_ands F Z u_X12_saidUnit σ0 = some res) : CT l yX12_ands cX12_ands 1 none (rmG_Mo (d + 1)) D G 0 0 [.ref (G.2.1 200)] (mW G Z Y σ0) (mW G Z Y res.2) none := by
  unfold b_X12_ands at h
  refine CT.mk (cc := cX12_ands) (maxL := 1) (ret := none) (own := RX12) (plainFor_of_name (by decide)) rfl (Nat.le_of_ble_eq_true rfl) ?_
  intro p e s m args below meth c A ls C0 hnm hA hP hD hl
  obtain ⟨hx, hb, hr, hml, hown, hts, hlocks, hK, hE⟩ := id C0
  have hS : va_S A s.heap s.heap [] := va_S.rf
  have hl : lv_has ls 1 [(0, .ref (G.2.1 200))] := hl
  refine lv_aload_n hx hb dX12_ands_0 rfl (lv_at hl 0 rfl) ?_
  obtain ⟨q1, hq1, h⟩ := f_b h
  refine cl_V (w := (mW G Z Y σ0)) (w' := (mW G Z Y q1.2)) (rv := none) (bytes := cX12_saidUnit) (maxL := 2) (ret := none) (C := RX12) (As := []) (rest := []) (stk := []) ⟨hx, hb, hml, hown, hts⟩ hK hE hA hP hD hS (hu_X12_saidUnit σ0 q1 hq1) (cwV 0 hts (gwV wd_1464 wd_1466 wp_51 wd_11 wd_1467) rfl rfl rfl hd_X12_saidUnit ⟨by show 2 + d + 1 ≤ 2 + (d + 1); omega, by show 8 + (2 + 11) + (51 + d * 21) ≤ 51 + (d + 1) * 21; omega⟩) (mg_200 G Z Y σ0) rfl rfl rfl hl.1 rfl (Nat.le_of_ble_eq_true rfl) dX12_ands_1 ⟨Nat.zero_le _, Nat.zero_le _⟩ rfl (fun H locs hP hD hS => ?_)
  refine W_X12_ands_L4 l D G Z Y F d u_X12_saidUnit hu_X12_saidUnit σ0 res C0 hA F q1.2 h _ _ _ hP hD hS hl
set_option maxRecDepth 100000 in
set_option maxHeartbeats 8000000 in
theorem o_X12_saidUnit (l : Launch) (D : va_G) (G : hG) (Z : hZ) (Y : va_W) (F : Nat) (d : Nat) (u_X12_ors : (hSt → Option (Unit × hSt))) (hu_X12_ors : ∀ (σ0 : hSt) (res : (Unit × hSt)), u_X12_ors σ0  = some res → CT l yX12_ors cX12_ors 1 none (rmG_Mo d) D G 0 0 [.ref (G.2.1 200)] (mW G Z Y σ0) (mW G Z Y res.2) none) (u_X12_saidUnit : (hSt → Option (Unit × hSt))) (hu_X12_saidUnit : ∀ (σ0 : hSt) (res : (Unit × hSt)), u_X12_saidUnit σ0  = some res → CT l yX12_saidUnit cX12_saidUnit 2 none (rmG_Mo d) D G 0 0 [.ref (G.2.1 200)] (mW G Z Y σ0) (mW G Z Y res.2) none) (σ0 : hSt) (res : (Unit × hSt)) (h : b_X12_saidUnit F Z u_X12_ors u_X12_saidUnit σ0 = some res) : CT l yX12_saidUnit cX12_saidUnit 2 none (rmG_Mo (d + 1)) D G 0 0 [.ref (G.2.1 200)] (mW G Z Y σ0) (mW G Z Y res.2) none := by
  unfold b_X12_saidUnit at h
  refine CT.mk (cc := cX12_saidUnit) (maxL := 2) (ret := none) (own := RX12) (plainFor_of_name (by decide)) rfl (Nat.le_of_ble_eq_true rfl) ?_
  intro p e s m args below meth c A ls C0 hnm hA hP hD hl
  obtain ⟨hx, hb, hr, hml, hown, hts, hlocks, hK, hE⟩ := id C0
  have hS : va_S A s.heap s.heap [] := va_S.rf
  have hl : lv_has ls 2 [(0, .ref (G.2.1 200))] := hl
  refine lv_aload_n hx hb dX12_saidUnit_0 rfl (lv_at hl 0 rfl) ?_
  obtain ⟨q1, hq1, h⟩ := f_b h
  refine cl_V (w := (mW G Z Y σ0)) (w' := (mW G Z Y q1.2)) (rv := some (.int q1.1)) (bytes := cX12_look) (maxL := 1) (ret := (some .int)) (C := RX12) (As := []) (rest := []) (stk := [.int q1.1]) ⟨hx, hb, hml, hown, hts⟩ hK hE hA hP hD hS (c_X12_look l D G Z Y σ0 F q1 hq1) (cwV 0 hts (gwV wd_1468 wd_1470 wp_52 wd_11 wd_1471) rfl rfl rfl hd_X12_look ⟨by show 0 + 1 ≤ 2 + (d + 1); omega, by show 8 + (1 + 11) + 0 ≤ 51 + (d + 1) * 21; omega⟩) (mg_200 G Z Y σ0) rfl rfl rfl hl.1 rfl (Nat.le_of_ble_eq_true rfl) dX12_saidUnit_1 ⟨Nat.zero_le _, Nat.zero_le _⟩ rfl (fun H locs hP hD hS => ?_)
  refine lv_istore_n (lv' := [(1, .int q1.1), (0, .ref (G.2.1 200))]) hx hb dX12_saidUnit_4 rfl hl (by decide) rfl (fun ls hl => ?_)
  refine lv_iload_n hx hb dX12_saidUnit_5 rfl (lv_at hl 0 rfl) ?_
  refine lv_bipush (v := 97) hx hb dX12_saidUnit_6 (by decide) ?_
  refine lv_icmp_lt (tgt := 36) hx hb dX12_saidUnit_8 (by decide) (fun c2 => ?_) (fun c2 => ?_)
  · skip
    have h := f_t c2 h
    refine lv_iload_n hx hb dX12_saidUnit_36 rfl (lv_at hl 0 rfl) ?_
    refine lv_bipush (v := 33) hx hb dX12_saidUnit_37 (by decide) ?_
    refine lv_icmp_eq (tgt := 54) hx hb dX12_saidUnit_39 (by decide) (fun c3 => ?_) (fun c3 => ?_)
    · skip
      have h := f_t c3 h
      refine lv_aload_n hx hb dX12_saidUnit_54 rfl (lv_at hl 1 rfl) ?_
      obtain ⟨q4, hq4, h⟩ := f_b h
      refine cl_V (w := (mW G Z Y q1.2)) (w' := (mW G Z Y q4.2)) (rv := some (.int q4.1)) (bytes := cX12_goesIn) (maxL := 1) (ret := (some .boolean)) (C := RX12) (As := []) (rest := []) (stk := [.int q4.1]) ⟨hx, hb, hml, hown, hts⟩ hK hE hA hP hD hS (c_X12_goesIn l D G Z Y q1.2 q4 hq4) (cwV 0 hts (gwV wd_1481 wd_1483 wp_55 wd_11 wd_1484) rfl rfl rfl hd_X12_goesIn ⟨by show 1 + 1 ≤ 2 + (d + 1); omega, by show 8 + (1 + 11) + 20 ≤ 51 + (d + 1) * 21; omega⟩) (mg_200 G Z Y q1.2) rfl rfl rfl hl.1 rfl (Nat.le_of_ble_eq_true rfl) dX12_saidUnit_55 ⟨Nat.zero_le _, Nat.zero_le _⟩ rfl (fun H locs hP hD hS => ?_)
      refine lv_if_ne (tgt := 62) hx hb dX12_saidUnit_58 (by decide) (fun c5 => ?_) (fun c5 => ?_)
      · skip
        have h := f_f c5 h
        refine lv_iload_n hx hb dX12_saidUnit_62 rfl (lv_at hl 0 rfl) ?_
        refine lv_bipush (v := 33) hx hb dX12_saidUnit_63 (by decide) ?_
        refine lv_icmp_ne (tgt := 89) hx hb dX12_saidUnit_65 (by decide) (fun c6 => ?_) (fun c6 => ?_)
        · skip
          have h := f_f c6 h
          refine lv_aload_n hx hb dX12_saidUnit_89 rfl (lv_at hl 1 rfl) ?_
          obtain ⟨q7, hq7, h⟩ := f_b h
          refine cl_V (w := (mW G Z Y q4.2)) (w' := (mW G Z Y q7.2)) (rv := none) (bytes := cX12_ors) (maxL := 1) (ret := none) (C := RX12) (As := []) (rest := []) (stk := []) ⟨hx, hb, hml, hown, hts⟩ hK hE hA hP hD hS (hu_X12_ors q4.2 q7 hq7) (cwV 0 hts (gwV wd_1456 wd_1458 wp_49 wd_11 wd_1459) rfl rfl rfl hd_X12_ors ⟨by show 2 + d + 1 ≤ 2 + (d + 1); omega, by show 8 + (1 + 11) + (51 + d * 21) ≤ 51 + (d + 1) * 21; omega⟩) (mg_200 G Z Y q4.2) rfl rfl rfl hl.1 rfl (Nat.le_of_ble_eq_true rfl) dX12_saidUnit_90 ⟨Nat.zero_le _, Nat.zero_le _⟩ rfl (fun H locs hP hD hS => ?_)
          refine lv_aload_n hx hb dX12_saidUnit_93 rfl (lv_at hl 1 rfl) ?_
          refine lv_bipush (v := 41) hx hb dX12_saidUnit_94 (by decide) ?_
          obtain ⟨q8, hq8, h⟩ := f_b h
          refine cl_V (w := (mW G Z Y q7.2)) (w' := (mW G Z Y q8.2)) (rv := some (.int q8.1)) (bytes := cX12_takes) (maxL := 2) (ret := (some .boolean)) (C := RX12) (As := [.int (41 : Int32)]) (rest := []) (stk := [.int q8.1]) ⟨hx, hb, hml, hown, hts⟩ hK hE hA hP hD hS (c_X12_takes l D G Z Y q7.2 F (41 : Int32) q8 hq8) (cwV 1 hts (gwV wd_1485 wd_1487 wp_56 wd_11 wd_1488) rfl rfl rfl hd_X12_takes ⟨by show 1 + 1 ≤ 2 + (d + 1); omega, by show 8 + (2 + 11) + 20 ≤ 51 + (d + 1) * 21; omega⟩) (mg_200 G Z Y q7.2) rfl rfl rfl hl.1 rfl (Nat.le_of_ble_eq_true rfl) dX12_saidUnit_96 ⟨Nat.zero_le _, Nat.zero_le _⟩ rfl (fun H locs hP hD hS => ?_)
          refine lv_if_ne (tgt := 103) hx hb dX12_saidUnit_99 (by decide) (fun c9 => ?_) (fun c9 => ?_)
          · skip
            have h := f_f c9 h
            refine lv_aload_n hx hb dX12_saidUnit_103 rfl (lv_at hl 1 rfl) ?_
            refine lv_dup hx hb dX12_saidUnit_104 rfl ?_
            refine va_get (D := D) (ci := 12) (v := .int (q8.2.1 200 8)) (C := RX12) (T := TX12) (N := 59) hx hb hts inU_X12 hown hK hP _ (mg_200 G Z Y q8.2) rfl 8 (by decide) (hts _ wd_1256) (fun _ h9 => h9) rfl dX12_saidUnit_105 ?_
            refine lv_iconst (v := 1) hx hb dX12_saidUnit_108 (by decide) ?_
            refine lv_isub hx hb dX12_saidUnit_109 ?_
            refine va_put (D := D) (ci := 12) (v := .int ((q8.2.1 200 8) - (1 : Int32))) (ty := .int) (C := RX12) (T := TX12) (N := 59) hx hb hts inU_X12 tyX12 tyX12_ok nmX12 hown hK hP hD hS _ (mg_200 G Z Y q8.2) rfl 8 (by decide) (hts _ wd_1256) (fun _ h9 => h9) rfl (by decide +kernel) rfl rfl (Nat.le_of_ble_eq_true rfl) dX12_saidUnit_110 (fun H locs hP hD hS => ?_)
            have hP := wrP (mp_200_8 G Z Y q8.2 ((q8.2.1 200 8) - (1 : Int32))) hP
            have hD := wrD (mp_200_8 G Z Y q8.2 ((q8.2.1 200 8) - (1 : Int32))) hD
            obtain rfl := Option.some.inj h
            exact W.vret hx hb hr (q_end hK hP hD hS) hS.2.2 dX12_saidUnit_113
          · skip
            have h := f_t c9 h
            obtain rfl := Option.some.inj h
            exact W.vret hx hb hr (q_end hK hP hD hS) hS.2.2 dX12_saidUnit_102
        · skip
          have h := f_t c6 h
          refine lv_aload_n hx hb dX12_saidUnit_68 rfl (lv_at hl 1 rfl) ?_
          obtain ⟨q10, hq10, h⟩ := f_b h
          refine cl_V (w := (mW G Z Y q4.2)) (w' := (mW G Z Y q10.2)) (rv := none) (bytes := cX12_saidUnit) (maxL := 2) (ret := none) (C := RX12) (As := []) (rest := []) (stk := []) ⟨hx, hb, hml, hown, hts⟩ hK hE hA hP hD hS (hu_X12_saidUnit q4.2 q10 hq10) (cwV 0 hts (gwV wd_1464 wd_1466 wp_51 wd_11 wd_1467) rfl rfl rfl hd_X12_saidUnit ⟨by show 2 + d + 1 ≤ 2 + (d + 1); omega, by show 8 + (2 + 11) + (51 + d * 21) ≤ 51 + (d + 1) * 21; omega⟩) (mg_200 G Z Y q4.2) rfl rfl rfl hl.1 rfl (Nat.le_of_ble_eq_true rfl) dX12_saidUnit_69 ⟨Nat.zero_le _, Nat.zero_le _⟩ rfl (fun H locs hP hD hS => ?_)
          refine lv_aload_n hx hb dX12_saidUnit_72 rfl (lv_at hl 1 rfl) ?_
          refine va_get (D := D) (ci := 12) (v := .int (q10.2.1 200 7)) (C := RX12) (T := TX12) (N := 59) hx hb hts inU_X12 hown hK hP _ (mg_200 G Z Y q10.2) rfl 7 (by decide) (hts _ wd_1255) (fun _ h9 => h9) rfl dX12_saidUnit_73 ?_
          refine lv_iconst (v := (-1)) hx hb dX12_saidUnit_76 (by decide) ?_
          refine lv_icmp_ne (tgt := 103) hx hb dX12_saidUnit_77 (by decide) (fun c11 => ?_) (fun c11 => ?_)
          · skip
            have h := f_f c11 h
            refine lv_aload_n hx hb dX12_saidUnit_103 rfl (lv_at hl 1 rfl) ?_
            refine lv_dup hx hb dX12_saidUnit_104 rfl ?_
            refine va_get (D := D) (ci := 12) (v := .int (q10.2.1 200 8)) (C := RX12) (T := TX12) (N := 59) hx hb hts inU_X12 hown hK hP _ (mg_200 G Z Y q10.2) rfl 8 (by decide) (hts _ wd_1256) (fun _ h9 => h9) rfl dX12_saidUnit_105 ?_
            refine lv_iconst (v := 1) hx hb dX12_saidUnit_108 (by decide) ?_
            refine lv_isub hx hb dX12_saidUnit_109 ?_
            refine va_put (D := D) (ci := 12) (v := .int ((q10.2.1 200 8) - (1 : Int32))) (ty := .int) (C := RX12) (T := TX12) (N := 59) hx hb hts inU_X12 tyX12 tyX12_ok nmX12 hown hK hP hD hS _ (mg_200 G Z Y q10.2) rfl 8 (by decide) (hts _ wd_1256) (fun _ h9 => h9) rfl (by decide +kernel) rfl rfl (Nat.le_of_ble_eq_true rfl) dX12_saidUnit_110 (fun H locs hP hD hS => ?_)
            have hP := wrP (mp_200_8 G Z Y q10.2 ((q10.2.1 200 8) - (1 : Int32))) hP
            have hD := wrD (mp_200_8 G Z Y q10.2 ((q10.2.1 200 8) - (1 : Int32))) hD
            obtain rfl := Option.some.inj h
            exact W.vret hx hb hr (q_end hK hP hD hS) hS.2.2 dX12_saidUnit_113
          · skip
            have h := f_t c11 h
            refine lv_aload_n hx hb dX12_saidUnit_80 rfl (lv_at hl 1 rfl) ?_
            refine lv_bipush (v := 6) hx hb dX12_saidUnit_81 (by decide) ?_
            obtain ⟨q12, hq12, h⟩ := f_b h
            refine cl_V (w := (mW G Z Y q10.2)) (w' := (mW G Z Y q12.2)) (rv := none) (bytes := cX12_sign) (maxL := 2) (ret := none) (C := RX12) (As := [.int (6 : Int32)]) (rest := []) (stk := []) ⟨hx, hb, hml, hown, hts⟩ hK hE hA hP hD hS (c_X12_sign l D G Z Y q10.2 (6 : Int32) q12 hq12) (cwV 1 hts (gwV wd_1472 wd_1474 wp_53 wd_11 wd_1475) rfl rfl rfl hd_X12_sign ⟨by show 1 + 1 ≤ 2 + (d + 1); omega, by show 8 + (2 + 11) + 30 ≤ 51 + (d + 1) * 21; omega⟩) (mg_200 G Z Y q10.2) rfl rfl rfl hl.1 rfl (Nat.le_of_ble_eq_true rfl) dX12_saidUnit_83 ⟨Nat.zero_le _, Nat.zero_le _⟩ rfl (fun H locs hP hD hS => ?_)
            refine lv_goto (tgt := 103) hx hb dX12_saidUnit_86 (by decide) ?_
            refine lv_aload_n hx hb dX12_saidUnit_103 rfl (lv_at hl 1 rfl) ?_
            refine lv_dup hx hb dX12_saidUnit_104 rfl ?_
            refine va_get (D := D) (ci := 12) (v := .int (q12.2.1 200 8)) (C := RX12) (T := TX12) (N := 59) hx hb hts inU_X12 hown hK hP _ (mg_200 G Z Y q12.2) rfl 8 (by decide) (hts _ wd_1256) (fun _ h9 => h9) rfl dX12_saidUnit_105 ?_
            refine lv_iconst (v := 1) hx hb dX12_saidUnit_108 (by decide) ?_
            refine lv_isub hx hb dX12_saidUnit_109 ?_
            refine va_put (D := D) (ci := 12) (v := .int ((q12.2.1 200 8) - (1 : Int32))) (ty := .int) (C := RX12) (T := TX12) (N := 59) hx hb hts inU_X12 tyX12 tyX12_ok nmX12 hown hK hP hD hS _ (mg_200 G Z Y q12.2) rfl 8 (by decide) (hts _ wd_1256) (fun _ h9 => h9) rfl (by decide +kernel) rfl rfl (Nat.le_of_ble_eq_true rfl) dX12_saidUnit_110 (fun H locs hP hD hS => ?_)
            have hP := wrP (mp_200_8 G Z Y q12.2 ((q12.2.1 200 8) - (1 : Int32))) hP
            have hD := wrD (mp_200_8 G Z Y q12.2 ((q12.2.1 200 8) - (1 : Int32))) hD
            obtain rfl := Option.some.inj h
            exact W.vret hx hb hr (q_end hK hP hD hS) hS.2.2 dX12_saidUnit_113
      · skip
        have h := f_t c5 h
        obtain rfl := Option.some.inj h
        exact W.vret hx hb hr (q_end hK hP hD hS) hS.2.2 dX12_saidUnit_61
    · skip
      have h := f_f c3 h
      refine lv_iload_n hx hb dX12_saidUnit_42 rfl (lv_at hl 0 rfl) ?_
      refine lv_bipush (v := 40) hx hb dX12_saidUnit_43 (by decide) ?_
      refine lv_icmp_eq (tgt := 54) hx hb dX12_saidUnit_45 (by decide) (fun c13 => ?_) (fun c13 => ?_)
      · skip
        have h := f_t c13 h
        refine lv_aload_n hx hb dX12_saidUnit_54 rfl (lv_at hl 1 rfl) ?_
        obtain ⟨q14, hq14, h⟩ := f_b h
        refine cl_V (w := (mW G Z Y q1.2)) (w' := (mW G Z Y q14.2)) (rv := some (.int q14.1)) (bytes := cX12_goesIn) (maxL := 1) (ret := (some .boolean)) (C := RX12) (As := []) (rest := []) (stk := [.int q14.1]) ⟨hx, hb, hml, hown, hts⟩ hK hE hA hP hD hS (c_X12_goesIn l D G Z Y q1.2 q14 hq14) (cwV 0 hts (gwV wd_1481 wd_1483 wp_55 wd_11 wd_1484) rfl rfl rfl hd_X12_goesIn ⟨by show 1 + 1 ≤ 2 + (d + 1); omega, by show 8 + (1 + 11) + 20 ≤ 51 + (d + 1) * 21; omega⟩) (mg_200 G Z Y q1.2) rfl rfl rfl hl.1 rfl (Nat.le_of_ble_eq_true rfl) dX12_saidUnit_55 ⟨Nat.zero_le _, Nat.zero_le _⟩ rfl (fun H locs hP hD hS => ?_)
        refine lv_if_ne (tgt := 62) hx hb dX12_saidUnit_58 (by decide) (fun c15 => ?_) (fun c15 => ?_)
        · skip
          have h := f_f c15 h
          refine lv_iload_n hx hb dX12_saidUnit_62 rfl (lv_at hl 0 rfl) ?_
          refine lv_bipush (v := 33) hx hb dX12_saidUnit_63 (by decide) ?_
          refine lv_icmp_ne (tgt := 89) hx hb dX12_saidUnit_65 (by decide) (fun c16 => ?_) (fun c16 => ?_)
          · skip
            have h := f_f c16 h
            refine lv_aload_n hx hb dX12_saidUnit_89 rfl (lv_at hl 1 rfl) ?_
            obtain ⟨q17, hq17, h⟩ := f_b h
            refine cl_V (w := (mW G Z Y q14.2)) (w' := (mW G Z Y q17.2)) (rv := none) (bytes := cX12_ors) (maxL := 1) (ret := none) (C := RX12) (As := []) (rest := []) (stk := []) ⟨hx, hb, hml, hown, hts⟩ hK hE hA hP hD hS (hu_X12_ors q14.2 q17 hq17) (cwV 0 hts (gwV wd_1456 wd_1458 wp_49 wd_11 wd_1459) rfl rfl rfl hd_X12_ors ⟨by show 2 + d + 1 ≤ 2 + (d + 1); omega, by show 8 + (1 + 11) + (51 + d * 21) ≤ 51 + (d + 1) * 21; omega⟩) (mg_200 G Z Y q14.2) rfl rfl rfl hl.1 rfl (Nat.le_of_ble_eq_true rfl) dX12_saidUnit_90 ⟨Nat.zero_le _, Nat.zero_le _⟩ rfl (fun H locs hP hD hS => ?_)
            refine lv_aload_n hx hb dX12_saidUnit_93 rfl (lv_at hl 1 rfl) ?_
            refine lv_bipush (v := 41) hx hb dX12_saidUnit_94 (by decide) ?_
            obtain ⟨q18, hq18, h⟩ := f_b h
            refine cl_V (w := (mW G Z Y q17.2)) (w' := (mW G Z Y q18.2)) (rv := some (.int q18.1)) (bytes := cX12_takes) (maxL := 2) (ret := (some .boolean)) (C := RX12) (As := [.int (41 : Int32)]) (rest := []) (stk := [.int q18.1]) ⟨hx, hb, hml, hown, hts⟩ hK hE hA hP hD hS (c_X12_takes l D G Z Y q17.2 F (41 : Int32) q18 hq18) (cwV 1 hts (gwV wd_1485 wd_1487 wp_56 wd_11 wd_1488) rfl rfl rfl hd_X12_takes ⟨by show 1 + 1 ≤ 2 + (d + 1); omega, by show 8 + (2 + 11) + 20 ≤ 51 + (d + 1) * 21; omega⟩) (mg_200 G Z Y q17.2) rfl rfl rfl hl.1 rfl (Nat.le_of_ble_eq_true rfl) dX12_saidUnit_96 ⟨Nat.zero_le _, Nat.zero_le _⟩ rfl (fun H locs hP hD hS => ?_)
            refine lv_if_ne (tgt := 103) hx hb dX12_saidUnit_99 (by decide) (fun c19 => ?_) (fun c19 => ?_)
            · skip
              have h := f_f c19 h
              refine lv_aload_n hx hb dX12_saidUnit_103 rfl (lv_at hl 1 rfl) ?_
              refine lv_dup hx hb dX12_saidUnit_104 rfl ?_
              refine va_get (D := D) (ci := 12) (v := .int (q18.2.1 200 8)) (C := RX12) (T := TX12) (N := 59) hx hb hts inU_X12 hown hK hP _ (mg_200 G Z Y q18.2) rfl 8 (by decide) (hts _ wd_1256) (fun _ h9 => h9) rfl dX12_saidUnit_105 ?_
              refine lv_iconst (v := 1) hx hb dX12_saidUnit_108 (by decide) ?_
              refine lv_isub hx hb dX12_saidUnit_109 ?_
              refine va_put (D := D) (ci := 12) (v := .int ((q18.2.1 200 8) - (1 : Int32))) (ty := .int) (C := RX12) (T := TX12) (N := 59) hx hb hts inU_X12 tyX12 tyX12_ok nmX12 hown hK hP hD hS _ (mg_200 G Z Y q18.2) rfl 8 (by decide) (hts _ wd_1256) (fun _ h9 => h9) rfl (by decide +kernel) rfl rfl (Nat.le_of_ble_eq_true rfl) dX12_saidUnit_110 (fun H locs hP hD hS => ?_)
              have hP := wrP (mp_200_8 G Z Y q18.2 ((q18.2.1 200 8) - (1 : Int32))) hP
              have hD := wrD (mp_200_8 G Z Y q18.2 ((q18.2.1 200 8) - (1 : Int32))) hD
              obtain rfl := Option.some.inj h
              exact W.vret hx hb hr (q_end hK hP hD hS) hS.2.2 dX12_saidUnit_113
            · skip
              have h := f_t c19 h
              obtain rfl := Option.some.inj h
              exact W.vret hx hb hr (q_end hK hP hD hS) hS.2.2 dX12_saidUnit_102
          · skip
            have h := f_t c16 h
            refine lv_aload_n hx hb dX12_saidUnit_68 rfl (lv_at hl 1 rfl) ?_
            obtain ⟨q20, hq20, h⟩ := f_b h
            refine cl_V (w := (mW G Z Y q14.2)) (w' := (mW G Z Y q20.2)) (rv := none) (bytes := cX12_saidUnit) (maxL := 2) (ret := none) (C := RX12) (As := []) (rest := []) (stk := []) ⟨hx, hb, hml, hown, hts⟩ hK hE hA hP hD hS (hu_X12_saidUnit q14.2 q20 hq20) (cwV 0 hts (gwV wd_1464 wd_1466 wp_51 wd_11 wd_1467) rfl rfl rfl hd_X12_saidUnit ⟨by show 2 + d + 1 ≤ 2 + (d + 1); omega, by show 8 + (2 + 11) + (51 + d * 21) ≤ 51 + (d + 1) * 21; omega⟩) (mg_200 G Z Y q14.2) rfl rfl rfl hl.1 rfl (Nat.le_of_ble_eq_true rfl) dX12_saidUnit_69 ⟨Nat.zero_le _, Nat.zero_le _⟩ rfl (fun H locs hP hD hS => ?_)
            refine lv_aload_n hx hb dX12_saidUnit_72 rfl (lv_at hl 1 rfl) ?_
            refine va_get (D := D) (ci := 12) (v := .int (q20.2.1 200 7)) (C := RX12) (T := TX12) (N := 59) hx hb hts inU_X12 hown hK hP _ (mg_200 G Z Y q20.2) rfl 7 (by decide) (hts _ wd_1255) (fun _ h9 => h9) rfl dX12_saidUnit_73 ?_
            refine lv_iconst (v := (-1)) hx hb dX12_saidUnit_76 (by decide) ?_
            refine lv_icmp_ne (tgt := 103) hx hb dX12_saidUnit_77 (by decide) (fun c21 => ?_) (fun c21 => ?_)
            · skip
              have h := f_f c21 h
              refine lv_aload_n hx hb dX12_saidUnit_103 rfl (lv_at hl 1 rfl) ?_
              refine lv_dup hx hb dX12_saidUnit_104 rfl ?_
              refine va_get (D := D) (ci := 12) (v := .int (q20.2.1 200 8)) (C := RX12) (T := TX12) (N := 59) hx hb hts inU_X12 hown hK hP _ (mg_200 G Z Y q20.2) rfl 8 (by decide) (hts _ wd_1256) (fun _ h9 => h9) rfl dX12_saidUnit_105 ?_
              refine lv_iconst (v := 1) hx hb dX12_saidUnit_108 (by decide) ?_
              refine lv_isub hx hb dX12_saidUnit_109 ?_
              refine va_put (D := D) (ci := 12) (v := .int ((q20.2.1 200 8) - (1 : Int32))) (ty := .int) (C := RX12) (T := TX12) (N := 59) hx hb hts inU_X12 tyX12 tyX12_ok nmX12 hown hK hP hD hS _ (mg_200 G Z Y q20.2) rfl 8 (by decide) (hts _ wd_1256) (fun _ h9 => h9) rfl (by decide +kernel) rfl rfl (Nat.le_of_ble_eq_true rfl) dX12_saidUnit_110 (fun H locs hP hD hS => ?_)
              have hP := wrP (mp_200_8 G Z Y q20.2 ((q20.2.1 200 8) - (1 : Int32))) hP
              have hD := wrD (mp_200_8 G Z Y q20.2 ((q20.2.1 200 8) - (1 : Int32))) hD
              obtain rfl := Option.some.inj h
              exact W.vret hx hb hr (q_end hK hP hD hS) hS.2.2 dX12_saidUnit_113
            · skip
              have h := f_t c21 h
              refine lv_aload_n hx hb dX12_saidUnit_80 rfl (lv_at hl 1 rfl) ?_
              refine lv_bipush (v := 6) hx hb dX12_saidUnit_81 (by decide) ?_
              obtain ⟨q22, hq22, h⟩ := f_b h
              refine cl_V (w := (mW G Z Y q20.2)) (w' := (mW G Z Y q22.2)) (rv := none) (bytes := cX12_sign) (maxL := 2) (ret := none) (C := RX12) (As := [.int (6 : Int32)]) (rest := []) (stk := []) ⟨hx, hb, hml, hown, hts⟩ hK hE hA hP hD hS (c_X12_sign l D G Z Y q20.2 (6 : Int32) q22 hq22) (cwV 1 hts (gwV wd_1472 wd_1474 wp_53 wd_11 wd_1475) rfl rfl rfl hd_X12_sign ⟨by show 1 + 1 ≤ 2 + (d + 1); omega, by show 8 + (2 + 11) + 30 ≤ 51 + (d + 1) * 21; omega⟩) (mg_200 G Z Y q20.2) rfl rfl rfl hl.1 rfl (Nat.le_of_ble_eq_true rfl) dX12_saidUnit_83 ⟨Nat.zero_le _, Nat.zero_le _⟩ rfl (fun H locs hP hD hS => ?_)
              refine lv_goto (tgt := 103) hx hb dX12_saidUnit_86 (by decide) ?_
              refine lv_aload_n hx hb dX12_saidUnit_103 rfl (lv_at hl 1 rfl) ?_
              refine lv_dup hx hb dX12_saidUnit_104 rfl ?_
              refine va_get (D := D) (ci := 12) (v := .int (q22.2.1 200 8)) (C := RX12) (T := TX12) (N := 59) hx hb hts inU_X12 hown hK hP _ (mg_200 G Z Y q22.2) rfl 8 (by decide) (hts _ wd_1256) (fun _ h9 => h9) rfl dX12_saidUnit_105 ?_
              refine lv_iconst (v := 1) hx hb dX12_saidUnit_108 (by decide) ?_
              refine lv_isub hx hb dX12_saidUnit_109 ?_
              refine va_put (D := D) (ci := 12) (v := .int ((q22.2.1 200 8) - (1 : Int32))) (ty := .int) (C := RX12) (T := TX12) (N := 59) hx hb hts inU_X12 tyX12 tyX12_ok nmX12 hown hK hP hD hS _ (mg_200 G Z Y q22.2) rfl 8 (by decide) (hts _ wd_1256) (fun _ h9 => h9) rfl (by decide +kernel) rfl rfl (Nat.le_of_ble_eq_true rfl) dX12_saidUnit_110 (fun H locs hP hD hS => ?_)
              have hP := wrP (mp_200_8 G Z Y q22.2 ((q22.2.1 200 8) - (1 : Int32))) hP
              have hD := wrD (mp_200_8 G Z Y q22.2 ((q22.2.1 200 8) - (1 : Int32))) hD
              obtain rfl := Option.some.inj h
              exact W.vret hx hb hr (q_end hK hP hD hS) hS.2.2 dX12_saidUnit_113
        · skip
          have h := f_t c15 h
          obtain rfl := Option.some.inj h
          exact W.vret hx hb hr (q_end hK hP hD hS) hS.2.2 dX12_saidUnit_61
      · skip
        have h := f_f c13 h
        refine lv_aload_n hx hb dX12_saidUnit_48 rfl (lv_at hl 1 rfl) ?_
        obtain ⟨q23, hq23, h⟩ := f_b h
        refine cl_V (w := (mW G Z Y q1.2)) (w' := (mW G Z Y q23.2)) (rv := some (.int q23.1)) (bytes := cX12_fails) (maxL := 1) (ret := (some .boolean)) (C := RX12) (As := []) (rest := []) (stk := [.int q23.1]) ⟨hx, hb, hml, hown, hts⟩ hK hE hA hP hD hS (c_X12_fails l D G Z Y q1.2 q23 hq23) (cwV 0 hts (gwV wd_1477 wd_1479 wp_54 wd_11 wd_1480) rfl rfl rfl hd_X12_fails ⟨by show 0 + 1 ≤ 2 + (d + 1); omega, by show 8 + (1 + 11) + 0 ≤ 51 + (d + 1) * 21; omega⟩) (mg_200 G Z Y q1.2) rfl rfl rfl hl.1 rfl (Nat.le_of_ble_eq_true rfl) dX12_saidUnit_49 ⟨Nat.zero_le _, Nat.zero_le _⟩ rfl (fun H locs hP hD hS => ?_)
        refine lv_pop hx hb dX12_saidUnit_52 rfl ?_
        obtain rfl := Option.some.inj h
        exact W.vret hx hb hr (q_end hK hP hD hS) hS.2.2 dX12_saidUnit_53
  · skip
    have h := f_f c2 h
    refine lv_iload_n hx hb dX12_saidUnit_11 rfl (lv_at hl 0 rfl) ?_
    refine lv_bipush (v := 102) hx hb dX12_saidUnit_12 (by decide) ?_
    refine lv_icmp_gt (tgt := 36) hx hb dX12_saidUnit_14 (by decide) (fun c24 => ?_) (fun c24 => ?_)
    · skip
      have h := f_t c24 h
      refine lv_iload_n hx hb dX12_saidUnit_36 rfl (lv_at hl 0 rfl) ?_
      refine lv_bipush (v := 33) hx hb dX12_saidUnit_37 (by decide) ?_
      refine lv_icmp_eq (tgt := 54) hx hb dX12_saidUnit_39 (by decide) (fun c25 => ?_) (fun c25 => ?_)
      · skip
        have h := f_t c25 h
        refine lv_aload_n hx hb dX12_saidUnit_54 rfl (lv_at hl 1 rfl) ?_
        obtain ⟨q26, hq26, h⟩ := f_b h
        refine cl_V (w := (mW G Z Y q1.2)) (w' := (mW G Z Y q26.2)) (rv := some (.int q26.1)) (bytes := cX12_goesIn) (maxL := 1) (ret := (some .boolean)) (C := RX12) (As := []) (rest := []) (stk := [.int q26.1]) ⟨hx, hb, hml, hown, hts⟩ hK hE hA hP hD hS (c_X12_goesIn l D G Z Y q1.2 q26 hq26) (cwV 0 hts (gwV wd_1481 wd_1483 wp_55 wd_11 wd_1484) rfl rfl rfl hd_X12_goesIn ⟨by show 1 + 1 ≤ 2 + (d + 1); omega, by show 8 + (1 + 11) + 20 ≤ 51 + (d + 1) * 21; omega⟩) (mg_200 G Z Y q1.2) rfl rfl rfl hl.1 rfl (Nat.le_of_ble_eq_true rfl) dX12_saidUnit_55 ⟨Nat.zero_le _, Nat.zero_le _⟩ rfl (fun H locs hP hD hS => ?_)
        refine lv_if_ne (tgt := 62) hx hb dX12_saidUnit_58 (by decide) (fun c27 => ?_) (fun c27 => ?_)
        · skip
          have h := f_f c27 h
          refine lv_iload_n hx hb dX12_saidUnit_62 rfl (lv_at hl 0 rfl) ?_
          refine lv_bipush (v := 33) hx hb dX12_saidUnit_63 (by decide) ?_
          refine lv_icmp_ne (tgt := 89) hx hb dX12_saidUnit_65 (by decide) (fun c28 => ?_) (fun c28 => ?_)
          · skip
            have h := f_f c28 h
            refine lv_aload_n hx hb dX12_saidUnit_89 rfl (lv_at hl 1 rfl) ?_
            obtain ⟨q29, hq29, h⟩ := f_b h
            refine cl_V (w := (mW G Z Y q26.2)) (w' := (mW G Z Y q29.2)) (rv := none) (bytes := cX12_ors) (maxL := 1) (ret := none) (C := RX12) (As := []) (rest := []) (stk := []) ⟨hx, hb, hml, hown, hts⟩ hK hE hA hP hD hS (hu_X12_ors q26.2 q29 hq29) (cwV 0 hts (gwV wd_1456 wd_1458 wp_49 wd_11 wd_1459) rfl rfl rfl hd_X12_ors ⟨by show 2 + d + 1 ≤ 2 + (d + 1); omega, by show 8 + (1 + 11) + (51 + d * 21) ≤ 51 + (d + 1) * 21; omega⟩) (mg_200 G Z Y q26.2) rfl rfl rfl hl.1 rfl (Nat.le_of_ble_eq_true rfl) dX12_saidUnit_90 ⟨Nat.zero_le _, Nat.zero_le _⟩ rfl (fun H locs hP hD hS => ?_)
            refine lv_aload_n hx hb dX12_saidUnit_93 rfl (lv_at hl 1 rfl) ?_
            refine lv_bipush (v := 41) hx hb dX12_saidUnit_94 (by decide) ?_
            obtain ⟨q30, hq30, h⟩ := f_b h
            refine cl_V (w := (mW G Z Y q29.2)) (w' := (mW G Z Y q30.2)) (rv := some (.int q30.1)) (bytes := cX12_takes) (maxL := 2) (ret := (some .boolean)) (C := RX12) (As := [.int (41 : Int32)]) (rest := []) (stk := [.int q30.1]) ⟨hx, hb, hml, hown, hts⟩ hK hE hA hP hD hS (c_X12_takes l D G Z Y q29.2 F (41 : Int32) q30 hq30) (cwV 1 hts (gwV wd_1485 wd_1487 wp_56 wd_11 wd_1488) rfl rfl rfl hd_X12_takes ⟨by show 1 + 1 ≤ 2 + (d + 1); omega, by show 8 + (2 + 11) + 20 ≤ 51 + (d + 1) * 21; omega⟩) (mg_200 G Z Y q29.2) rfl rfl rfl hl.1 rfl (Nat.le_of_ble_eq_true rfl) dX12_saidUnit_96 ⟨Nat.zero_le _, Nat.zero_le _⟩ rfl (fun H locs hP hD hS => ?_)
            refine lv_if_ne (tgt := 103) hx hb dX12_saidUnit_99 (by decide) (fun c31 => ?_) (fun c31 => ?_)
            · skip
              have h := f_f c31 h
              refine lv_aload_n hx hb dX12_saidUnit_103 rfl (lv_at hl 1 rfl) ?_
              refine lv_dup hx hb dX12_saidUnit_104 rfl ?_
              refine va_get (D := D) (ci := 12) (v := .int (q30.2.1 200 8)) (C := RX12) (T := TX12) (N := 59) hx hb hts inU_X12 hown hK hP _ (mg_200 G Z Y q30.2) rfl 8 (by decide) (hts _ wd_1256) (fun _ h9 => h9) rfl dX12_saidUnit_105 ?_
              refine lv_iconst (v := 1) hx hb dX12_saidUnit_108 (by decide) ?_
              refine lv_isub hx hb dX12_saidUnit_109 ?_
              refine va_put (D := D) (ci := 12) (v := .int ((q30.2.1 200 8) - (1 : Int32))) (ty := .int) (C := RX12) (T := TX12) (N := 59) hx hb hts inU_X12 tyX12 tyX12_ok nmX12 hown hK hP hD hS _ (mg_200 G Z Y q30.2) rfl 8 (by decide) (hts _ wd_1256) (fun _ h9 => h9) rfl (by decide +kernel) rfl rfl (Nat.le_of_ble_eq_true rfl) dX12_saidUnit_110 (fun H locs hP hD hS => ?_)
              have hP := wrP (mp_200_8 G Z Y q30.2 ((q30.2.1 200 8) - (1 : Int32))) hP
              have hD := wrD (mp_200_8 G Z Y q30.2 ((q30.2.1 200 8) - (1 : Int32))) hD
              obtain rfl := Option.some.inj h
              exact W.vret hx hb hr (q_end hK hP hD hS) hS.2.2 dX12_saidUnit_113
            · skip
              have h := f_t c31 h
              obtain rfl := Option.some.inj h
              exact W.vret hx hb hr (q_end hK hP hD hS) hS.2.2 dX12_saidUnit_102
          · skip
            have h := f_t c28 h
            refine lv_aload_n hx hb dX12_saidUnit_68 rfl (lv_at hl 1 rfl) ?_
            obtain ⟨q32, hq32, h⟩ := f_b h
            refine cl_V (w := (mW G Z Y q26.2)) (w' := (mW G Z Y q32.2)) (rv := none) (bytes := cX12_saidUnit) (maxL := 2) (ret := none) (C := RX12) (As := []) (rest := []) (stk := []) ⟨hx, hb, hml, hown, hts⟩ hK hE hA hP hD hS (hu_X12_saidUnit q26.2 q32 hq32) (cwV 0 hts (gwV wd_1464 wd_1466 wp_51 wd_11 wd_1467) rfl rfl rfl hd_X12_saidUnit ⟨by show 2 + d + 1 ≤ 2 + (d + 1); omega, by show 8 + (2 + 11) + (51 + d * 21) ≤ 51 + (d + 1) * 21; omega⟩) (mg_200 G Z Y q26.2) rfl rfl rfl hl.1 rfl (Nat.le_of_ble_eq_true rfl) dX12_saidUnit_69 ⟨Nat.zero_le _, Nat.zero_le _⟩ rfl (fun H locs hP hD hS => ?_)
            refine lv_aload_n hx hb dX12_saidUnit_72 rfl (lv_at hl 1 rfl) ?_
            refine va_get (D := D) (ci := 12) (v := .int (q32.2.1 200 7)) (C := RX12) (T := TX12) (N := 59) hx hb hts inU_X12 hown hK hP _ (mg_200 G Z Y q32.2) rfl 7 (by decide) (hts _ wd_1255) (fun _ h9 => h9) rfl dX12_saidUnit_73 ?_
            refine lv_iconst (v := (-1)) hx hb dX12_saidUnit_76 (by decide) ?_
            refine lv_icmp_ne (tgt := 103) hx hb dX12_saidUnit_77 (by decide) (fun c33 => ?_) (fun c33 => ?_)
            · skip
              have h := f_f c33 h
              refine lv_aload_n hx hb dX12_saidUnit_103 rfl (lv_at hl 1 rfl) ?_
              refine lv_dup hx hb dX12_saidUnit_104 rfl ?_
              refine va_get (D := D) (ci := 12) (v := .int (q32.2.1 200 8)) (C := RX12) (T := TX12) (N := 59) hx hb hts inU_X12 hown hK hP _ (mg_200 G Z Y q32.2) rfl 8 (by decide) (hts _ wd_1256) (fun _ h9 => h9) rfl dX12_saidUnit_105 ?_
              refine lv_iconst (v := 1) hx hb dX12_saidUnit_108 (by decide) ?_
              refine lv_isub hx hb dX12_saidUnit_109 ?_
              refine va_put (D := D) (ci := 12) (v := .int ((q32.2.1 200 8) - (1 : Int32))) (ty := .int) (C := RX12) (T := TX12) (N := 59) hx hb hts inU_X12 tyX12 tyX12_ok nmX12 hown hK hP hD hS _ (mg_200 G Z Y q32.2) rfl 8 (by decide) (hts _ wd_1256) (fun _ h9 => h9) rfl (by decide +kernel) rfl rfl (Nat.le_of_ble_eq_true rfl) dX12_saidUnit_110 (fun H locs hP hD hS => ?_)
              have hP := wrP (mp_200_8 G Z Y q32.2 ((q32.2.1 200 8) - (1 : Int32))) hP
              have hD := wrD (mp_200_8 G Z Y q32.2 ((q32.2.1 200 8) - (1 : Int32))) hD
              obtain rfl := Option.some.inj h
              exact W.vret hx hb hr (q_end hK hP hD hS) hS.2.2 dX12_saidUnit_113
            · skip
              have h := f_t c33 h
              refine lv_aload_n hx hb dX12_saidUnit_80 rfl (lv_at hl 1 rfl) ?_
              refine lv_bipush (v := 6) hx hb dX12_saidUnit_81 (by decide) ?_
              obtain ⟨q34, hq34, h⟩ := f_b h
              refine cl_V (w := (mW G Z Y q32.2)) (w' := (mW G Z Y q34.2)) (rv := none) (bytes := cX12_sign) (maxL := 2) (ret := none) (C := RX12) (As := [.int (6 : Int32)]) (rest := []) (stk := []) ⟨hx, hb, hml, hown, hts⟩ hK hE hA hP hD hS (c_X12_sign l D G Z Y q32.2 (6 : Int32) q34 hq34) (cwV 1 hts (gwV wd_1472 wd_1474 wp_53 wd_11 wd_1475) rfl rfl rfl hd_X12_sign ⟨by show 1 + 1 ≤ 2 + (d + 1); omega, by show 8 + (2 + 11) + 30 ≤ 51 + (d + 1) * 21; omega⟩) (mg_200 G Z Y q32.2) rfl rfl rfl hl.1 rfl (Nat.le_of_ble_eq_true rfl) dX12_saidUnit_83 ⟨Nat.zero_le _, Nat.zero_le _⟩ rfl (fun H locs hP hD hS => ?_)
              refine lv_goto (tgt := 103) hx hb dX12_saidUnit_86 (by decide) ?_
              refine lv_aload_n hx hb dX12_saidUnit_103 rfl (lv_at hl 1 rfl) ?_
              refine lv_dup hx hb dX12_saidUnit_104 rfl ?_
              refine va_get (D := D) (ci := 12) (v := .int (q34.2.1 200 8)) (C := RX12) (T := TX12) (N := 59) hx hb hts inU_X12 hown hK hP _ (mg_200 G Z Y q34.2) rfl 8 (by decide) (hts _ wd_1256) (fun _ h9 => h9) rfl dX12_saidUnit_105 ?_
              refine lv_iconst (v := 1) hx hb dX12_saidUnit_108 (by decide) ?_
              refine lv_isub hx hb dX12_saidUnit_109 ?_
              refine va_put (D := D) (ci := 12) (v := .int ((q34.2.1 200 8) - (1 : Int32))) (ty := .int) (C := RX12) (T := TX12) (N := 59) hx hb hts inU_X12 tyX12 tyX12_ok nmX12 hown hK hP hD hS _ (mg_200 G Z Y q34.2) rfl 8 (by decide) (hts _ wd_1256) (fun _ h9 => h9) rfl (by decide +kernel) rfl rfl (Nat.le_of_ble_eq_true rfl) dX12_saidUnit_110 (fun H locs hP hD hS => ?_)
              have hP := wrP (mp_200_8 G Z Y q34.2 ((q34.2.1 200 8) - (1 : Int32))) hP
              have hD := wrD (mp_200_8 G Z Y q34.2 ((q34.2.1 200 8) - (1 : Int32))) hD
              obtain rfl := Option.some.inj h
              exact W.vret hx hb hr (q_end hK hP hD hS) hS.2.2 dX12_saidUnit_113
        · skip
          have h := f_t c27 h
          obtain rfl := Option.some.inj h
          exact W.vret hx hb hr (q_end hK hP hD hS) hS.2.2 dX12_saidUnit_61
      · skip
        have h := f_f c25 h
        refine lv_iload_n hx hb dX12_saidUnit_42 rfl (lv_at hl 0 rfl) ?_
        refine lv_bipush (v := 40) hx hb dX12_saidUnit_43 (by decide) ?_
        refine lv_icmp_eq (tgt := 54) hx hb dX12_saidUnit_45 (by decide) (fun c35 => ?_) (fun c35 => ?_)
        · skip
          have h := f_t c35 h
          refine lv_aload_n hx hb dX12_saidUnit_54 rfl (lv_at hl 1 rfl) ?_
          obtain ⟨q36, hq36, h⟩ := f_b h
          refine cl_V (w := (mW G Z Y q1.2)) (w' := (mW G Z Y q36.2)) (rv := some (.int q36.1)) (bytes := cX12_goesIn) (maxL := 1) (ret := (some .boolean)) (C := RX12) (As := []) (rest := []) (stk := [.int q36.1]) ⟨hx, hb, hml, hown, hts⟩ hK hE hA hP hD hS (c_X12_goesIn l D G Z Y q1.2 q36 hq36) (cwV 0 hts (gwV wd_1481 wd_1483 wp_55 wd_11 wd_1484) rfl rfl rfl hd_X12_goesIn ⟨by show 1 + 1 ≤ 2 + (d + 1); omega, by show 8 + (1 + 11) + 20 ≤ 51 + (d + 1) * 21; omega⟩) (mg_200 G Z Y q1.2) rfl rfl rfl hl.1 rfl (Nat.le_of_ble_eq_true rfl) dX12_saidUnit_55 ⟨Nat.zero_le _, Nat.zero_le _⟩ rfl (fun H locs hP hD hS => ?_)
          refine lv_if_ne (tgt := 62) hx hb dX12_saidUnit_58 (by decide) (fun c37 => ?_) (fun c37 => ?_)
          · skip
            have h := f_f c37 h
            refine lv_iload_n hx hb dX12_saidUnit_62 rfl (lv_at hl 0 rfl) ?_
            refine lv_bipush (v := 33) hx hb dX12_saidUnit_63 (by decide) ?_
            refine lv_icmp_ne (tgt := 89) hx hb dX12_saidUnit_65 (by decide) (fun c38 => ?_) (fun c38 => ?_)
            · skip
              have h := f_f c38 h
              refine lv_aload_n hx hb dX12_saidUnit_89 rfl (lv_at hl 1 rfl) ?_
              obtain ⟨q39, hq39, h⟩ := f_b h
              refine cl_V (w := (mW G Z Y q36.2)) (w' := (mW G Z Y q39.2)) (rv := none) (bytes := cX12_ors) (maxL := 1) (ret := none) (C := RX12) (As := []) (rest := []) (stk := []) ⟨hx, hb, hml, hown, hts⟩ hK hE hA hP hD hS (hu_X12_ors q36.2 q39 hq39) (cwV 0 hts (gwV wd_1456 wd_1458 wp_49 wd_11 wd_1459) rfl rfl rfl hd_X12_ors ⟨by show 2 + d + 1 ≤ 2 + (d + 1); omega, by show 8 + (1 + 11) + (51 + d * 21) ≤ 51 + (d + 1) * 21; omega⟩) (mg_200 G Z Y q36.2) rfl rfl rfl hl.1 rfl (Nat.le_of_ble_eq_true rfl) dX12_saidUnit_90 ⟨Nat.zero_le _, Nat.zero_le _⟩ rfl (fun H locs hP hD hS => ?_)
              refine lv_aload_n hx hb dX12_saidUnit_93 rfl (lv_at hl 1 rfl) ?_
              refine lv_bipush (v := 41) hx hb dX12_saidUnit_94 (by decide) ?_
              obtain ⟨q40, hq40, h⟩ := f_b h
              refine cl_V (w := (mW G Z Y q39.2)) (w' := (mW G Z Y q40.2)) (rv := some (.int q40.1)) (bytes := cX12_takes) (maxL := 2) (ret := (some .boolean)) (C := RX12) (As := [.int (41 : Int32)]) (rest := []) (stk := [.int q40.1]) ⟨hx, hb, hml, hown, hts⟩ hK hE hA hP hD hS (c_X12_takes l D G Z Y q39.2 F (41 : Int32) q40 hq40) (cwV 1 hts (gwV wd_1485 wd_1487 wp_56 wd_11 wd_1488) rfl rfl rfl hd_X12_takes ⟨by show 1 + 1 ≤ 2 + (d + 1); omega, by show 8 + (2 + 11) + 20 ≤ 51 + (d + 1) * 21; omega⟩) (mg_200 G Z Y q39.2) rfl rfl rfl hl.1 rfl (Nat.le_of_ble_eq_true rfl) dX12_saidUnit_96 ⟨Nat.zero_le _, Nat.zero_le _⟩ rfl (fun H locs hP hD hS => ?_)
              refine lv_if_ne (tgt := 103) hx hb dX12_saidUnit_99 (by decide) (fun c41 => ?_) (fun c41 => ?_)
              · skip
                have h := f_f c41 h
                refine lv_aload_n hx hb dX12_saidUnit_103 rfl (lv_at hl 1 rfl) ?_
                refine lv_dup hx hb dX12_saidUnit_104 rfl ?_
                refine va_get (D := D) (ci := 12) (v := .int (q40.2.1 200 8)) (C := RX12) (T := TX12) (N := 59) hx hb hts inU_X12 hown hK hP _ (mg_200 G Z Y q40.2) rfl 8 (by decide) (hts _ wd_1256) (fun _ h9 => h9) rfl dX12_saidUnit_105 ?_
                refine lv_iconst (v := 1) hx hb dX12_saidUnit_108 (by decide) ?_
                refine lv_isub hx hb dX12_saidUnit_109 ?_
                refine va_put (D := D) (ci := 12) (v := .int ((q40.2.1 200 8) - (1 : Int32))) (ty := .int) (C := RX12) (T := TX12) (N := 59) hx hb hts inU_X12 tyX12 tyX12_ok nmX12 hown hK hP hD hS _ (mg_200 G Z Y q40.2) rfl 8 (by decide) (hts _ wd_1256) (fun _ h9 => h9) rfl (by decide +kernel) rfl rfl (Nat.le_of_ble_eq_true rfl) dX12_saidUnit_110 (fun H locs hP hD hS => ?_)
                have hP := wrP (mp_200_8 G Z Y q40.2 ((q40.2.1 200 8) - (1 : Int32))) hP
                have hD := wrD (mp_200_8 G Z Y q40.2 ((q40.2.1 200 8) - (1 : Int32))) hD
                obtain rfl := Option.some.inj h
                exact W.vret hx hb hr (q_end hK hP hD hS) hS.2.2 dX12_saidUnit_113
              · skip
                have h := f_t c41 h
                obtain rfl := Option.some.inj h
                exact W.vret hx hb hr (q_end hK hP hD hS) hS.2.2 dX12_saidUnit_102
            · skip
              have h := f_t c38 h
              refine lv_aload_n hx hb dX12_saidUnit_68 rfl (lv_at hl 1 rfl) ?_
              obtain ⟨q42, hq42, h⟩ := f_b h
              refine cl_V (w := (mW G Z Y q36.2)) (w' := (mW G Z Y q42.2)) (rv := none) (bytes := cX12_saidUnit) (maxL := 2) (ret := none) (C := RX12) (As := []) (rest := []) (stk := []) ⟨hx, hb, hml, hown, hts⟩ hK hE hA hP hD hS (hu_X12_saidUnit q36.2 q42 hq42) (cwV 0 hts (gwV wd_1464 wd_1466 wp_51 wd_11 wd_1467) rfl rfl rfl hd_X12_saidUnit ⟨by show 2 + d + 1 ≤ 2 + (d + 1); omega, by show 8 + (2 + 11) + (51 + d * 21) ≤ 51 + (d + 1) * 21; omega⟩) (mg_200 G Z Y q36.2) rfl rfl rfl hl.1 rfl (Nat.le_of_ble_eq_true rfl) dX12_saidUnit_69 ⟨Nat.zero_le _, Nat.zero_le _⟩ rfl (fun H locs hP hD hS => ?_)
              refine lv_aload_n hx hb dX12_saidUnit_72 rfl (lv_at hl 1 rfl) ?_
              refine va_get (D := D) (ci := 12) (v := .int (q42.2.1 200 7)) (C := RX12) (T := TX12) (N := 59) hx hb hts inU_X12 hown hK hP _ (mg_200 G Z Y q42.2) rfl 7 (by decide) (hts _ wd_1255) (fun _ h9 => h9) rfl dX12_saidUnit_73 ?_
              refine lv_iconst (v := (-1)) hx hb dX12_saidUnit_76 (by decide) ?_
              refine lv_icmp_ne (tgt := 103) hx hb dX12_saidUnit_77 (by decide) (fun c43 => ?_) (fun c43 => ?_)
              · skip
                have h := f_f c43 h
                refine lv_aload_n hx hb dX12_saidUnit_103 rfl (lv_at hl 1 rfl) ?_
                refine lv_dup hx hb dX12_saidUnit_104 rfl ?_
                refine va_get (D := D) (ci := 12) (v := .int (q42.2.1 200 8)) (C := RX12) (T := TX12) (N := 59) hx hb hts inU_X12 hown hK hP _ (mg_200 G Z Y q42.2) rfl 8 (by decide) (hts _ wd_1256) (fun _ h9 => h9) rfl dX12_saidUnit_105 ?_
                refine lv_iconst (v := 1) hx hb dX12_saidUnit_108 (by decide) ?_
                refine lv_isub hx hb dX12_saidUnit_109 ?_
                refine va_put (D := D) (ci := 12) (v := .int ((q42.2.1 200 8) - (1 : Int32))) (ty := .int) (C := RX12) (T := TX12) (N := 59) hx hb hts inU_X12 tyX12 tyX12_ok nmX12 hown hK hP hD hS _ (mg_200 G Z Y q42.2) rfl 8 (by decide) (hts _ wd_1256) (fun _ h9 => h9) rfl (by decide +kernel) rfl rfl (Nat.le_of_ble_eq_true rfl) dX12_saidUnit_110 (fun H locs hP hD hS => ?_)
                have hP := wrP (mp_200_8 G Z Y q42.2 ((q42.2.1 200 8) - (1 : Int32))) hP
                have hD := wrD (mp_200_8 G Z Y q42.2 ((q42.2.1 200 8) - (1 : Int32))) hD
                obtain rfl := Option.some.inj h
                exact W.vret hx hb hr (q_end hK hP hD hS) hS.2.2 dX12_saidUnit_113
              · skip
                have h := f_t c43 h
                refine lv_aload_n hx hb dX12_saidUnit_80 rfl (lv_at hl 1 rfl) ?_
                refine lv_bipush (v := 6) hx hb dX12_saidUnit_81 (by decide) ?_
                obtain ⟨q44, hq44, h⟩ := f_b h
                refine cl_V (w := (mW G Z Y q42.2)) (w' := (mW G Z Y q44.2)) (rv := none) (bytes := cX12_sign) (maxL := 2) (ret := none) (C := RX12) (As := [.int (6 : Int32)]) (rest := []) (stk := []) ⟨hx, hb, hml, hown, hts⟩ hK hE hA hP hD hS (c_X12_sign l D G Z Y q42.2 (6 : Int32) q44 hq44) (cwV 1 hts (gwV wd_1472 wd_1474 wp_53 wd_11 wd_1475) rfl rfl rfl hd_X12_sign ⟨by show 1 + 1 ≤ 2 + (d + 1); omega, by show 8 + (2 + 11) + 30 ≤ 51 + (d + 1) * 21; omega⟩) (mg_200 G Z Y q42.2) rfl rfl rfl hl.1 rfl (Nat.le_of_ble_eq_true rfl) dX12_saidUnit_83 ⟨Nat.zero_le _, Nat.zero_le _⟩ rfl (fun H locs hP hD hS => ?_)
                refine lv_goto (tgt := 103) hx hb dX12_saidUnit_86 (by decide) ?_
                refine lv_aload_n hx hb dX12_saidUnit_103 rfl (lv_at hl 1 rfl) ?_
                refine lv_dup hx hb dX12_saidUnit_104 rfl ?_
                refine va_get (D := D) (ci := 12) (v := .int (q44.2.1 200 8)) (C := RX12) (T := TX12) (N := 59) hx hb hts inU_X12 hown hK hP _ (mg_200 G Z Y q44.2) rfl 8 (by decide) (hts _ wd_1256) (fun _ h9 => h9) rfl dX12_saidUnit_105 ?_
                refine lv_iconst (v := 1) hx hb dX12_saidUnit_108 (by decide) ?_
                refine lv_isub hx hb dX12_saidUnit_109 ?_
                refine va_put (D := D) (ci := 12) (v := .int ((q44.2.1 200 8) - (1 : Int32))) (ty := .int) (C := RX12) (T := TX12) (N := 59) hx hb hts inU_X12 tyX12 tyX12_ok nmX12 hown hK hP hD hS _ (mg_200 G Z Y q44.2) rfl 8 (by decide) (hts _ wd_1256) (fun _ h9 => h9) rfl (by decide +kernel) rfl rfl (Nat.le_of_ble_eq_true rfl) dX12_saidUnit_110 (fun H locs hP hD hS => ?_)
                have hP := wrP (mp_200_8 G Z Y q44.2 ((q44.2.1 200 8) - (1 : Int32))) hP
                have hD := wrD (mp_200_8 G Z Y q44.2 ((q44.2.1 200 8) - (1 : Int32))) hD
                obtain rfl := Option.some.inj h
                exact W.vret hx hb hr (q_end hK hP hD hS) hS.2.2 dX12_saidUnit_113
          · skip
            have h := f_t c37 h
            obtain rfl := Option.some.inj h
            exact W.vret hx hb hr (q_end hK hP hD hS) hS.2.2 dX12_saidUnit_61
        · skip
          have h := f_f c35 h
          refine lv_aload_n hx hb dX12_saidUnit_48 rfl (lv_at hl 1 rfl) ?_
          obtain ⟨q45, hq45, h⟩ := f_b h
          refine cl_V (w := (mW G Z Y q1.2)) (w' := (mW G Z Y q45.2)) (rv := some (.int q45.1)) (bytes := cX12_fails) (maxL := 1) (ret := (some .boolean)) (C := RX12) (As := []) (rest := []) (stk := [.int q45.1]) ⟨hx, hb, hml, hown, hts⟩ hK hE hA hP hD hS (c_X12_fails l D G Z Y q1.2 q45 hq45) (cwV 0 hts (gwV wd_1477 wd_1479 wp_54 wd_11 wd_1480) rfl rfl rfl hd_X12_fails ⟨by show 0 + 1 ≤ 2 + (d + 1); omega, by show 8 + (1 + 11) + 0 ≤ 51 + (d + 1) * 21; omega⟩) (mg_200 G Z Y q1.2) rfl rfl rfl hl.1 rfl (Nat.le_of_ble_eq_true rfl) dX12_saidUnit_49 ⟨Nat.zero_le _, Nat.zero_le _⟩ rfl (fun H locs hP hD hS => ?_)
          refine lv_pop hx hb dX12_saidUnit_52 rfl ?_
          obtain rfl := Option.some.inj h
          exact W.vret hx hb hr (q_end hK hP hD hS) hS.2.2 dX12_saidUnit_53
    · skip
      have h := f_f c24 h
      refine lv_aload_n hx hb dX12_saidUnit_17 rfl (lv_at hl 1 rfl) ?_
      refine lv_dup hx hb dX12_saidUnit_18 rfl ?_
      refine va_get (D := D) (ci := 12) (v := .int (q1.2.1 200 6)) (C := RX12) (T := TX12) (N := 59) hx hb hts inU_X12 hown hK hP _ (mg_200 G Z Y q1.2) rfl 6 (by decide) (hts _ wd_1254) (fun _ h9 => h9) rfl dX12_saidUnit_19 ?_
      refine lv_iconst (v := 1) hx hb dX12_saidUnit_22 (by decide) ?_
      refine lv_iadd hx hb dX12_saidUnit_23 ?_
      refine va_put (D := D) (ci := 12) (v := .int ((q1.2.1 200 6) + (1 : Int32))) (ty := .int) (C := RX12) (T := TX12) (N := 59) hx hb hts inU_X12 tyX12 tyX12_ok nmX12 hown hK hP hD hS _ (mg_200 G Z Y q1.2) rfl 6 (by decide) (hts _ wd_1254) (fun _ h9 => h9) rfl (by decide +kernel) rfl rfl (Nat.le_of_ble_eq_true rfl) dX12_saidUnit_24 (fun H locs hP hD hS => ?_)
      have hP := wrP (mp_200_6 G Z Y q1.2 ((q1.2.1 200 6) + (1 : Int32))) hP
      have hD := wrD (mp_200_6 G Z Y q1.2 ((q1.2.1 200 6) + (1 : Int32))) hD
      refine lv_aload_n hx hb dX12_saidUnit_27 rfl (lv_at hl 1 rfl) ?_
      refine lv_iload_n hx hb dX12_saidUnit_28 rfl (lv_at hl 0 rfl) ?_
      refine lv_bipush (v := 97) hx hb dX12_saidUnit_29 (by decide) ?_
      refine lv_isub hx hb dX12_saidUnit_31 ?_
      obtain ⟨q46, hq46, h⟩ := f_b h
      refine cl_V (w := (mW G Z Y (sI q1.2 200 6 ((q1.2.1 200 6) + (1 : Int32))))) (w' := (mW G Z Y q46.2)) (rv := none) (bytes := cX12_sign) (maxL := 2) (ret := none) (C := RX12) (As := [.int (q1.1 - (97 : Int32))]) (rest := []) (stk := []) ⟨hx, hb, hml, hown, hts⟩ hK hE hA hP hD hS (c_X12_sign l D G Z Y (sI q1.2 200 6 ((q1.2.1 200 6) + (1 : Int32))) (q1.1 - (97 : Int32)) q46 hq46) (cwV 1 hts (gwV wd_1472 wd_1474 wp_53 wd_11 wd_1475) rfl rfl rfl hd_X12_sign ⟨by show 1 + 1 ≤ 2 + (d + 1); omega, by show 8 + (2 + 11) + 30 ≤ 51 + (d + 1) * 21; omega⟩) (mg_200 G Z Y (sI q1.2 200 6 ((q1.2.1 200 6) + (1 : Int32)))) rfl rfl rfl hl.1 rfl (Nat.le_of_ble_eq_true rfl) dX12_saidUnit_32 ⟨Nat.zero_le _, Nat.zero_le _⟩ rfl (fun H locs hP hD hS => ?_)
      obtain rfl := Option.some.inj h
      exact W.vret hx hb hr (q_end hK hP hD hS) hS.2.2 dX12_saidUnit_35
set_option maxRecDepth 100000 in
set_option maxHeartbeats 8000000 in
theorem c_G_Mo (l : Launch) (D : va_G) (G : hG) (Z : hZ) (Y : va_W) (F : Nat) : ∀ d : Nat, (∀ (σ0 : hSt) (res : (Unit × hSt)), (G_Mo F Z d).1 σ0  = some res → CT l yX12_ors cX12_ors 1 none (rmG_Mo d) D G 0 0 [.ref (G.2.1 200)] (mW G Z Y σ0) (mW G Z Y res.2) none) ∧ (∀ (σ0 : hSt) (res : (Unit × hSt)), (G_Mo F Z d).2.1 σ0  = some res → CT l yX12_ands cX12_ands 1 none (rmG_Mo d) D G 0 0 [.ref (G.2.1 200)] (mW G Z Y σ0) (mW G Z Y res.2) none) ∧ (∀ (σ0 : hSt) (res : (Unit × hSt)), (G_Mo F Z d).2.2 σ0  = some res → CT l yX12_saidUnit cX12_saidUnit 2 none (rmG_Mo d) D G 0 0 [.ref (G.2.1 200)] (mW G Z Y σ0) (mW G Z Y res.2) none) := by
  intro d
  induction d with
  | zero =>
    refine ⟨?_, ?_, ?_⟩
    · exact fun σ0 res h => by
        have h1 : (none : Option (Unit × hSt)) = some res := h
        cases h1
    · exact fun σ0 res h => by
        have h1 : (none : Option (Unit × hSt)) = some res := h
        cases h1
    · exact fun σ0 res h => by
        have h1 : (none : Option (Unit × hSt)) = some res := h
        cases h1
  | succ d ih =>
    obtain ⟨i_X12_ors, i_X12_ands, i_X12_saidUnit⟩ := ih
    refine ⟨?_, ?_, ?_⟩
    · exact fun σ0 res h => o_X12_ors l D G Z Y F d _ i_X12_ands σ0 res h
    · exact fun σ0 res h => o_X12_ands l D G Z Y F d _ i_X12_saidUnit σ0 res h
    · exact fun σ0 res h => o_X12_saidUnit l D G Z Y F d _ i_X12_ors _ i_X12_saidUnit σ0 res h
abbrev rm_X12_ors : Room := rmG_Mo 40
theorem c_X12_ors (l : Launch) (D : va_G) (G : hG) (Z : hZ) (Y : va_W) (σ0 : hSt) (F : Nat) (res : (Unit × hSt)) (h : f_X12_ors F Z σ0  = some res) : CT l yX12_ors cX12_ors 1 none rm_X12_ors D G 0 0 [.ref (G.2.1 200)] (mW G Z Y σ0) (mW G Z Y res.2) none := (c_G_Mo l D G Z Y F 40).1 σ0 res h
abbrev rm_X12_ands : Room := rmG_Mo 40
theorem c_X12_ands (l : Launch) (D : va_G) (G : hG) (Z : hZ) (Y : va_W) (σ0 : hSt) (F : Nat) (res : (Unit × hSt)) (h : f_X12_ands F Z σ0  = some res) : CT l yX12_ands cX12_ands 1 none rm_X12_ands D G 0 0 [.ref (G.2.1 200)] (mW G Z Y σ0) (mW G Z Y res.2) none := (c_G_Mo l D G Z Y F 40).2.1 σ0 res h
abbrev rm_X12_saidUnit : Room := rmG_Mo 40
theorem c_X12_saidUnit (l : Launch) (D : va_G) (G : hG) (Z : hZ) (Y : va_W) (σ0 : hSt) (F : Nat) (res : (Unit × hSt)) (h : f_X12_saidUnit F Z σ0  = some res) : CT l yX12_saidUnit cX12_saidUnit 2 none rm_X12_saidUnit D G 0 0 [.ref (G.2.1 200)] (mW G Z Y σ0) (mW G Z Y res.2) none := (c_G_Mo l D G Z Y F 40).2.2 σ0 res h
abbrev rm_X12_readSaying : Room := { frames := 43, cells := 0, slots := 0, locals := 911 }
set_option maxRecDepth 100000 in
set_option maxHeartbeats 8000000 in
theorem W_X12_readSaying_L40 {p : Program} {e : Env} {s : State} {m : MethodId} {args : Array Value} {below : List Frame} {meth : Method} {c : Code} {A : Nat → Prop} (l : Launch) (D : va_G) (G : hG) (Z : hZ) (Y : va_W) (σ0 : hSt) (F : Nat) (res : (Int32 × hSt)) (C0 : Cx p s m args meth c cX12_readSaying (some .boolean) RX12 2 D G A) (hA : ∀ q : Nat, s.heap.size ≤ q → A q) (k67 : hSt → Option (Int32 × hSt)) (hk67 : ∀ (σ1 : hSt), k67 σ1 = some res → ∀ (H : Heap) (locs : List Loc) (ls : Array Slot), va_P D vwCl (mW G Z Y σ1) H → va_D A (mW G Z Y σ1) → va_S A s.heap H locs → lv_has ls 2 [(0, .ref (G.2.1 200))] → W p l e rm_X12_readSaying s m args below meth c H locs 0 0 (MQ below (Qg (some (.int res.1)) D (tysG G) (mW G Z Y res.2) A) args s 0 0 A) (F0 m 67 ls [])) : ∀ (n : Nat) (σ1 : hSt) (z1 : Int32), f_X12_readSaying_L40 k67 n σ1 z1 = some res → ∀ (H : Heap) (locs : List Loc) (ls : Array Slot), va_P D vwCl (mW G Z Y σ1) H → va_D A (mW G Z Y σ1) → va_S A s.heap H locs → lv_has ls 2 [(0, .ref (G.2.1 200)), (1, .int z1)] → W p l e rm_X12_readSaying s m args below meth c H locs 0 0 (MQ below (Qg (some (.int res.1)) D (tysG G) (mW G Z Y res.2) A) args s 0 0 A) (F0 m 40 ls []) := by
  obtain ⟨hx, hb, hr, hml, hown, hts, hlocks, hK, hE⟩ := id C0
  intro n
  induction n with
  | zero =>
    intro σ1 z1 h
    cases h
  | succ n ih =>
    intro σ1 z1 h H locs ls hP hD hS hl
    rw [f_X12_readSaying_L40] at h
    refine lv_iload_n hx hb dX12_readSaying_40 rfl (lv_at hl 1 rfl) ?_
    refine lv_bipush (v := 6) hx hb dX12_readSaying_41 (by decide) ?_
    refine lv_icmp_ge (tgt := 67) hx hb dX12_readSaying_43 (by decide) (fun c4 => ?_) (fun c4 => ?_)
    · skip
      have h := f_t c4 h
      exact hk67 σ1 h _ _ _ hP hD hS (lv_sub hl [0] rfl)
    · skip
      have h := f_f c4 h
      refine lv_aload_n hx hb dX12_readSaying_46 rfl (lv_at hl 0 rfl) ?_
      refine va_get (D := D) (ci := 12) (v := .ref (G.2.1 205)) (C := RX12) (T := TX12) (N := 59) hx hb hts inU_X12 hown hK hP _ (mg_200 G Z Y σ1) rfl 13 (by decide) (hts _ wd_1261) (fun _ h9 => h9) rfl dX12_readSaying_47 ?_
      refine lv_bipush (v := 6) hx hb dX12_readSaying_50 (by decide) ?_
      refine lv_aload_n hx hb dX12_readSaying_52 rfl (lv_at hl 0 rfl) ?_
      refine va_get (D := D) (ci := 12) (v := .int (σ1.1 200 16)) (C := RX12) (T := TX12) (N := 59) hx hb hts inU_X12 hown hK hP _ (mg_200 G Z Y σ1) rfl 16 (by decide) (hts _ wd_1264) (fun _ h9 => h9) rfl dX12_readSaying_53 ?_
      refine lv_imul hx hb dX12_readSaying_56 ?_
      refine lv_iload_n hx hb dX12_readSaying_57 rfl (lv_at hl 1 rfl) ?_
      refine lv_iadd hx hb dX12_readSaying_58 ?_
      refine lv_iconst (v := 0) hx hb dX12_readSaying_59 (by decide) ?_
      obtain ⟨c5, h⟩ := f_n h
      refine va_iast hx hb hK hP hD hS _ 0 (mg_205 G Z Y σ1) rfl c5 dX12_readSaying_60 (fun H locs hP hD hS => ?_)
      have hP := wrP (mp_205 G Z Y σ1 _ _) hP
      have hD := wrD (mp_205 G Z Y σ1 _ _) hD
      refine lv_iinc (v := (z1 + 1)) (lv' := [(1, .int (z1 + 1)), (0, .ref (G.2.1 200))]) hx hb dX12_readSaying_61 hl (k := 1) rfl rfl (by decide) rfl (fun ls hl => ?_)
      refine lv_goto (tgt := 40) hx hb dX12_readSaying_64 (by decide) ?_
      exact ih (sI σ1 205 (((((6 : Int32) * (σ1.1 200 16)) + z1) : Int32).toNatClampNeg) (0 : Int32)) (z1 + 1) h _ _ _ hP hD hS (lv_sub hl [1, 0] rfl)
set_option maxRecDepth 100000 in
set_option maxHeartbeats 8000000 in
theorem c_X12_readSaying (l : Launch) (D : va_G) (G : hG) (Z : hZ) (Y : va_W) (σ0 : hSt) (F : Nat) (res : (Int32 × hSt)) (h : f_X12_readSaying F Z σ0 = some res) : CT l yX12_readSaying cX12_readSaying 2 (some .boolean) rm_X12_readSaying D G 0 0 [.ref (G.2.1 200)] (mW G Z Y σ0) (mW G Z Y res.2) (some (.int res.1)) := by
  unfold f_X12_readSaying at h
  refine CT.mk (cc := cX12_readSaying) (maxL := 2) (ret := (some .boolean)) (own := RX12) (plainFor_of_name (by decide)) rfl (Nat.le_of_ble_eq_true rfl) ?_
  intro p e s m args below meth c A ls C0 hnm hA hP hD hl
  obtain ⟨hx, hb, hr, hml, hown, hts, hlocks, hK, hE⟩ := id C0
  have hS : va_S A s.heap s.heap [] := va_S.rf
  have hl : lv_has ls 2 [(0, .ref (G.2.1 200))] := hl
  refine lv_aload_n hx hb dX12_readSaying_0 rfl (lv_at hl 0 rfl) ?_
  refine lv_aload_n hx hb dX12_readSaying_1 rfl (lv_at hl 0 rfl) ?_
  refine va_get (D := D) (ci := 12) (v := .int (σ0.1 200 15)) (C := RX12) (T := TX12) (N := 59) hx hb hts inU_X12 hown hK hP _ (mg_200 G Z Y σ0) rfl 15 (by decide) (hts _ wd_1263) (fun _ h9 => h9) rfl dX12_readSaying_2 ?_
  refine va_put (D := D) (ci := 12) (v := .int (σ0.1 200 15)) (ty := .int) (C := RX12) (T := TX12) (N := 59) hx hb hts inU_X12 tyX12 tyX12_ok nmX12 hown hK hP hD hS _ (mg_200 G Z Y σ0) rfl 16 (by decide) (hts _ wd_1264) (fun _ h9 => h9) rfl (by decide +kernel) rfl rfl (Nat.le_of_ble_eq_true rfl) dX12_readSaying_5 (fun H locs hP hD hS => ?_)
  have hP := wrP (mp_200_16 G Z Y σ0 (σ0.1 200 15)) hP
  have hD := wrD (mp_200_16 G Z Y σ0 (σ0.1 200 15)) hD
  refine lv_aload_n hx hb dX12_readSaying_8 rfl (lv_at hl 0 rfl) ?_
  refine va_get (D := D) (ci := 12) (v := .ref (G.2.1 203)) (C := RX12) (T := TX12) (N := 59) hx hb hts inU_X12 hown hK hP _ (mg_200 G Z Y (sI σ0 200 16 (σ0.1 200 15))) rfl 11 (by decide) (hts _ wd_1259) (fun _ h9 => h9) rfl dX12_readSaying_9 ?_
  refine lv_aload_n hx hb dX12_readSaying_12 rfl (lv_at hl 0 rfl) ?_
  refine va_get (D := D) (ci := 12) (v := .int (σ0.1 200 15)) (C := RX12) (T := TX12) (N := 59) hx hb hts inU_X12 hown hK hP _ (mg_200 G Z Y (sI σ0 200 16 (σ0.1 200 15))) rfl 16 (by decide) (hts _ wd_1264) (fun _ h9 => h9) rfl dX12_readSaying_13 ?_
  refine lv_iconst (v := 0) hx hb dX12_readSaying_16 (by decide) ?_
  obtain ⟨c1, h⟩ := f_n h
  refine va_iast hx hb hK hP hD hS _ 0 (mg_203 G Z Y (sI σ0 200 16 (σ0.1 200 15))) rfl c1 dX12_readSaying_17 (fun H locs hP hD hS => ?_)
  have hP := wrP (mp_203 G Z Y (sI σ0 200 16 (σ0.1 200 15)) _ _) hP
  have hD := wrD (mp_203 G Z Y (sI σ0 200 16 (σ0.1 200 15)) _ _) hD
  refine lv_aload_n hx hb dX12_readSaying_18 rfl (lv_at hl 0 rfl) ?_
  refine va_get (D := D) (ci := 12) (v := .ref (G.2.1 204)) (C := RX12) (T := TX12) (N := 59) hx hb hts inU_X12 hown hK hP _ (mg_200 G Z Y (sI (sI σ0 200 16 (σ0.1 200 15)) 203 (((σ0.1 200 15) : Int32).toNatClampNeg) (0 : Int32))) rfl 12 (by decide) (hts _ wd_1260) (fun _ h9 => h9) rfl dX12_readSaying_19 ?_
  refine lv_aload_n hx hb dX12_readSaying_22 rfl (lv_at hl 0 rfl) ?_
  refine va_get (D := D) (ci := 12) (v := .int (σ0.1 200 15)) (C := RX12) (T := TX12) (N := 59) hx hb hts inU_X12 hown hK hP _ (mg_200 G Z Y (sI (sI σ0 200 16 (σ0.1 200 15)) 203 (((σ0.1 200 15) : Int32).toNatClampNeg) (0 : Int32))) rfl 16 (by decide) (hts _ wd_1264) (fun _ h9 => h9) rfl dX12_readSaying_23 ?_
  refine lv_iconst (v := 0) hx hb dX12_readSaying_26 (by decide) ?_
  obtain ⟨c2, h⟩ := f_n h
  refine va_iast hx hb hK hP hD hS _ 0 (mg_204 G Z Y (sI (sI σ0 200 16 (σ0.1 200 15)) 203 (((σ0.1 200 15) : Int32).toNatClampNeg) (0 : Int32))) rfl c2 dX12_readSaying_27 (fun H locs hP hD hS => ?_)
  have hP := wrP (mp_204 G Z Y (sI (sI σ0 200 16 (σ0.1 200 15)) 203 (((σ0.1 200 15) : Int32).toNatClampNeg) (0 : Int32)) _ _) hP
  have hD := wrD (mp_204 G Z Y (sI (sI σ0 200 16 (σ0.1 200 15)) 203 (((σ0.1 200 15) : Int32).toNatClampNeg) (0 : Int32)) _ _) hD
  refine lv_aload_n hx hb dX12_readSaying_28 rfl (lv_at hl 0 rfl) ?_
  refine va_get (D := D) (ci := 12) (v := .ref (G.2.1 206)) (C := RX12) (T := TX12) (N := 59) hx hb hts inU_X12 hown hK hP _ (mg_200 G Z Y (sI (sI (sI σ0 200 16 (σ0.1 200 15)) 203 (((σ0.1 200 15) : Int32).toNatClampNeg) (0 : Int32)) 204 (((σ0.1 200 15) : Int32).toNatClampNeg) (0 : Int32))) rfl 14 (by decide) (hts _ wd_1262) (fun _ h9 => h9) rfl dX12_readSaying_29 ?_
  refine lv_aload_n hx hb dX12_readSaying_32 rfl (lv_at hl 0 rfl) ?_
  refine va_get (D := D) (ci := 12) (v := .int (σ0.1 200 15)) (C := RX12) (T := TX12) (N := 59) hx hb hts inU_X12 hown hK hP _ (mg_200 G Z Y (sI (sI (sI σ0 200 16 (σ0.1 200 15)) 203 (((σ0.1 200 15) : Int32).toNatClampNeg) (0 : Int32)) 204 (((σ0.1 200 15) : Int32).toNatClampNeg) (0 : Int32))) rfl 16 (by decide) (hts _ wd_1264) (fun _ h9 => h9) rfl dX12_readSaying_33 ?_
  refine lv_iconst (v := 0) hx hb dX12_readSaying_36 (by decide) ?_
  obtain ⟨c3, h⟩ := f_n h
  refine va_iast hx hb hK hP hD hS _ 0 (mg_206 G Z Y (sI (sI (sI σ0 200 16 (σ0.1 200 15)) 203 (((σ0.1 200 15) : Int32).toNatClampNeg) (0 : Int32)) 204 (((σ0.1 200 15) : Int32).toNatClampNeg) (0 : Int32))) rfl c3 dX12_readSaying_37 (fun H locs hP hD hS => ?_)
  have hP := wrP (mp_206 G Z Y (sI (sI (sI σ0 200 16 (σ0.1 200 15)) 203 (((σ0.1 200 15) : Int32).toNatClampNeg) (0 : Int32)) 204 (((σ0.1 200 15) : Int32).toNatClampNeg) (0 : Int32)) _ _) hP
  have hD := wrD (mp_206 G Z Y (sI (sI (sI σ0 200 16 (σ0.1 200 15)) 203 (((σ0.1 200 15) : Int32).toNatClampNeg) (0 : Int32)) 204 (((σ0.1 200 15) : Int32).toNatClampNeg) (0 : Int32)) _ _) hD
  refine lv_iconst (v := 0) hx hb dX12_readSaying_38 (by decide) ?_
  refine lv_istore_n (lv' := [(1, .int (0 : Int32)), (0, .ref (G.2.1 200))]) hx hb dX12_readSaying_39 rfl hl (by decide) rfl (fun ls hl => ?_)
  refine W_X12_readSaying_L40 l D G Z Y σ0 F res C0 hA _ ?_ F (sI (sI (sI (sI σ0 200 16 (σ0.1 200 15)) 203 (((σ0.1 200 15) : Int32).toNatClampNeg) (0 : Int32)) 204 (((σ0.1 200 15) : Int32).toNatClampNeg) (0 : Int32)) 206 (((σ0.1 200 15) : Int32).toNatClampNeg) (0 : Int32)) (0 : Int32) h _ _ _ hP hD hS (lv_sub hl [1, 0] rfl)
  · intro σ1 h H locs ls hP hD hS hl
    refine lv_aload_n hx hb dX12_readSaying_67 rfl (lv_at hl 0 rfl) ?_
    refine lv_aload_n hx hb dX12_readSaying_68 rfl (lv_at hl 0 rfl) ?_
    refine va_get (D := D) (ci := 12) (v := .ref (G.2.1 201)) (C := RX12) (T := TX12) (N := 59) hx hb hts inU_X12 hown hK hP _ (mg_200 G Z Y σ1) rfl 1 (by decide) (hts _ wd_1249) (fun _ h9 => h9) rfl dX12_readSaying_69 ?_
    refine lv_iconst (v := 0) hx hb dX12_readSaying_72 (by decide) ?_
    refine lv_aload_n hx hb dX12_readSaying_73 rfl (lv_at hl 0 rfl) ?_
    refine va_get (D := D) (ci := 12) (v := .int (σ1.1 200 3)) (C := RX12) (T := TX12) (N := 59) hx hb hts inU_X12 hown hK hP _ (mg_200 G Z Y σ1) rfl 3 (by decide) (hts _ wd_1251) (fun _ h9 => h9) rfl dX12_readSaying_74 ?_
    refine lv_bipush (v := 8) hx hb dX12_readSaying_77 (by decide) ?_
    obtain ⟨q6, hq6, h⟩ := f_b h
    refine cl_V (w := (mW G Z Y σ1)) (w' := (mW G Z Y q6.2)) (rv := none) (bytes := cX12_begin) (maxL := 5) (ret := none) (C := RX12) (As := [.ref (G.2.1 201), .int (0 : Int32), .int (σ1.1 200 3), .int (8 : Int32)]) (rest := []) (stk := []) ⟨hx, hb, hml, hown, hts⟩ hK hE hA hP hD hS (c_X12_begin l D G Z Y σ1 201 (rfl : isBy 201 = true) (0 : Int32) (σ1.1 200 3) (8 : Int32) q6 hq6) (cwV 4 hts (gwV wd_1452 wd_1454 wp_48 wd_11 wd_1455) rfl rfl rfl hd_X12_begin ⟨Nat.le_of_ble_eq_true rfl, Nat.le_of_ble_eq_true rfl⟩) (mg_200 G Z Y σ1) rfl rfl rfl hl.1 rfl (Nat.le_of_ble_eq_true rfl) dX12_readSaying_79 ⟨Nat.zero_le _, Nat.zero_le _⟩ rfl (fun H locs hP hD hS => ?_)
    refine lv_aload_n hx hb dX12_readSaying_82 rfl (lv_at hl 0 rfl) ?_
    obtain ⟨q7, hq7, h⟩ := f_b h
    refine cl_V (w := (mW G Z Y q6.2)) (w' := (mW G Z Y q7.2)) (rv := none) (bytes := cX12_ors) (maxL := 1) (ret := none) (C := RX12) (As := []) (rest := []) (stk := []) ⟨hx, hb, hml, hown, hts⟩ hK hE hA hP hD hS (c_X12_ors l D G Z Y q6.2 F q7 hq7) (cwV 0 hts (gwV wd_1456 wd_1458 wp_49 wd_11 wd_1459) rfl rfl rfl hd_X12_ors ⟨Nat.le_of_ble_eq_true rfl, Nat.le_of_ble_eq_true rfl⟩) (mg_200 G Z Y q6.2) rfl rfl rfl hl.1 rfl (Nat.le_of_ble_eq_true rfl) dX12_readSaying_83 ⟨Nat.zero_le _, Nat.zero_le _⟩ rfl (fun H locs hP hD hS => ?_)
    refine lv_aload_n hx hb dX12_readSaying_86 rfl (lv_at hl 0 rfl) ?_
    refine va_get (D := D) (ci := 12) (v := .int (q7.2.1 200 7)) (C := RX12) (T := TX12) (N := 59) hx hb hts inU_X12 hown hK hP _ (mg_200 G Z Y q7.2) rfl 7 (by decide) (hts _ wd_1255) (fun _ h9 => h9) rfl dX12_readSaying_87 ?_
    refine lv_iconst (v := (-1)) hx hb dX12_readSaying_90 (by decide) ?_
    refine lv_icmp_ne (tgt := 107) hx hb dX12_readSaying_91 (by decide) (fun c8 => ?_) (fun c8 => ?_)
    · skip
      have h := f_f c8 h
      refine lv_aload_n hx hb dX12_readSaying_107 rfl (lv_at hl 0 rfl) ?_
      refine va_get (D := D) (ci := 12) (v := .int (q7.2.1 200 7)) (C := RX12) (T := TX12) (N := 59) hx hb hts inU_X12 hown hK hP _ (mg_200 G Z Y q7.2) rfl 7 (by decide) (hts _ wd_1255) (fun _ h9 => h9) rfl dX12_readSaying_108 ?_
      refine lv_iconst (v := (-1)) hx hb dX12_readSaying_111 (by decide) ?_
      refine lv_icmp_ne (tgt := 119) hx hb dX12_readSaying_112 (by decide) (fun c9 => ?_) (fun c9 => ?_)
      · skip
        have h := f_f c9 h
        refine lv_iconst (v := 0) hx hb dX12_readSaying_119 (by decide) ?_
        obtain rfl := Option.some.inj h
        exact W.zret (v := (0 : Int32)) hx hb hr rfl (q_end hK hP hD hS) hS.2.2 dX12_readSaying_120
      · skip
        have h := f_t c9 h
        refine lv_iconst (v := 1) hx hb dX12_readSaying_115 (by decide) ?_
        refine lv_goto (tgt := 120) hx hb dX12_readSaying_116 (by decide) ?_
        obtain rfl := Option.some.inj h
        exact W.zret (v := (1 : Int32)) hx hb hr rfl (q_end hK hP hD hS) hS.2.2 dX12_readSaying_120
    · skip
      have h := f_t c8 h
      refine lv_aload_n hx hb dX12_readSaying_94 rfl (lv_at hl 0 rfl) ?_
      obtain ⟨q10, hq10, h⟩ := f_b h
      refine cl_V (w := (mW G Z Y q7.2)) (w' := (mW G Z Y q10.2)) (rv := some (.int q10.1)) (bytes := cX12_look) (maxL := 1) (ret := (some .int)) (C := RX12) (As := []) (rest := []) (stk := [.int q10.1]) ⟨hx, hb, hml, hown, hts⟩ hK hE hA hP hD hS (c_X12_look l D G Z Y q7.2 F q10 hq10) (cwV 0 hts (gwV wd_1468 wd_1470 wp_52 wd_11 wd_1471) rfl rfl rfl hd_X12_look ⟨Nat.le_of_ble_eq_true rfl, Nat.le_of_ble_eq_true rfl⟩) (mg_200 G Z Y q7.2) rfl rfl rfl hl.1 rfl (Nat.le_of_ble_eq_true rfl) dX12_readSaying_95 ⟨Nat.zero_le _, Nat.zero_le _⟩ rfl (fun H locs hP hD hS => ?_)
      refine lv_iconst (v := (-1)) hx hb dX12_readSaying_98 (by decide) ?_
      refine lv_icmp_eq (tgt := 107) hx hb dX12_readSaying_99 (by decide) (fun c11 => ?_) (fun c11 => ?_)
      · skip
        have h := f_t c11 h
        refine lv_aload_n hx hb dX12_readSaying_107 rfl (lv_at hl 0 rfl) ?_
        refine va_get (D := D) (ci := 12) (v := .int (q10.2.1 200 7)) (C := RX12) (T := TX12) (N := 59) hx hb hts inU_X12 hown hK hP _ (mg_200 G Z Y q10.2) rfl 7 (by decide) (hts _ wd_1255) (fun _ h9 => h9) rfl dX12_readSaying_108 ?_
        refine lv_iconst (v := (-1)) hx hb dX12_readSaying_111 (by decide) ?_
        refine lv_icmp_ne (tgt := 119) hx hb dX12_readSaying_112 (by decide) (fun c12 => ?_) (fun c12 => ?_)
        · skip
          have h := f_f c12 h
          refine lv_iconst (v := 0) hx hb dX12_readSaying_119 (by decide) ?_
          obtain rfl := Option.some.inj h
          exact W.zret (v := (0 : Int32)) hx hb hr rfl (q_end hK hP hD hS) hS.2.2 dX12_readSaying_120
        · skip
          have h := f_t c12 h
          refine lv_iconst (v := 1) hx hb dX12_readSaying_115 (by decide) ?_
          refine lv_goto (tgt := 120) hx hb dX12_readSaying_116 (by decide) ?_
          obtain rfl := Option.some.inj h
          exact W.zret (v := (1 : Int32)) hx hb hr rfl (q_end hK hP hD hS) hS.2.2 dX12_readSaying_120
      · skip
        have h := f_f c11 h
        refine lv_aload_n hx hb dX12_readSaying_102 rfl (lv_at hl 0 rfl) ?_
        obtain ⟨q13, hq13, h⟩ := f_b h
        refine cl_V (w := (mW G Z Y q10.2)) (w' := (mW G Z Y q13.2)) (rv := some (.int q13.1)) (bytes := cX12_fails) (maxL := 1) (ret := (some .boolean)) (C := RX12) (As := []) (rest := []) (stk := [.int q13.1]) ⟨hx, hb, hml, hown, hts⟩ hK hE hA hP hD hS (c_X12_fails l D G Z Y q10.2 q13 hq13) (cwV 0 hts (gwV wd_1477 wd_1479 wp_54 wd_11 wd_1480) rfl rfl rfl hd_X12_fails ⟨Nat.le_of_ble_eq_true rfl, Nat.le_of_ble_eq_true rfl⟩) (mg_200 G Z Y q10.2) rfl rfl rfl hl.1 rfl (Nat.le_of_ble_eq_true rfl) dX12_readSaying_103 ⟨Nat.zero_le _, Nat.zero_le _⟩ rfl (fun H locs hP hD hS => ?_)
        refine lv_pop hx hb dX12_readSaying_106 rfl ?_
        refine lv_aload_n hx hb dX12_readSaying_107 rfl (lv_at hl 0 rfl) ?_
        refine va_get (D := D) (ci := 12) (v := .int (q13.2.1 200 7)) (C := RX12) (T := TX12) (N := 59) hx hb hts inU_X12 hown hK hP _ (mg_200 G Z Y q13.2) rfl 7 (by decide) (hts _ wd_1255) (fun _ h9 => h9) rfl dX12_readSaying_108 ?_
        refine lv_iconst (v := (-1)) hx hb dX12_readSaying_111 (by decide) ?_
        refine lv_icmp_ne (tgt := 119) hx hb dX12_readSaying_112 (by decide) (fun c14 => ?_) (fun c14 => ?_)
        · skip
          have h := f_f c14 h
          refine lv_iconst (v := 0) hx hb dX12_readSaying_119 (by decide) ?_
          obtain rfl := Option.some.inj h
          exact W.zret (v := (0 : Int32)) hx hb hr rfl (q_end hK hP hD hS) hS.2.2 dX12_readSaying_120
        · skip
          have h := f_t c14 h
          refine lv_iconst (v := 1) hx hb dX12_readSaying_115 (by decide) ?_
          refine lv_goto (tgt := 120) hx hb dX12_readSaying_116 (by decide) ?_
          obtain rfl := Option.some.inj h
          exact W.zret (v := (1 : Int32)) hx hb hr rfl (q_end hK hP hD hS) hS.2.2 dX12_readSaying_120
abbrev rm_X12_saying : Room := { frames := 44, cells := 0, slots := 0, locals := 932 }
set_option maxRecDepth 100000 in
set_option maxHeartbeats 8000000 in
theorem c_X12_saying (l : Launch) (D : va_G) (G : hG) (Z : hZ) (Y : va_W) (σ0 : hSt) (F : Nat) (res : (Int32 × hSt)) (h : f_X12_saying F Z σ0 = some res) : CT l yX12_saying cX12_saying 1 (some .int) rm_X12_saying D G 0 0 [.ref (G.2.1 200)] (mW G Z Y σ0) (mW G Z Y res.2) (some (.int res.1)) := by
  unfold f_X12_saying at h
  refine CT.mk (cc := cX12_saying) (maxL := 1) (ret := (some .int)) (own := RX12) (plainFor_of_name (by decide)) rfl (Nat.le_of_ble_eq_true rfl) ?_
  intro p e s m args below meth c A ls C0 hnm hA hP hD hl
  obtain ⟨hx, hb, hr, hml, hown, hts, hlocks, hK, hE⟩ := id C0
  have hS : va_S A s.heap s.heap [] := va_S.rf
  have hl : lv_has ls 1 [(0, .ref (G.2.1 200))] := hl
  refine lv_aload_n hx hb dX12_saying_0 rfl (lv_at hl 0 rfl) ?_
  refine lv_iconst (v := 0) hx hb dX12_saying_1 (by decide) ?_
  refine va_put (D := D) (ci := 12) (v := .int (0 : Int32)) (ty := .int) (C := RX12) (T := TX12) (N := 59) hx hb hts inU_X12 tyX12 tyX12_ok nmX12 hown hK hP hD hS _ (mg_200 G Z Y σ0) rfl 0 (by decide) (hts _ wd_1248) (fun _ h9 => h9) rfl (by decide +kernel) rfl rfl (Nat.le_of_ble_eq_true rfl) dX12_saying_2 (fun H locs hP hD hS => ?_)
  have hP := wrP (mp_200_0 G Z Y σ0 (0 : Int32)) hP
  have hD := wrD (mp_200_0 G Z Y σ0 (0 : Int32)) hD
  refine lv_aload_n hx hb dX12_saying_5 rfl (lv_at hl 0 rfl) ?_
  refine va_get (D := D) (ci := 12) (v := .int (σ0.1 200 15)) (C := RX12) (T := TX12) (N := 59) hx hb hts inU_X12 hown hK hP _ (mg_200 G Z Y (sI σ0 200 0 (0 : Int32))) rfl 15 (by decide) (hts _ wd_1263) (fun _ h9 => h9) rfl dX12_saying_6 ?_
  refine lv_bipush (v := 20) hx hb dX12_saying_9 (by decide) ?_
  refine lv_icmp_eq (tgt := 21) hx hb dX12_saying_11 (by decide) (fun c1 => ?_) (fun c1 => ?_)
  · skip
    have h := f_t c1 h
    refine lv_iconst (v := (-1)) hx hb dX12_saying_21 (by decide) ?_
    obtain rfl := Option.some.inj h
    exact W.iret (v := (-1 : Int32)) hx hb hr (q_end hK hP hD hS) hS.2.2 dX12_saying_22
  · skip
    have h := f_f c1 h
    refine lv_aload_n hx hb dX12_saying_14 rfl (lv_at hl 0 rfl) ?_
    obtain ⟨q2, hq2, h⟩ := f_b h
    refine cl_V (w := (mW G Z Y (sI σ0 200 0 (0 : Int32)))) (w' := (mW G Z Y q2.2)) (rv := some (.int q2.1)) (bytes := cX12_readSaying) (maxL := 2) (ret := (some .boolean)) (C := RX12) (As := []) (rest := []) (stk := [.int q2.1]) ⟨hx, hb, hml, hown, hts⟩ hK hE hA hP hD hS (c_X12_readSaying l D G Z Y (sI σ0 200 0 (0 : Int32)) F q2 hq2) (cwV 0 hts (gwV wd_1448 wd_1450 wp_47 wd_11 wd_1451) rfl rfl rfl hd_X12_readSaying ⟨Nat.le_of_ble_eq_true rfl, Nat.le_of_ble_eq_true rfl⟩) (mg_200 G Z Y (sI σ0 200 0 (0 : Int32))) rfl rfl rfl hl.1 rfl (Nat.le_of_ble_eq_true rfl) dX12_saying_15 ⟨Nat.zero_le _, Nat.zero_le _⟩ rfl (fun H locs hP hD hS => ?_)
    refine lv_if_ne (tgt := 23) hx hb dX12_saying_18 (by decide) (fun c3 => ?_) (fun c3 => ?_)
    · skip
      have h := f_f c3 h
      refine lv_aload_n hx hb dX12_saying_23 rfl (lv_at hl 0 rfl) ?_
      refine lv_iconst (v := 0) hx hb dX12_saying_24 (by decide) ?_
      refine va_put (D := D) (ci := 12) (v := .int (0 : Int32)) (ty := .int) (C := RX12) (T := TX12) (N := 59) hx hb hts inU_X12 tyX12 tyX12_ok nmX12 hown hK hP hD hS _ (mg_200 G Z Y q2.2) rfl 3 (by decide) (hts _ wd_1251) (fun _ h9 => h9) rfl (by decide +kernel) rfl rfl (Nat.le_of_ble_eq_true rfl) dX12_saying_25 (fun H locs hP hD hS => ?_)
      have hP := wrP (mp_200_3 G Z Y q2.2 (0 : Int32)) hP
      have hD := wrD (mp_200_3 G Z Y q2.2 (0 : Int32)) hD
      refine lv_aload_n hx hb dX12_saying_28 rfl (lv_at hl 0 rfl) ?_
      refine lv_dup hx hb dX12_saying_29 rfl ?_
      refine va_get (D := D) (ci := 12) (v := .int (q2.2.1 200 15)) (C := RX12) (T := TX12) (N := 59) hx hb hts inU_X12 hown hK hP _ (mg_200 G Z Y (sI q2.2 200 3 (0 : Int32))) rfl 15 (by decide) (hts _ wd_1263) (fun _ h9 => h9) rfl dX12_saying_30 ?_
      refine lv_iconst (v := 1) hx hb dX12_saying_33 (by decide) ?_
      refine lv_iadd hx hb dX12_saying_34 ?_
      refine va_put (D := D) (ci := 12) (v := .int ((q2.2.1 200 15) + (1 : Int32))) (ty := .int) (C := RX12) (T := TX12) (N := 59) hx hb hts inU_X12 tyX12 tyX12_ok nmX12 hown hK hP hD hS _ (mg_200 G Z Y (sI q2.2 200 3 (0 : Int32))) rfl 15 (by decide) (hts _ wd_1263) (fun _ h9 => h9) rfl (by decide +kernel) rfl rfl (Nat.le_of_ble_eq_true rfl) dX12_saying_35 (fun H locs hP hD hS => ?_)
      have hP := wrP (mp_200_15 G Z Y (sI q2.2 200 3 (0 : Int32)) ((q2.2.1 200 15) + (1 : Int32))) hP
      have hD := wrD (mp_200_15 G Z Y (sI q2.2 200 3 (0 : Int32)) ((q2.2.1 200 15) + (1 : Int32))) hD
      refine lv_aload_n hx hb dX12_saying_38 rfl (lv_at hl 0 rfl) ?_
      refine va_get (D := D) (ci := 12) (v := .int ((q2.2.1 200 15) + (1 : Int32))) (C := RX12) (T := TX12) (N := 59) hx hb hts inU_X12 hown hK hP _ (mg_200 G Z Y (sI (sI q2.2 200 3 (0 : Int32)) 200 15 ((q2.2.1 200 15) + (1 : Int32)))) rfl 15 (by decide) (hts _ wd_1263) (fun _ h9 => h9) rfl dX12_saying_39 ?_
      refine lv_iconst (v := 1) hx hb dX12_saying_42 (by decide) ?_
      refine lv_isub hx hb dX12_saying_43 ?_
      obtain rfl := Option.some.inj h
      exact W.iret (v := (((q2.2.1 200 15) + (1 : Int32)) - (1 : Int32))) hx hb hr (q_end hK hP hD hS) hS.2.2 dX12_saying_44
    · skip
      have h := f_t c3 h
      refine lv_iconst (v := (-1)) hx hb dX12_saying_21 (by decide) ?_
      obtain rfl := Option.some.inj h
      exact W.iret (v := (-1 : Int32)) hx hb hr (q_end hK hP hD hS) hS.2.2 dX12_saying_22
abbrev rm_X12_isSaying : Room := { frames := 0, cells := 0, slots := 0, locals := 0 }
set_option maxRecDepth 100000 in
set_option maxHeartbeats 8000000 in
theorem c_X12_isSaying (l : Launch) (D : va_G) (G : hG) (Z : hZ) (Y : va_W) (σ0 : hSt) (x1 : Int32) (res : Int32) (h : f_X12_isSaying Z σ0 x1 = some res) : CT l yX12_isSaying cX12_isSaying 2 (some .boolean) rm_X12_isSaying D G 0 0 [.ref (G.2.1 200), .int x1] (mW G Z Y σ0) (mW G Z Y σ0) (some (.int res)) := by
  unfold f_X12_isSaying at h
  refine CT.mk (cc := cX12_isSaying) (maxL := 2) (ret := (some .boolean)) (own := RX12) (plainFor_of_name (by decide)) rfl (Nat.le_of_ble_eq_true rfl) ?_
  intro p e s m args below meth c A ls C0 hnm hA hP hD hl
  obtain ⟨hx, hb, hr, hml, hown, hts, hlocks, hK, hE⟩ := id C0
  have hS : va_S A s.heap s.heap [] := va_S.rf
  have hl : lv_has ls 2 [(0, .ref (G.2.1 200)), (1, .int x1)] := hl
  refine lv_iload_n hx hb dX12_isSaying_0 rfl (lv_at hl 1 rfl) ?_
  refine lv_if_lt (tgt := 16) hx hb dX12_isSaying_1 (by decide) (fun c1 => ?_) (fun c1 => ?_)
  · skip
    have h := f_t c1 h
    refine lv_iconst (v := 0) hx hb dX12_isSaying_16 (by decide) ?_
    obtain rfl := Option.some.inj h
    exact W.zret (v := (0 : Int32)) hx hb hr rfl (q_end hK hP hD hS) hS.2.2 dX12_isSaying_17
  · skip
    have h := f_f c1 h
    refine lv_iload_n hx hb dX12_isSaying_4 rfl (lv_at hl 1 rfl) ?_
    refine lv_aload_n hx hb dX12_isSaying_5 rfl (lv_at hl 0 rfl) ?_
    refine va_get (D := D) (ci := 12) (v := .int (σ0.1 200 15)) (C := RX12) (T := TX12) (N := 59) hx hb hts inU_X12 hown hK hP _ (mg_200 G Z Y σ0) rfl 15 (by decide) (hts _ wd_1263) (fun _ h9 => h9) rfl dX12_isSaying_6 ?_
    refine lv_icmp_ge (tgt := 16) hx hb dX12_isSaying_9 (by decide) (fun c2 => ?_) (fun c2 => ?_)
    · skip
      have h := f_t c2 h
      refine lv_iconst (v := 0) hx hb dX12_isSaying_16 (by decide) ?_
      obtain rfl := Option.some.inj h
      exact W.zret (v := (0 : Int32)) hx hb hr rfl (q_end hK hP hD hS) hS.2.2 dX12_isSaying_17
    · skip
      have h := f_f c2 h
      refine lv_iconst (v := 1) hx hb dX12_isSaying_12 (by decide) ?_
      refine lv_goto (tgt := 17) hx hb dX12_isSaying_13 (by decide) ?_
      obtain rfl := Option.some.inj h
      exact W.zret (v := (1 : Int32)) hx hb hr rfl (q_end hK hP hD hS) hS.2.2 dX12_isSaying_17
abbrev rm_X12_rest : Room := { frames := 0, cells := 0, slots := 0, locals := 0 }
set_option maxRecDepth 100000 in
set_option maxHeartbeats 8000000 in
theorem c_X12_rest (l : Launch) (D : va_G) (G : hG) (w : va_W) (x0 : Int64) (x2 : Int64) (res : Int64) (h : f_X12_rest x0 x2 = some res) : CT l yX12_rest cX12_rest 6 (some .long) rm_X12_rest D G 0 0 [.long x0, .long x2] w w (some (.long res)) := by
  unfold f_X12_rest at h
  refine CT.mk (cc := cX12_rest) (maxL := 6) (ret := (some .long)) (own := RX12) (plainFor_of_name (by decide)) rfl (Nat.le_of_ble_eq_true rfl) ?_
  intro p e s m args below meth c A ls C0 hnm hA hP hD hl
  obtain ⟨hx, hb, hr, hml, hown, hts, hlocks, hK, hE⟩ := id C0
  have hS : va_S A s.heap s.heap [] := va_S.rf
  have hl : lv_has ls 6 [(0, .long x0), (2, .long x2)] := hl
  refine lv_lload_n hx hb dX12_rest_0 rfl (lv_at hl 0 rfl) ?_
  refine lv_lload_n hx hb dX12_rest_1 rfl (lv_at hl 1 rfl) ?_
  obtain ⟨c1, h⟩ := f_n h
  refine lv_lrem hx hb dX12_rest_2 c1 ?_
  refine lv_lstore (lv' := [(4, .long (x0 - x0 / x2 * x2)), (0, .long x0), (2, .long x2)]) hx hb dX12_rest_3 hl (by decide) rfl (fun ls hl => ?_)
  refine lv_lload hx hb dX12_rest_5 (lv_at hl 0 rfl) ?_
  refine lv_lconst (v := 0) hx hb dX12_rest_7 (by decide) ?_
  refine W.lcmp hx hb dX12_rest_8 ?_
  refine lv_if_ge (tgt := 19) hx hb dX12_rest_9 (by decide) (fun c2 => ?_) (fun c2 => ?_)
  · skip
    have c2 := (lg_cmp_ge _ _).mp c2
    have h := f_t c2 h
    refine lv_lload hx hb dX12_rest_19 (lv_at hl 0 rfl) ?_
    obtain rfl := Option.some.inj h
    exact W.lret (v := (x0 - x0 / x2 * x2)) hx hb hr (q_end hK hP hD hS) hS.2.2 dX12_rest_21
  · skip
    have c2 := mt (lg_cmp_ge _ _).mpr c2
    have h := f_f c2 h
    refine lv_lload hx hb dX12_rest_12 (lv_at hl 0 rfl) ?_
    refine lv_lload_n hx hb dX12_rest_14 rfl (lv_at hl 2 rfl) ?_
    refine lv_ladd hx hb dX12_rest_15 ?_
    refine lv_goto (tgt := 21) hx hb dX12_rest_16 (by decide) ?_
    obtain rfl := Option.some.inj h
    exact W.lret (v := ((x0 - x0 / x2 * x2) + x2)) hx hb hr (q_end hK hP hD hS) hS.2.2 dX12_rest_21
abbrev rm_X12_worthAt : Room := { frames := 1, cells := 0, slots := 0, locals := 25 }
set_option maxRecDepth 100000 in
set_option maxHeartbeats 8000000 in
theorem W_X12_worthAt_L6 {p : Program} {e : Env} {s : State} {m : MethodId} {args : Array Value} {below : List Frame} {meth : Method} {c : Code} {A : Nat → Prop} (l : Launch) (D : va_G) (G : hG) (Z : hZ) (Y : va_W) (σ0 : hSt) (F : Nat) (x1 : Int32) (x2 : Int64) (y1 : Int32) (y2 : Int64) (res : (Int64 × hSt)) (C0 : Cx p s m args meth c cX12_worthAt (some .long) RX12 13 D G A) (hA : ∀ q : Nat, s.heap.size ≤ q → A q) : ∀ (n : Nat) (σ1 : hSt) (z4 : Int32) (z5 : Int32), f_X12_worthAt_L6 y1 y2 n σ1 z4 z5 = some res → ∀ (H : Heap) (locs : List Loc) (ls : Array Slot), va_P D vwCl (mW G Z Y σ1) H → va_D A (mW G Z Y σ1) → va_S A s.heap H locs → lv_has ls 13 [(0, .ref (G.2.1 200)), (1, .int y1), (2, .long y2), (4, .int z4), (5, .int z5)] → W p l e rm_X12_worthAt s m args below meth c H locs 0 0 (MQ below (Qg (some (.long res.1)) D (tysG G) (mW G Z Y res.2) A) args s 0 0 A) (F0 m 6 ls []) := by
  obtain ⟨hx, hb, hr, hml, hown, hts, hlocks, hK, hE⟩ := id C0
  intro n
  induction n with
  | zero =>
    intro σ1 z4 z5 h
    cases h
  | succ n ih =>
    intro σ1 z4 z5 h H locs ls hP hD hS hl
    rw [f_X12_worthAt_L6] at h
    refine lv_iload hx hb dX12_worthAt_6 (lv_at hl 4 rfl) ?_
    refine lv_aload_n hx hb dX12_worthAt_8 rfl (lv_at hl 0 rfl) ?_
    refine va_get (D := D) (ci := 12) (v := .ref (G.2.1 203)) (C := RX12) (T := TX12) (N := 59) hx hb hts inU_X12 hown hK hP _ (mg_200 G Z Y σ1) rfl 11 (by decide) (hts _ wd_1259) (fun _ h9 => h9) rfl dX12_worthAt_9 ?_
    refine lv_iload_n hx hb dX12_worthAt_12 rfl (lv_at hl 1 rfl) ?_
    obtain ⟨c1, h⟩ := f_n h
    refine va_ialdE (v := (σ1.1 203 ((y1 : Int32).toNatClampNeg))) hx hb hK hP _ 0 (mg_203 G Z Y σ1) rfl c1 dX12_worthAt_13 rfl ?_
    refine lv_icmp_ge (tgt := 166) hx hb dX12_worthAt_14 (by decide) (fun c2 => ?_) (fun c2 => ?_)
    · skip
      have h := f_t c2 h
      refine lv_aload_n hx hb dX12_worthAt_166 rfl (lv_at hl 0 rfl) ?_
      refine va_get (D := D) (ci := 12) (v := .ref (G.2.1 207)) (C := RX12) (T := TX12) (N := 59) hx hb hts inU_X12 hown hK hP _ (mg_200 G Z Y σ1) rfl 17 (by decide) (hts _ wd_1265) (fun _ h9 => h9) rfl dX12_worthAt_167 ?_
      refine lv_iconst (v := 0) hx hb dX12_worthAt_170 (by decide) ?_
      obtain ⟨c3, h⟩ := f_n h
      refine va_laldE (v := (σ1.2.1 207 (((0 : Int32) : Int32).toNatClampNeg))) hx hb hK hP _ 1 (mg_207 G Z Y σ1) rfl c3 dX12_worthAt_171 rfl ?_
      obtain rfl := Option.some.inj h
      exact W.lret (v := (σ1.2.1 207 (((0 : Int32) : Int32).toNatClampNeg))) hx hb hr (q_end hK hP hD hS) hS.2.2 dX12_worthAt_172
    · skip
      have h := f_f c2 h
      refine lv_aload_n hx hb dX12_worthAt_17 rfl (lv_at hl 0 rfl) ?_
      refine va_get (D := D) (ci := 12) (v := .ref (G.2.1 202)) (C := RX12) (T := TX12) (N := 59) hx hb hts inU_X12 hown hK hP _ (mg_200 G Z Y σ1) rfl 10 (by decide) (hts _ wd_1258) (fun _ h9 => h9) rfl dX12_worthAt_18 ?_
      refine lv_sipush (v := 200) hx hb dX12_worthAt_21 (by decide) ?_
      refine lv_iload_n hx hb dX12_worthAt_24 rfl (lv_at hl 1 rfl) ?_
      refine lv_imul hx hb dX12_worthAt_25 ?_
      refine lv_iload hx hb dX12_worthAt_26 (lv_at hl 4 rfl) ?_
      refine lv_iadd hx hb dX12_worthAt_28 ?_
      obtain ⟨c4, h⟩ := f_n h
      refine va_ialdE (v := (σ1.1 202 (((((200 : Int32) * y1) + z5) : Int32).toNatClampNeg))) hx hb hK hP _ 0 (mg_202 G Z Y σ1) rfl c4 dX12_worthAt_29 rfl ?_
      refine lv_istore (lv' := [(6, .int (σ1.1 202 (((((200 : Int32) * y1) + z5) : Int32).toNatClampNeg))), (0, .ref (G.2.1 200)), (1, .int y1), (2, .long y2), (4, .int z4), (5, .int z5)]) hx hb dX12_worthAt_30 hl (by decide) rfl (fun ls hl => ?_)
      refine lv_iload hx hb dX12_worthAt_32 (lv_at hl 0 rfl) ?_
      refine lv_bipush (v := 6) hx hb dX12_worthAt_34 (by decide) ?_
      refine lv_icmp_ge (tgt := 59) hx hb dX12_worthAt_36 (by decide) (fun c5 => ?_) (fun c5 => ?_)
      · skip
        have h := f_t c5 h
        refine lv_iload hx hb dX12_worthAt_59 (lv_at hl 0 rfl) ?_
        refine lv_bipush (v := 6) hx hb dX12_worthAt_61 (by decide) ?_
        refine lv_icmp_ne (tgt := 93) hx hb dX12_worthAt_63 (by decide) (fun c6 => ?_) (fun c6 => ?_)
        · skip
          have h := f_f c6 h
          refine lv_aload_n hx hb dX12_worthAt_93 rfl (lv_at hl 1 rfl) ?_
          refine va_get (D := D) (ci := 12) (v := .ref (G.2.1 207)) (C := RX12) (T := TX12) (N := 59) hx hb hts inU_X12 hown hK hP _ (mg_200 G Z Y σ1) rfl 17 (by decide) (hts _ wd_1265) (fun _ h9 => h9) rfl dX12_worthAt_94 ?_
          refine lv_iload hx hb dX12_worthAt_97 (lv_at hl 4 rfl) ?_
          refine lv_iconst (v := 2) hx hb dX12_worthAt_99 (by decide) ?_
          refine lv_isub hx hb dX12_worthAt_100 ?_
          obtain ⟨c7, h⟩ := f_n h
          refine va_laldE (v := (σ1.2.1 207 (((z4 - (2 : Int32)) : Int32).toNatClampNeg))) hx hb hK hP _ 1 (mg_207 G Z Y σ1) rfl c7 dX12_worthAt_101 rfl ?_
          refine lv_lstore (lv' := [(7, .long (σ1.2.1 207 (((z4 - (2 : Int32)) : Int32).toNatClampNeg))), (6, .int (σ1.1 202 (((((200 : Int32) * y1) + z5) : Int32).toNatClampNeg))), (0, .ref (G.2.1 200)), (1, .int y1), (2, .long y2), (4, .int z4), (5, .int z5)]) hx hb dX12_worthAt_102 hl (by decide) rfl (fun ls hl => ?_)
          refine lv_aload_n hx hb dX12_worthAt_104 rfl (lv_at hl 2 rfl) ?_
          refine va_get (D := D) (ci := 12) (v := .ref (G.2.1 207)) (C := RX12) (T := TX12) (N := 59) hx hb hts inU_X12 hown hK hP _ (mg_200 G Z Y σ1) rfl 17 (by decide) (hts _ wd_1265) (fun _ h9 => h9) rfl dX12_worthAt_105 ?_
          refine lv_iload hx hb dX12_worthAt_108 (lv_at hl 5 rfl) ?_
          refine lv_iconst (v := 1) hx hb dX12_worthAt_110 (by decide) ?_
          refine lv_isub hx hb dX12_worthAt_111 ?_
          obtain ⟨c8, h⟩ := f_n h
          refine va_laldE (v := (σ1.2.1 207 (((z4 - (1 : Int32)) : Int32).toNatClampNeg))) hx hb hK hP _ 1 (mg_207 G Z Y σ1) rfl c8 dX12_worthAt_112 rfl ?_
          refine lv_lstore (lv' := [(9, .long (σ1.2.1 207 (((z4 - (1 : Int32)) : Int32).toNatClampNeg))), (7, .long (σ1.2.1 207 (((z4 - (2 : Int32)) : Int32).toNatClampNeg))), (6, .int (σ1.1 202 (((((200 : Int32) * y1) + z5) : Int32).toNatClampNeg))), (0, .ref (G.2.1 200)), (1, .int y1), (2, .long y2), (4, .int z4), (5, .int z5)]) hx hb dX12_worthAt_113 hl (by decide) rfl (fun ls hl => ?_)
          refine lv_iinc (v := (z4 + (-1 : Int32))) (lv' := [(4, .int (z4 + (-1 : Int32))), (9, .long (σ1.2.1 207 (((z4 - (1 : Int32)) : Int32).toNatClampNeg))), (7, .long (σ1.2.1 207 (((z4 - (2 : Int32)) : Int32).toNatClampNeg))), (6, .int (σ1.1 202 (((((200 : Int32) * y1) + z5) : Int32).toNatClampNeg))), (0, .ref (G.2.1 200)), (1, .int y1), (2, .long y2), (5, .int z5)]) hx hb dX12_worthAt_115 hl (k := 6) rfl rfl (by decide) rfl (fun ls hl => ?_)
          refine lv_lload hx hb dX12_worthAt_118 (lv_at hl 2 rfl) ?_
          refine lv_lload hx hb dX12_worthAt_120 (lv_at hl 1 rfl) ?_
          refine lv_lmul hx hb dX12_worthAt_122 ?_
          refine lv_lload_n hx hb dX12_worthAt_123 rfl (lv_at hl 6 rfl) ?_
          obtain ⟨c9, h⟩ := f_n h
          refine lv_lrem hx hb dX12_worthAt_124 c9 ?_
          refine lv_lstore (lv' := [(11, .long (((σ1.2.1 207 (((z4 - (2 : Int32)) : Int32).toNatClampNeg)) * (σ1.2.1 207 (((z4 - (1 : Int32)) : Int32).toNatClampNeg))) - ((σ1.2.1 207 (((z4 - (2 : Int32)) : Int32).toNatClampNeg)) * (σ1.2.1 207 (((z4 - (1 : Int32)) : Int32).toNatClampNeg))) / y2 * y2)), (4, .int (z4 + (-1 : Int32))), (9, .long (σ1.2.1 207 (((z4 - (1 : Int32)) : Int32).toNatClampNeg))), (7, .long (σ1.2.1 207 (((z4 - (2 : Int32)) : Int32).toNatClampNeg))), (6, .int (σ1.1 202 (((((200 : Int32) * y1) + z5) : Int32).toNatClampNeg))), (0, .ref (G.2.1 200)), (1, .int y1), (2, .long y2), (5, .int z5)]) hx hb dX12_worthAt_125 hl (by decide) rfl (fun ls hl => ?_)
          refine lv_aload_n hx hb dX12_worthAt_127 rfl (lv_at hl 5 rfl) ?_
          refine va_get (D := D) (ci := 12) (v := .ref (G.2.1 207)) (C := RX12) (T := TX12) (N := 59) hx hb hts inU_X12 hown hK hP _ (mg_200 G Z Y σ1) rfl 17 (by decide) (hts _ wd_1265) (fun _ h9 => h9) rfl dX12_worthAt_128 ?_
          refine lv_iload hx hb dX12_worthAt_131 (lv_at hl 1 rfl) ?_
          refine lv_iconst (v := 1) hx hb dX12_worthAt_133 (by decide) ?_
          refine lv_isub hx hb dX12_worthAt_134 ?_
          refine lv_iload hx hb dX12_worthAt_135 (lv_at hl 4 rfl) ?_
          refine lv_bipush (v := 7) hx hb dX12_worthAt_137 (by decide) ?_
          refine lv_icmp_ne (tgt := 147) hx hb dX12_worthAt_139 (by decide) (fun c10 => ?_) (fun c10 => ?_)
          · skip
            have h := f_f c10 h
            refine lv_lload hx hb dX12_worthAt_147 (lv_at hl 3 rfl) ?_
            refine lv_lload hx hb dX12_worthAt_149 (lv_at hl 2 rfl) ?_
            refine lv_ladd hx hb dX12_worthAt_151 ?_
            refine lv_lload hx hb dX12_worthAt_152 (lv_at hl 0 rfl) ?_
            refine lv_lsub hx hb dX12_worthAt_154 ?_
            refine lv_lload_n hx hb dX12_worthAt_155 rfl (lv_at hl 7 rfl) ?_
            obtain ⟨q11, hq11, h⟩ := f_b h
            refine cl_S (w := (mW G Z Y σ1)) (w' := (mW G Z Y σ1)) (rv := some (.long q11)) (bytes := cX12_rest) (maxL := 6) (ret := (some .long)) (As := [.long (((σ1.2.1 207 (((z4 - (2 : Int32)) : Int32).toNatClampNeg)) + (σ1.2.1 207 (((z4 - (1 : Int32)) : Int32).toNatClampNeg))) - (((σ1.2.1 207 (((z4 - (2 : Int32)) : Int32).toNatClampNeg)) * (σ1.2.1 207 (((z4 - (1 : Int32)) : Int32).toNatClampNeg))) - ((σ1.2.1 207 (((z4 - (2 : Int32)) : Int32).toNatClampNeg)) * (σ1.2.1 207 (((z4 - (1 : Int32)) : Int32).toNatClampNeg))) / y2 * y2)), .long y2]) (rest := [.int ((z4 + (-1 : Int32)) - (1 : Int32)), .ref (G.2.1 207)]) (stk := [.long q11, .int ((z4 + (-1 : Int32)) - (1 : Int32)), .ref (G.2.1 207)]) ⟨hx, hb, hml, hown, hts⟩ hK hE hA hP hD hS (c_X12_rest l D G (mW G Z Y σ1) (((σ1.2.1 207 (((z4 - (2 : Int32)) : Int32).toNatClampNeg)) + (σ1.2.1 207 (((z4 - (1 : Int32)) : Int32).toNatClampNeg))) - (((σ1.2.1 207 (((z4 - (2 : Int32)) : Int32).toNatClampNeg)) * (σ1.2.1 207 (((z4 - (1 : Int32)) : Int32).toNatClampNeg))) - ((σ1.2.1 207 (((z4 - (2 : Int32)) : Int32).toNatClampNeg)) * (σ1.2.1 207 (((z4 - (1 : Int32)) : Int32).toNatClampNeg))) / y2 * y2)) y2 q11 hq11) (mkS hts wd_1514 wd_1515 wd_11 wd_1516 rfl rfl hd_X12_rest ⟨Nat.le_of_ble_eq_true rfl, Nat.le_of_ble_eq_true rfl⟩) rfl hl.1 rfl (Nat.le_of_ble_eq_true rfl) dX12_worthAt_156 ⟨Nat.zero_le _, Nat.zero_le _⟩ rfl (fun H locs hP hD hS => ?_)
            obtain ⟨c12, h⟩ := f_n h
            refine va_last hx hb hK hP hD hS _ 1 (mg_207 G Z Y σ1) rfl c12 dX12_worthAt_159 (fun H locs hP hD hS => ?_)
            have hP := wrP (mp_207 G Z Y σ1 _ _) hP
            have hD := wrD (mp_207 G Z Y σ1 _ _) hD
            refine lv_iinc (v := (z5 + 1)) (lv' := [(5, .int (z5 + 1)), (11, .long (((σ1.2.1 207 (((z4 - (2 : Int32)) : Int32).toNatClampNeg)) * (σ1.2.1 207 (((z4 - (1 : Int32)) : Int32).toNatClampNeg))) - ((σ1.2.1 207 (((z4 - (2 : Int32)) : Int32).toNatClampNeg)) * (σ1.2.1 207 (((z4 - (1 : Int32)) : Int32).toNatClampNeg))) / y2 * y2)), (4, .int (z4 + (-1 : Int32))), (9, .long (σ1.2.1 207 (((z4 - (1 : Int32)) : Int32).toNatClampNeg))), (7, .long (σ1.2.1 207 (((z4 - (2 : Int32)) : Int32).toNatClampNeg))), (6, .int (σ1.1 202 (((((200 : Int32) * y1) + z5) : Int32).toNatClampNeg))), (0, .ref (G.2.1 200)), (1, .int y1), (2, .long y2)]) hx hb dX12_worthAt_160 hl (k := 8) rfl rfl (by decide) rfl (fun ls hl => ?_)
            refine lv_goto (tgt := 6) hx hb dX12_worthAt_163 (by decide) ?_
            exact ih (sJ σ1 207 ((((z4 + (-1 : Int32)) - (1 : Int32)) : Int32).toNatClampNeg) q11) (z4 + (-1 : Int32)) (z5 + 1) h _ _ _ hP hD hS (lv_sub hl [6, 7, 8, 2, 0] rfl)
          · skip
            have h := f_t c10 h
            refine lv_lload hx hb dX12_worthAt_142 (lv_at hl 0 rfl) ?_
            refine lv_goto (tgt := 159) hx hb dX12_worthAt_144 (by decide) ?_
            obtain ⟨c13, h⟩ := f_n h
            refine va_last hx hb hK hP hD hS _ 1 (mg_207 G Z Y σ1) rfl c13 dX12_worthAt_159 (fun H locs hP hD hS => ?_)
            have hP := wrP (mp_207 G Z Y σ1 _ _) hP
            have hD := wrD (mp_207 G Z Y σ1 _ _) hD
            refine lv_iinc (v := (z5 + 1)) (lv' := [(5, .int (z5 + 1)), (11, .long (((σ1.2.1 207 (((z4 - (2 : Int32)) : Int32).toNatClampNeg)) * (σ1.2.1 207 (((z4 - (1 : Int32)) : Int32).toNatClampNeg))) - ((σ1.2.1 207 (((z4 - (2 : Int32)) : Int32).toNatClampNeg)) * (σ1.2.1 207 (((z4 - (1 : Int32)) : Int32).toNatClampNeg))) / y2 * y2)), (4, .int (z4 + (-1 : Int32))), (9, .long (σ1.2.1 207 (((z4 - (1 : Int32)) : Int32).toNatClampNeg))), (7, .long (σ1.2.1 207 (((z4 - (2 : Int32)) : Int32).toNatClampNeg))), (6, .int (σ1.1 202 (((((200 : Int32) * y1) + z5) : Int32).toNatClampNeg))), (0, .ref (G.2.1 200)), (1, .int y1), (2, .long y2)]) hx hb dX12_worthAt_160 hl (k := 8) rfl rfl (by decide) rfl (fun ls hl => ?_)
            refine lv_goto (tgt := 6) hx hb dX12_worthAt_163 (by decide) ?_
            exact ih (sJ σ1 207 ((((z4 + (-1 : Int32)) - (1 : Int32)) : Int32).toNatClampNeg) (((σ1.2.1 207 (((z4 - (2 : Int32)) : Int32).toNatClampNeg)) * (σ1.2.1 207 (((z4 - (1 : Int32)) : Int32).toNatClampNeg))) - ((σ1.2.1 207 (((z4 - (2 : Int32)) : Int32).toNatClampNeg)) * (σ1.2.1 207 (((z4 - (1 : Int32)) : Int32).toNatClampNeg))) / y2 * y2)) (z4 + (-1 : Int32)) (z5 + 1) h _ _ _ hP hD hS (lv_sub hl [6, 7, 8, 2, 0] rfl)
        · skip
          have h := f_t c6 h
          refine lv_aload_n hx hb dX12_worthAt_66 rfl (lv_at hl 1 rfl) ?_
          refine va_get (D := D) (ci := 12) (v := .ref (G.2.1 207)) (C := RX12) (T := TX12) (N := 59) hx hb hts inU_X12 hown hK hP _ (mg_200 G Z Y σ1) rfl 17 (by decide) (hts _ wd_1265) (fun _ h9 => h9) rfl dX12_worthAt_67 ?_
          refine lv_iload hx hb dX12_worthAt_70 (lv_at hl 4 rfl) ?_
          refine lv_iconst (v := 1) hx hb dX12_worthAt_72 (by decide) ?_
          refine lv_isub hx hb dX12_worthAt_73 ?_
          refine lv_lconst (v := 1) hx hb dX12_worthAt_74 (by decide) ?_
          refine lv_aload_n hx hb dX12_worthAt_75 rfl (lv_at hl 1 rfl) ?_
          refine va_get (D := D) (ci := 12) (v := .ref (G.2.1 207)) (C := RX12) (T := TX12) (N := 59) hx hb hts inU_X12 hown hK hP _ (mg_200 G Z Y σ1) rfl 17 (by decide) (hts _ wd_1265) (fun _ h9 => h9) rfl dX12_worthAt_76 ?_
          refine lv_iload hx hb dX12_worthAt_79 (lv_at hl 4 rfl) ?_
          refine lv_iconst (v := 1) hx hb dX12_worthAt_81 (by decide) ?_
          refine lv_isub hx hb dX12_worthAt_82 ?_
          obtain ⟨c14, h⟩ := f_n h
          refine va_laldE (v := (σ1.2.1 207 (((z4 - (1 : Int32)) : Int32).toNatClampNeg))) hx hb hK hP _ 1 (mg_207 G Z Y σ1) rfl c14 dX12_worthAt_83 rfl ?_
          refine lv_lsub hx hb dX12_worthAt_84 ?_
          refine lv_lload_n hx hb dX12_worthAt_85 rfl (lv_at hl 3 rfl) ?_
          obtain ⟨q15, hq15, h⟩ := f_b h
          refine cl_S (w := (mW G Z Y σ1)) (w' := (mW G Z Y σ1)) (rv := some (.long q15)) (bytes := cX12_rest) (maxL := 6) (ret := (some .long)) (As := [.long ((1 : Int64) - (σ1.2.1 207 (((z4 - (1 : Int32)) : Int32).toNatClampNeg))), .long y2]) (rest := [.int (z4 - (1 : Int32)), .ref (G.2.1 207)]) (stk := [.long q15, .int (z4 - (1 : Int32)), .ref (G.2.1 207)]) ⟨hx, hb, hml, hown, hts⟩ hK hE hA hP hD hS (c_X12_rest l D G (mW G Z Y σ1) ((1 : Int64) - (σ1.2.1 207 (((z4 - (1 : Int32)) : Int32).toNatClampNeg))) y2 q15 hq15) (mkS hts wd_1514 wd_1515 wd_11 wd_1516 rfl rfl hd_X12_rest ⟨Nat.le_of_ble_eq_true rfl, Nat.le_of_ble_eq_true rfl⟩) rfl hl.1 rfl (Nat.le_of_ble_eq_true rfl) dX12_worthAt_86 ⟨Nat.zero_le _, Nat.zero_le _⟩ rfl (fun H locs hP hD hS => ?_)
          obtain ⟨c16, h⟩ := f_n h
          refine va_last hx hb hK hP hD hS _ 1 (mg_207 G Z Y σ1) rfl c16 dX12_worthAt_89 (fun H locs hP hD hS => ?_)
          have hP := wrP (mp_207 G Z Y σ1 _ _) hP
          have hD := wrD (mp_207 G Z Y σ1 _ _) hD
          refine lv_goto (tgt := 160) hx hb dX12_worthAt_90 (by decide) ?_
          refine lv_iinc (v := (z5 + 1)) (lv' := [(5, .int (z5 + 1)), (6, .int (σ1.1 202 (((((200 : Int32) * y1) + z5) : Int32).toNatClampNeg))), (0, .ref (G.2.1 200)), (1, .int y1), (2, .long y2), (4, .int z4)]) hx hb dX12_worthAt_160 hl (k := 5) rfl rfl (by decide) rfl (fun ls hl => ?_)
          refine lv_goto (tgt := 6) hx hb dX12_worthAt_163 (by decide) ?_
          exact ih (sJ σ1 207 (((z4 - (1 : Int32)) : Int32).toNatClampNeg) q15) z4 (z5 + 1) h _ _ _ hP hD hS (lv_sub hl [2, 3, 4, 5, 0] rfl)
      · skip
        have h := f_f c5 h
        refine lv_aload_n hx hb dX12_worthAt_39 rfl (lv_at hl 1 rfl) ?_
        refine va_get (D := D) (ci := 12) (v := .ref (G.2.1 207)) (C := RX12) (T := TX12) (N := 59) hx hb hts inU_X12 hown hK hP _ (mg_200 G Z Y σ1) rfl 17 (by decide) (hts _ wd_1265) (fun _ h9 => h9) rfl dX12_worthAt_40 ?_
        refine lv_iload hx hb dX12_worthAt_43 (lv_at hl 4 rfl) ?_
        refine lv_aload_n hx hb dX12_worthAt_45 rfl (lv_at hl 1 rfl) ?_
        refine va_get (D := D) (ci := 12) (v := .ref (G.2.1 208)) (C := RX12) (T := TX12) (N := 59) hx hb hts inU_X12 hown hK hP _ (mg_200 G Z Y σ1) rfl 18 (by decide) (hts _ wd_1266) (fun _ h9 => h9) rfl dX12_worthAt_46 ?_
        refine lv_iload hx hb dX12_worthAt_49 (lv_at hl 0 rfl) ?_
        obtain ⟨c17, h⟩ := f_n h
        refine va_laldE (v := (σ1.2.1 208 (((σ1.1 202 (((((200 : Int32) * y1) + z5) : Int32).toNatClampNeg)) : Int32).toNatClampNeg))) hx hb hK hP _ 1 (mg_208 G Z Y σ1) rfl c17 dX12_worthAt_51 rfl ?_
        obtain ⟨c18, h⟩ := f_n h
        refine va_last hx hb hK hP hD hS _ 1 (mg_207 G Z Y σ1) rfl c18 dX12_worthAt_52 (fun H locs hP hD hS => ?_)
        have hP := wrP (mp_207 G Z Y σ1 _ _) hP
        have hD := wrD (mp_207 G Z Y σ1 _ _) hD
        refine lv_iinc (v := (z4 + 1)) (lv' := [(4, .int (z4 + 1)), (6, .int (σ1.1 202 (((((200 : Int32) * y1) + z5) : Int32).toNatClampNeg))), (0, .ref (G.2.1 200)), (1, .int y1), (2, .long y2), (5, .int z5)]) hx hb dX12_worthAt_53 hl (k := 4) rfl rfl (by decide) rfl (fun ls hl => ?_)
        refine lv_goto (tgt := 160) hx hb dX12_worthAt_56 (by decide) ?_
        refine lv_iinc (v := (z5 + 1)) (lv' := [(5, .int (z5 + 1)), (4, .int (z4 + 1)), (6, .int (σ1.1 202 (((((200 : Int32) * y1) + z5) : Int32).toNatClampNeg))), (0, .ref (G.2.1 200)), (1, .int y1), (2, .long y2)]) hx hb dX12_worthAt_160 hl (k := 5) rfl rfl (by decide) rfl (fun ls hl => ?_)
        refine lv_goto (tgt := 6) hx hb dX12_worthAt_163 (by decide) ?_
        exact ih (sJ σ1 207 ((z4 : Int32).toNatClampNeg) (σ1.2.1 208 (((σ1.1 202 (((((200 : Int32) * y1) + z5) : Int32).toNatClampNeg)) : Int32).toNatClampNeg))) (z4 + 1) (z5 + 1) h _ _ _ hP hD hS (lv_sub hl [3, 4, 5, 1, 0] rfl)
set_option maxRecDepth 100000 in
set_option maxHeartbeats 8000000 in
theorem c_X12_worthAt (l : Launch) (D : va_G) (G : hG) (Z : hZ) (Y : va_W) (σ0 : hSt) (F : Nat) (x1 : Int32) (x2 : Int64) (res : (Int64 × hSt)) (h : f_X12_worthAt F Z σ0 x1 x2 = some res) : CT l yX12_worthAt cX12_worthAt 13 (some .long) rm_X12_worthAt D G 0 0 [.ref (G.2.1 200), .int x1, .long x2] (mW G Z Y σ0) (mW G Z Y res.2) (some (.long res.1)) := by
  unfold f_X12_worthAt at h
  refine CT.mk (cc := cX12_worthAt) (maxL := 13) (ret := (some .long)) (own := RX12) (plainFor_of_name (by decide)) rfl (Nat.le_of_ble_eq_true rfl) ?_
  intro p e s m args below meth c A ls C0 hnm hA hP hD hl
  obtain ⟨hx, hb, hr, hml, hown, hts, hlocks, hK, hE⟩ := id C0
  have hS : va_S A s.heap s.heap [] := va_S.rf
  have hl : lv_has ls 13 [(0, .ref (G.2.1 200)), (1, .int x1), (2, .long x2)] := hl
  refine lv_iconst (v := 0) hx hb dX12_worthAt_0 (by decide) ?_
  refine lv_istore (lv' := [(4, .int (0 : Int32)), (0, .ref (G.2.1 200)), (1, .int x1), (2, .long x2)]) hx hb dX12_worthAt_1 hl (by decide) rfl (fun ls hl => ?_)
  refine lv_iconst (v := 0) hx hb dX12_worthAt_3 (by decide) ?_
  refine lv_istore (lv' := [(5, .int (0 : Int32)), (4, .int (0 : Int32)), (0, .ref (G.2.1 200)), (1, .int x1), (2, .long x2)]) hx hb dX12_worthAt_4 hl (by decide) rfl (fun ls hl => ?_)
  refine W_X12_worthAt_L6 l D G Z Y σ0 F x1 x2 x1 x2 res C0 hA F σ0 (0 : Int32) (0 : Int32) h _ _ _ hP hD hS (lv_sub hl [2, 3, 4, 1, 0] rfl)
def rmG_Ms (d : Nat) : Room := { frames := 2 + d, cells := 0, slots := 0, locals := 57 + d * 26 }
set_option maxRecDepth 100000 in
set_option maxHeartbeats 8000000 in
theorem o_X12_sumFrom (l : Launch) (D : va_G) (G : hG) (Z : hZ) (Y : va_W) (F : Nat) (d : Nat) (u_X12_sumFrom : (hSt → Int32 → Int32 → Int64 → Option (Int64 × hSt))) (hu_X12_sumFrom : ∀ (σ0 : hSt) (x1 : Int32) (x2 : Int32) (x3 : Int64) (res : (Int64 × hSt)), u_X12_sumFrom σ0 x1 x2 x3 = some res → CT l yX12_sumFrom cX12_sumFrom 7 (some .long) (rmG_Ms d) D G 0 0 [.ref (G.2.1 200), .int x1, .int x2, .long x3] (mW G Z Y σ0) (mW G Z Y res.2) (some (.long res.1))) (σ0 : hSt) (x1 : Int32) (x2 : Int32) (x3 : Int64) (res : (Int64 × hSt)) (h : b_X12_sumFrom F Z u_X12_sumFrom σ0 x1 x2 x3 = some res) : CT l yX12_sumFrom cX12_sumFrom 7 (some .long) (rmG_Ms (d + 1)) D G 0 0 [.ref (G.2.1 200), .int x1, .int x2, .long x3] (mW G Z Y σ0) (mW G Z Y res.2) (some (.long res.1)) := by
  unfold b_X12_sumFrom at h
  refine CT.mk (cc := cX12_sumFrom) (maxL := 7) (ret := (some .long)) (own := RX12) (plainFor_of_name (by decide)) rfl (Nat.le_of_ble_eq_true rfl) ?_
  intro p e s m args below meth c A ls C0 hnm hA hP hD hl
  obtain ⟨hx, hb, hr, hml, hown, hts, hlocks, hK, hE⟩ := id C0
  have hS : va_S A s.heap s.heap [] := va_S.rf
  have hl : lv_has ls 7 [(0, .ref (G.2.1 200)), (1, .int x1), (2, .int x2), (3, .long x3)] := hl
  refine lv_iload_n hx hb dX12_sumFrom_0 rfl (lv_at hl 2 rfl) ?_
  refine lv_aload_n hx hb dX12_sumFrom_1 rfl (lv_at hl 0 rfl) ?_
  refine va_get (D := D) (ci := 12) (v := .ref (G.2.1 204)) (C := RX12) (T := TX12) (N := 59) hx hb hts inU_X12 hown hK hP _ (mg_200 G Z Y σ0) rfl 12 (by decide) (hts _ wd_1260) (fun _ h9 => h9) rfl dX12_sumFrom_2 ?_
  refine lv_iload_n hx hb dX12_sumFrom_5 rfl (lv_at hl 1 rfl) ?_
  obtain ⟨c1, h⟩ := f_n h
  refine va_ialdE (v := (σ0.1 204 ((x1 : Int32).toNatClampNeg))) hx hb hK hP _ 0 (mg_204 G Z Y σ0) rfl c1 dX12_sumFrom_6 rfl ?_
  refine lv_icmp_lt (tgt := 17) hx hb dX12_sumFrom_7 (by decide) (fun c2 => ?_) (fun c2 => ?_)
  · skip
    have h := f_t c2 h
    refine lv_aload_n hx hb dX12_sumFrom_17 rfl (lv_at hl 0 rfl) ?_
    refine va_get (D := D) (ci := 12) (v := .ref (G.2.1 208)) (C := RX12) (T := TX12) (N := 59) hx hb hts inU_X12 hown hK hP _ (mg_200 G Z Y σ0) rfl 18 (by decide) (hts _ wd_1266) (fun _ h9 => h9) rfl dX12_sumFrom_18 ?_
    refine lv_iload_n hx hb dX12_sumFrom_21 rfl (lv_at hl 2 rfl) ?_
    refine lv_lconst (v := 0) hx hb dX12_sumFrom_22 (by decide) ?_
    obtain ⟨c3, h⟩ := f_n h
    refine va_last hx hb hK hP hD hS _ 1 (mg_208 G Z Y σ0) rfl c3 dX12_sumFrom_23 (fun H locs hP hD hS => ?_)
    have hP := wrP (mp_208 G Z Y σ0 _ _) hP
    have hD := wrD (mp_208 G Z Y σ0 _ _) hD
    refine lv_aload_n hx hb dX12_sumFrom_24 rfl (lv_at hl 0 rfl) ?_
    refine lv_iload_n hx hb dX12_sumFrom_25 rfl (lv_at hl 1 rfl) ?_
    refine lv_iload_n hx hb dX12_sumFrom_26 rfl (lv_at hl 2 rfl) ?_
    refine lv_iconst (v := 1) hx hb dX12_sumFrom_27 (by decide) ?_
    refine lv_iadd hx hb dX12_sumFrom_28 ?_
    refine lv_lload_n hx hb dX12_sumFrom_29 rfl (lv_at hl 3 rfl) ?_
    obtain ⟨q4, hq4, h⟩ := f_b h
    refine cl_V (w := (mW G Z Y (sJ σ0 208 ((x2 : Int32).toNatClampNeg) (0 : Int64)))) (w' := (mW G Z Y q4.2)) (rv := some (.long q4.1)) (bytes := cX12_sumFrom) (maxL := 7) (ret := (some .long)) (C := RX12) (As := [.int x1, .int (x2 + (1 : Int32)), .long x3]) (rest := []) (stk := [.long q4.1]) ⟨hx, hb, hml, hown, hts⟩ hK hE hA hP hD hS (hu_X12_sumFrom (sJ σ0 208 ((x2 : Int32).toNatClampNeg) (0 : Int64)) x1 (x2 + (1 : Int32)) x3 q4 hq4) (cwV 3 hts (gwV wd_1506 wd_1508 wp_59 wd_11 wd_1509) rfl rfl rfl hd_X12_sumFrom ⟨by show 2 + d + 1 ≤ 2 + (d + 1); omega, by show 8 + (7 + 11) + (57 + d * 26) ≤ 57 + (d + 1) * 26; omega⟩) (mg_200 G Z Y (sJ σ0 208 ((x2 : Int32).toNatClampNeg) (0 : Int64))) rfl rfl rfl hl.1 rfl (Nat.le_of_ble_eq_true rfl) dX12_sumFrom_30 ⟨Nat.zero_le _, Nat.zero_le _⟩ rfl (fun H locs hP hD hS => ?_)
    refine lv_lstore (lv' := [(5, .long q4.1), (0, .ref (G.2.1 200)), (1, .int x1), (2, .int x2), (3, .long x3)]) hx hb dX12_sumFrom_33 hl (by decide) rfl (fun ls hl => ?_)
    refine lv_aload_n hx hb dX12_sumFrom_35 rfl (lv_at hl 1 rfl) ?_
    refine va_get (D := D) (ci := 12) (v := .ref (G.2.1 208)) (C := RX12) (T := TX12) (N := 59) hx hb hts inU_X12 hown hK hP _ (mg_200 G Z Y q4.2) rfl 18 (by decide) (hts _ wd_1266) (fun _ h9 => h9) rfl dX12_sumFrom_36 ?_
    refine lv_iload_n hx hb dX12_sumFrom_39 rfl (lv_at hl 3 rfl) ?_
    refine lv_lconst (v := 1) hx hb dX12_sumFrom_40 (by decide) ?_
    obtain ⟨c5, h⟩ := f_n h
    refine va_last hx hb hK hP hD hS _ 1 (mg_208 G Z Y q4.2) rfl c5 dX12_sumFrom_41 (fun H locs hP hD hS => ?_)
    have hP := wrP (mp_208 G Z Y q4.2 _ _) hP
    have hD := wrD (mp_208 G Z Y q4.2 _ _) hD
    refine lv_lload hx hb dX12_sumFrom_42 (lv_at hl 0 rfl) ?_
    refine lv_aload_n hx hb dX12_sumFrom_44 rfl (lv_at hl 1 rfl) ?_
    refine lv_iload_n hx hb dX12_sumFrom_45 rfl (lv_at hl 2 rfl) ?_
    refine lv_iload_n hx hb dX12_sumFrom_46 rfl (lv_at hl 3 rfl) ?_
    refine lv_iconst (v := 1) hx hb dX12_sumFrom_47 (by decide) ?_
    refine lv_iadd hx hb dX12_sumFrom_48 ?_
    refine lv_lload_n hx hb dX12_sumFrom_49 rfl (lv_at hl 4 rfl) ?_
    obtain ⟨q6, hq6, h⟩ := f_b h
    refine cl_V (w := (mW G Z Y (sJ q4.2 208 ((x2 : Int32).toNatClampNeg) (1 : Int64)))) (w' := (mW G Z Y q6.2)) (rv := some (.long q6.1)) (bytes := cX12_sumFrom) (maxL := 7) (ret := (some .long)) (C := RX12) (As := [.int x1, .int (x2 + (1 : Int32)), .long x3]) (rest := [.long q4.1]) (stk := [.long q6.1, .long q4.1]) ⟨hx, hb, hml, hown, hts⟩ hK hE hA hP hD hS (hu_X12_sumFrom (sJ q4.2 208 ((x2 : Int32).toNatClampNeg) (1 : Int64)) x1 (x2 + (1 : Int32)) x3 q6 hq6) (cwV 3 hts (gwV wd_1506 wd_1508 wp_59 wd_11 wd_1509) rfl rfl rfl hd_X12_sumFrom ⟨by show 2 + d + 1 ≤ 2 + (d + 1); omega, by show 8 + (7 + 11) + (57 + d * 26) ≤ 57 + (d + 1) * 26; omega⟩) (mg_200 G Z Y (sJ q4.2 208 ((x2 : Int32).toNatClampNeg) (1 : Int64))) rfl rfl rfl hl.1 rfl (Nat.le_of_ble_eq_true rfl) dX12_sumFrom_50 ⟨Nat.zero_le _, Nat.zero_le _⟩ rfl (fun H locs hP hD hS => ?_)
    refine lv_ladd hx hb dX12_sumFrom_53 ?_
    refine lv_lload_n hx hb dX12_sumFrom_54 rfl (lv_at hl 4 rfl) ?_
    obtain ⟨c7, h⟩ := f_n h
    refine lv_lrem hx hb dX12_sumFrom_55 c7 ?_
    obtain rfl := Option.some.inj h
    exact W.lret (v := ((q4.1 + q6.1) - (q4.1 + q6.1) / x3 * x3)) hx hb hr (q_end hK hP hD hS) hS.2.2 dX12_sumFrom_56
  · skip
    have h := f_f c2 h
    refine lv_aload_n hx hb dX12_sumFrom_10 rfl (lv_at hl 0 rfl) ?_
    refine lv_iload_n hx hb dX12_sumFrom_11 rfl (lv_at hl 1 rfl) ?_
    refine lv_lload_n hx hb dX12_sumFrom_12 rfl (lv_at hl 3 rfl) ?_
    obtain ⟨q8, hq8, h⟩ := f_b h
    refine cl_V (w := (mW G Z Y σ0)) (w' := (mW G Z Y q8.2)) (rv := some (.long q8.1)) (bytes := cX12_worthAt) (maxL := 13) (ret := (some .long)) (C := RX12) (As := [.int x1, .long x3]) (rest := []) (stk := [.long q8.1]) ⟨hx, hb, hml, hown, hts⟩ hK hE hA hP hD hS (c_X12_worthAt l D G Z Y σ0 F x1 x3 q8 hq8) (cwV 2 hts (gwV wd_1510 wd_1512 wp_60 wd_11 wd_1513) rfl rfl rfl hd_X12_worthAt ⟨by show 1 + 1 ≤ 2 + (d + 1); omega, by show 8 + (13 + 11) + 25 ≤ 57 + (d + 1) * 26; omega⟩) (mg_200 G Z Y σ0) rfl rfl rfl hl.1 rfl (Nat.le_of_ble_eq_true rfl) dX12_sumFrom_13 ⟨Nat.zero_le _, Nat.zero_le _⟩ rfl (fun H locs hP hD hS => ?_)
    obtain rfl := Option.some.inj h
    exact W.lret (v := q8.1) hx hb hr (q_end hK hP hD hS) hS.2.2 dX12_sumFrom_16
set_option maxRecDepth 100000 in
set_option maxHeartbeats 8000000 in
theorem c_G_Ms (l : Launch) (D : va_G) (G : hG) (Z : hZ) (Y : va_W) (F : Nat) : ∀ d : Nat, (∀ (σ0 : hSt) (x1 : Int32) (x2 : Int32) (x3 : Int64) (res : (Int64 × hSt)), (G_Ms F Z d) σ0 x1 x2 x3 = some res → CT l yX12_sumFrom cX12_sumFrom 7 (some .long) (rmG_Ms d) D G 0 0 [.ref (G.2.1 200), .int x1, .int x2, .long x3] (mW G Z Y σ0) (mW G Z Y res.2) (some (.long res.1))) := by
  intro d
  induction d with
  | zero =>
    exact fun σ0 x1 x2 x3 res h => by
        have h1 : (none : Option (Int64 × hSt)) = some res := h
        cases h1
  | succ d ih =>
    have i_X12_sumFrom := ih
    exact fun σ0 x1 x2 x3 res h => o_X12_sumFrom l D G Z Y F d _ i_X12_sumFrom σ0 x1 x2 x3 res h
abbrev rm_X12_sumFrom : Room := rmG_Ms 8
theorem c_X12_sumFrom (l : Launch) (D : va_G) (G : hG) (Z : hZ) (Y : va_W) (σ0 : hSt) (F : Nat) (x1 : Int32) (x2 : Int32) (x3 : Int64) (res : (Int64 × hSt)) (h : f_X12_sumFrom F Z σ0 x1 x2 x3 = some res) : CT l yX12_sumFrom cX12_sumFrom 7 (some .long) rm_X12_sumFrom D G 0 0 [.ref (G.2.1 200), .int x1, .int x2, .long x3] (mW G Z Y σ0) (mW G Z Y res.2) (some (.long res.1)) := (c_G_Ms l D G Z Y F 8) σ0 x1 x2 x3 res h
abbrev rm_X12_countOf : Room := { frames := 11, cells := 0, slots := 0, locals := 291 }
set_option maxRecDepth 100000 in
set_option maxHeartbeats 8000000 in
theorem c_X12_countOf (l : Launch) (D : va_G) (G : hG) (Z : hZ) (Y : va_W) (σ0 : hSt) (F : Nat) (x1 : Int32) (res : (Int32 × hSt)) (h : f_X12_countOf F Z σ0 x1 = some res) : CT l yX12_countOf cX12_countOf 2 (some .int) rm_X12_countOf D G 0 0 [.ref (G.2.1 200), .int x1] (mW G Z Y σ0) (mW G Z Y res.2) (some (.int res.1)) := by
  unfold f_X12_countOf at h
  refine CT.mk (cc := cX12_countOf) (maxL := 2) (ret := (some .int)) (own := RX12) (plainFor_of_name (by decide)) rfl (Nat.le_of_ble_eq_true rfl) ?_
  intro p e s m args below meth c A ls C0 hnm hA hP hD hl
  obtain ⟨hx, hb, hr, hml, hown, hts, hlocks, hK, hE⟩ := id C0
  have hS : va_S A s.heap s.heap [] := va_S.rf
  have hl : lv_has ls 2 [(0, .ref (G.2.1 200)), (1, .int x1)] := hl
  refine lv_aload_n hx hb dX12_countOf_0 rfl (lv_at hl 0 rfl) ?_
  refine lv_iload_n hx hb dX12_countOf_1 rfl (lv_at hl 1 rfl) ?_
  refine lv_iconst (v := 0) hx hb dX12_countOf_2 (by decide) ?_
  refine lv_ldc2 (v := 1000000007) hx hb hown (hts _ wd_1505) dX12_countOf_3 ?_
  obtain ⟨q1, hq1, h⟩ := f_b h
  refine cl_V (w := (mW G Z Y σ0)) (w' := (mW G Z Y q1.2)) (rv := some (.long q1.1)) (bytes := cX12_sumFrom) (maxL := 7) (ret := (some .long)) (C := RX12) (As := [.int x1, .int (0 : Int32), .long (1000000007 : Int64)]) (rest := []) (stk := [.long q1.1]) ⟨hx, hb, hml, hown, hts⟩ hK hE hA hP hD hS (c_X12_sumFrom l D G Z Y σ0 F x1 (0 : Int32) (1000000007 : Int64) q1 hq1) (cwV 3 hts (gwV wd_1506 wd_1508 wp_59 wd_11 wd_1509) rfl rfl rfl hd_X12_sumFrom ⟨Nat.le_of_ble_eq_true rfl, Nat.le_of_ble_eq_true rfl⟩) (mg_200 G Z Y σ0) rfl rfl rfl hl.1 rfl (Nat.le_of_ble_eq_true rfl) dX12_countOf_6 ⟨Nat.zero_le _, Nat.zero_le _⟩ rfl (fun H locs hP hD hS => ?_)
  refine lv_l2i (v := (q1.1 : Int64).toInt32) hx hb dX12_countOf_9 rfl ?_
  obtain rfl := Option.some.inj h
  exact W.iret (v := (q1.1 : Int64).toInt32) hx hb hr (q_end hK hP hD hS) hS.2.2 dX12_countOf_10
abbrev rm_X12_said : Room := { frames := 12, cells := 0, slots := 0, locals := 312 }
set_option maxRecDepth 100000 in
set_option maxHeartbeats 8000000 in
theorem c_X12_said (l : Launch) (D : va_G) (G : hG) (Z : hZ) (Y : va_W) (σ0 : hSt) (F : Nat) (x1 : Int32) (x2 : Int32) (res : (Int32 × hSt)) (h : f_X12_said F Z σ0 x1 x2 = some res) : CT l yX12_said cX12_said 3 (some .int) rm_X12_said D G 0 0 [.ref (G.2.1 200), .int x1, .int x2] (mW G Z Y σ0) (mW G Z Y res.2) (some (.int res.1)) := by
  unfold f_X12_said at h
  refine CT.mk (cc := cX12_said) (maxL := 3) (ret := (some .int)) (own := RX12) (plainFor_of_name (by decide)) rfl (Nat.le_of_ble_eq_true rfl) ?_
  intro p e s m args below meth c A ls C0 hnm hA hP hD hl
  obtain ⟨hx, hb, hr, hml, hown, hts, hlocks, hK, hE⟩ := id C0
  have hS : va_S A s.heap s.heap [] := va_S.rf
  have hl : lv_has ls 3 [(0, .ref (G.2.1 200)), (1, .int x1), (2, .int x2)] := hl
  refine lv_aload_n hx hb dX12_said_0 rfl (lv_at hl 0 rfl) ?_
  refine lv_iconst (v := 0) hx hb dX12_said_1 (by decide) ?_
  refine va_put (D := D) (ci := 12) (v := .int (0 : Int32)) (ty := .int) (C := RX12) (T := TX12) (N := 59) hx hb hts inU_X12 tyX12 tyX12_ok nmX12 hown hK hP hD hS _ (mg_200 G Z Y σ0) rfl 0 (by decide) (hts _ wd_1248) (fun _ h9 => h9) rfl (by decide +kernel) rfl rfl (Nat.le_of_ble_eq_true rfl) dX12_said_2 (fun H locs hP hD hS => ?_)
  have hP := wrP (mp_200_0 G Z Y σ0 (0 : Int32)) hP
  have hD := wrD (mp_200_0 G Z Y σ0 (0 : Int32)) hD
  refine lv_aload_n hx hb dX12_said_5 rfl (lv_at hl 0 rfl) ?_
  refine lv_iload_n hx hb dX12_said_6 rfl (lv_at hl 1 rfl) ?_
  obtain ⟨q1, hq1, h⟩ := f_b h
  refine cl_V (w := (mW G Z Y (sI σ0 200 0 (0 : Int32)))) (w' := (mW G Z Y (sI σ0 200 0 (0 : Int32)))) (rv := some (.int q1)) (bytes := cX12_isSaying) (maxL := 2) (ret := (some .boolean)) (C := RX12) (As := [.int x1]) (rest := []) (stk := [.int q1]) ⟨hx, hb, hml, hown, hts⟩ hK hE hA hP hD hS (c_X12_isSaying l D G Z Y (sI σ0 200 0 (0 : Int32)) x1 q1 hq1) (cwV 1 hts (gwV wd_1493 wd_1495 wp_57 wd_11 wd_1496) rfl rfl rfl hd_X12_isSaying ⟨Nat.le_of_ble_eq_true rfl, Nat.le_of_ble_eq_true rfl⟩) (mg_200 G Z Y (sI σ0 200 0 (0 : Int32))) rfl rfl rfl hl.1 rfl (Nat.le_of_ble_eq_true rfl) dX12_said_7 ⟨Nat.zero_le _, Nat.zero_le _⟩ rfl (fun H locs hP hD hS => ?_)
  refine lv_if_eq (tgt := 25) hx hb dX12_said_10 (by decide) (fun c2 => ?_) (fun c2 => ?_)
  · skip
    have h := f_t c2 h
    refine lv_iconst (v := (-1)) hx hb dX12_said_25 (by decide) ?_
    obtain rfl := Option.some.inj h
    exact W.iret (v := (-1 : Int32)) hx hb hr (q_end hK hP hD hS) hS.2.2 dX12_said_26
  · skip
    have h := f_f c2 h
    refine lv_iload_n hx hb dX12_said_13 rfl (lv_at hl 2 rfl) ?_
    refine lv_i2l (v := (x2 : Int32).toInt64) hx hb dX12_said_14 rfl ?_
    refine lv_lconst (v := 0) hx hb dX12_said_15 (by decide) ?_
    refine lv_ldc2 (v := 8) hx hb hown (hts _ wd_1497) dX12_said_16 ?_
    obtain ⟨q3, hq3, h⟩ := f_b h
    refine cl_S (w := (mW G Z Y (sI σ0 200 0 (0 : Int32)))) (w' := (mW G Z Y (sI σ0 200 0 (0 : Int32)))) (rv := some (.int q3)) (bytes := cX12_isIn) (maxL := 6) (ret := (some .boolean)) (As := [.long (x2 : Int32).toInt64, .long (0 : Int64), .long (8 : Int64)]) (rest := []) (stk := [.int q3]) ⟨hx, hb, hml, hown, hts⟩ hK hE hA hP hD hS (c_X12_isIn l D G (mW G Z Y (sI σ0 200 0 (0 : Int32))) ((x2 : Int32).toInt64) (0 : Int64) (8 : Int64) q3 hq3) (mkS hts wd_1498 wd_1499 wd_11 wd_1500 rfl rfl hd_X12_isIn ⟨Nat.le_of_ble_eq_true rfl, Nat.le_of_ble_eq_true rfl⟩) rfl hl.1 rfl (Nat.le_of_ble_eq_true rfl) dX12_said_19 ⟨Nat.zero_le _, Nat.zero_le _⟩ rfl (fun H locs hP hD hS => ?_)
    refine lv_if_ne (tgt := 27) hx hb dX12_said_22 (by decide) (fun c4 => ?_) (fun c4 => ?_)
    · skip
      have h := f_f c4 h
      refine lv_iload_n hx hb dX12_said_27 rfl (lv_at hl 2 rfl) ?_
      refine lv_if_ne (tgt := 40) hx hb dX12_said_28 (by decide) (fun c5 => ?_) (fun c5 => ?_)
      · skip
        have h := f_f c5 h
        refine lv_iload_n hx hb dX12_said_40 rfl (lv_at hl 2 rfl) ?_
        refine lv_iconst (v := 1) hx hb dX12_said_41 (by decide) ?_
        refine lv_icmp_ne (tgt := 54) hx hb dX12_said_42 (by decide) (fun c6 => ?_) (fun c6 => ?_)
        · skip
          have h := f_f c6 h
          refine lv_iload_n hx hb dX12_said_54 rfl (lv_at hl 2 rfl) ?_
          refine lv_iconst (v := 2) hx hb dX12_said_55 (by decide) ?_
          refine lv_icmp_ne (tgt := 67) hx hb dX12_said_56 (by decide) (fun c7 => ?_) (fun c7 => ?_)
          · skip
            have h := f_f c7 h
            refine lv_aload_n hx hb dX12_said_67 rfl (lv_at hl 0 rfl) ?_
            refine va_get (D := D) (ci := 12) (v := .ref (G.2.1 205)) (C := RX12) (T := TX12) (N := 59) hx hb hts inU_X12 hown hK hP _ (mg_200 G Z Y (sI σ0 200 0 (0 : Int32))) rfl 13 (by decide) (hts _ wd_1261) (fun _ h9 => h9) rfl dX12_said_68 ?_
            refine lv_bipush (v := 6) hx hb dX12_said_71 (by decide) ?_
            refine lv_iload_n hx hb dX12_said_73 rfl (lv_at hl 1 rfl) ?_
            refine lv_imul hx hb dX12_said_74 ?_
            refine lv_iload_n hx hb dX12_said_75 rfl (lv_at hl 2 rfl) ?_
            refine lv_iadd hx hb dX12_said_76 ?_
            refine lv_iconst (v := 3) hx hb dX12_said_77 (by decide) ?_
            refine lv_isub hx hb dX12_said_78 ?_
            obtain ⟨c8, h⟩ := f_n h
            refine va_ialdE (v := (σ0.1 205 ((((((6 : Int32) * x1) + x2) - (3 : Int32)) : Int32).toNatClampNeg))) hx hb hK hP _ 0 (mg_205 G Z Y (sI σ0 200 0 (0 : Int32))) rfl c8 dX12_said_79 rfl ?_
            obtain rfl := Option.some.inj h
            exact W.iret (v := (σ0.1 205 ((((((6 : Int32) * x1) + x2) - (3 : Int32)) : Int32).toNatClampNeg))) hx hb hr (q_end hK hP hD hS) hS.2.2 dX12_said_80
          · skip
            have h := f_t c7 h
            refine lv_aload_n hx hb dX12_said_59 rfl (lv_at hl 0 rfl) ?_
            refine lv_iload_n hx hb dX12_said_60 rfl (lv_at hl 1 rfl) ?_
            obtain ⟨q9, hq9, h⟩ := f_b h
            refine cl_V (w := (mW G Z Y (sI σ0 200 0 (0 : Int32)))) (w' := (mW G Z Y q9.2)) (rv := some (.int q9.1)) (bytes := cX12_countOf) (maxL := 2) (ret := (some .int)) (C := RX12) (As := [.int x1]) (rest := []) (stk := [.int q9.1]) ⟨hx, hb, hml, hown, hts⟩ hK hE hA hP hD hS (c_X12_countOf l D G Z Y (sI σ0 200 0 (0 : Int32)) F x1 q9 hq9) (cwV 1 hts (gwV wd_1501 wd_1503 wp_58 wd_11 wd_1504) rfl rfl rfl hd_X12_countOf ⟨Nat.le_of_ble_eq_true rfl, Nat.le_of_ble_eq_true rfl⟩) (mg_200 G Z Y (sI σ0 200 0 (0 : Int32))) rfl rfl rfl hl.1 rfl (Nat.le_of_ble_eq_true rfl) dX12_said_61 ⟨Nat.zero_le _, Nat.zero_le _⟩ rfl (fun H locs hP hD hS => ?_)
            refine lv_goto (tgt := 80) hx hb dX12_said_64 (by decide) ?_
            obtain rfl := Option.some.inj h
            exact W.iret (v := q9.1) hx hb hr (q_end hK hP hD hS) hS.2.2 dX12_said_80
        · skip
          have h := f_t c6 h
          refine lv_aload_n hx hb dX12_said_45 rfl (lv_at hl 0 rfl) ?_
          refine va_get (D := D) (ci := 12) (v := .ref (G.2.1 206)) (C := RX12) (T := TX12) (N := 59) hx hb hts inU_X12 hown hK hP _ (mg_200 G Z Y (sI σ0 200 0 (0 : Int32))) rfl 14 (by decide) (hts _ wd_1262) (fun _ h9 => h9) rfl dX12_said_46 ?_
          refine lv_iload_n hx hb dX12_said_49 rfl (lv_at hl 1 rfl) ?_
          obtain ⟨c10, h⟩ := f_n h
          refine va_ialdE (v := (σ0.1 206 ((x1 : Int32).toNatClampNeg))) hx hb hK hP _ 0 (mg_206 G Z Y (sI σ0 200 0 (0 : Int32))) rfl c10 dX12_said_50 rfl ?_
          refine lv_goto (tgt := 80) hx hb dX12_said_51 (by decide) ?_
          obtain rfl := Option.some.inj h
          exact W.iret (v := (σ0.1 206 ((x1 : Int32).toNatClampNeg))) hx hb hr (q_end hK hP hD hS) hS.2.2 dX12_said_80
      · skip
        have h := f_t c5 h
        refine lv_aload_n hx hb dX12_said_31 rfl (lv_at hl 0 rfl) ?_
        refine va_get (D := D) (ci := 12) (v := .ref (G.2.1 204)) (C := RX12) (T := TX12) (N := 59) hx hb hts inU_X12 hown hK hP _ (mg_200 G Z Y (sI σ0 200 0 (0 : Int32))) rfl 12 (by decide) (hts _ wd_1260) (fun _ h9 => h9) rfl dX12_said_32 ?_
        refine lv_iload_n hx hb dX12_said_35 rfl (lv_at hl 1 rfl) ?_
        obtain ⟨c11, h⟩ := f_n h
        refine va_ialdE (v := (σ0.1 204 ((x1 : Int32).toNatClampNeg))) hx hb hK hP _ 0 (mg_204 G Z Y (sI σ0 200 0 (0 : Int32))) rfl c11 dX12_said_36 rfl ?_
        refine lv_goto (tgt := 80) hx hb dX12_said_37 (by decide) ?_
        obtain rfl := Option.some.inj h
        exact W.iret (v := (σ0.1 204 ((x1 : Int32).toNatClampNeg))) hx hb hr (q_end hK hP hD hS) hS.2.2 dX12_said_80
    · skip
      have h := f_t c4 h
      refine lv_iconst (v := (-1)) hx hb dX12_said_25 (by decide) ?_
      obtain rfl := Option.some.inj h
      exact W.iret (v := (-1 : Int32)) hx hb hr (q_end hK hP hD hS) hS.2.2 dX12_said_26
abbrev rm_X12_isTrue : Room := { frames := 2, cells := 0, slots := 0, locals := 57 }
set_option maxRecDepth 100000 in
set_option maxHeartbeats 8000000 in
theorem W_X12_isTrue_L2 {p : Program} {e : Env} {s : State} {m : MethodId} {args : Array Value} {below : List Frame} {meth : Method} {c : Code} {A : Nat → Prop} (l : Launch) (D : va_G) (G : hG) (Z : hZ) (Y : va_W) (σ0 : hSt) (F : Nat) (x1 : Int32) (x2 : Int32) (y1 : Int32) (y2 : Int32) (res : (Int32 × hSt)) (C0 : Cx p s m args meth c cX12_isTrue (some .boolean) RX12 4 D G A) (hA : ∀ q : Nat, s.heap.size ≤ q → A q) (k26 : hSt → Option (Int32 × hSt)) (hk26 : ∀ (σ1 : hSt), k26 σ1 = some res → ∀ (H : Heap) (locs : List Loc) (ls : Array Slot), va_P D vwCl (mW G Z Y σ1) H → va_D A (mW G Z Y σ1) → va_S A s.heap H locs → lv_has ls 4 [(0, .ref (G.2.1 200)), (1, .int y1)] → W p l e rm_X12_isTrue s m args below meth c H locs 0 0 (MQ below (Qg (some (.int res.1)) D (tysG G) (mW G Z Y res.2) A) args s 0 0 A) (F0 m 26 ls [])) : ∀ (n : Nat) (σ1 : hSt) (z3 : Int32), f_X12_isTrue_L2 y1 y2 k26 n σ1 z3 = some res → ∀ (H : Heap) (locs : List Loc) (ls : Array Slot), va_P D vwCl (mW G Z Y σ1) H → va_D A (mW G Z Y σ1) → va_S A s.heap H locs → lv_has ls 4 [(0, .ref (G.2.1 200)), (1, .int y1), (2, .int y2), (3, .int z3)] → W p l e rm_X12_isTrue s m args below meth c H locs 0 0 (MQ below (Qg (some (.int res.1)) D (tysG G) (mW G Z Y res.2) A) args s 0 0 A) (F0 m 2 ls []) := by
  obtain ⟨hx, hb, hr, hml, hown, hts, hlocks, hK, hE⟩ := id C0
  intro n
  induction n with
  | zero =>
    intro σ1 z3 h
    cases h
  | succ n ih =>
    intro σ1 z3 h H locs ls hP hD hS hl
    rw [f_X12_isTrue_L2] at h
    refine lv_iload_n hx hb dX12_isTrue_2 rfl (lv_at hl 3 rfl) ?_
    refine lv_bipush (v := 6) hx hb dX12_isTrue_3 (by decide) ?_
    refine lv_icmp_ge (tgt := 26) hx hb dX12_isTrue_5 (by decide) (fun c1 => ?_) (fun c1 => ?_)
    · skip
      have h := f_t c1 h
      exact hk26 σ1 h _ _ _ hP hD hS (lv_sub hl [0, 1] rfl)
    · skip
      have h := f_f c1 h
      refine lv_aload_n hx hb dX12_isTrue_8 rfl (lv_at hl 0 rfl) ?_
      refine va_get (D := D) (ci := 12) (v := .ref (G.2.1 208)) (C := RX12) (T := TX12) (N := 59) hx hb hts inU_X12 hown hK hP _ (mg_200 G Z Y σ1) rfl 18 (by decide) (hts _ wd_1266) (fun _ h9 => h9) rfl dX12_isTrue_9 ?_
      refine lv_iload_n hx hb dX12_isTrue_12 rfl (lv_at hl 3 rfl) ?_
      refine lv_iload_n hx hb dX12_isTrue_13 rfl (lv_at hl 2 rfl) ?_
      refine lv_iload_n hx hb dX12_isTrue_14 rfl (lv_at hl 3 rfl) ?_
      refine lv_ishr hx hb dX12_isTrue_15 ?_
      refine lv_iconst (v := 1) hx hb dX12_isTrue_16 (by decide) ?_
      refine lv_iand hx hb dX12_isTrue_17 ?_
      refine lv_i2l (v := (((y2 >>> (z3 &&& 31)) &&& (1 : Int32)) : Int32).toInt64) hx hb dX12_isTrue_18 rfl ?_
      obtain ⟨c2, h⟩ := f_n h
      refine va_last hx hb hK hP hD hS _ 1 (mg_208 G Z Y σ1) rfl c2 dX12_isTrue_19 (fun H locs hP hD hS => ?_)
      have hP := wrP (mp_208 G Z Y σ1 _ _) hP
      have hD := wrD (mp_208 G Z Y σ1 _ _) hD
      refine lv_iinc (v := (z3 + 1)) (lv' := [(3, .int (z3 + 1)), (0, .ref (G.2.1 200)), (1, .int y1), (2, .int y2)]) hx hb dX12_isTrue_20 hl (k := 3) rfl rfl (by decide) rfl (fun ls hl => ?_)
      refine lv_goto (tgt := 2) hx hb dX12_isTrue_23 (by decide) ?_
      exact ih (sJ σ1 208 ((z3 : Int32).toNatClampNeg) ((((y2 >>> (z3 &&& 31)) &&& (1 : Int32)) : Int32).toInt64)) (z3 + 1) h _ _ _ hP hD hS (lv_sub hl [1, 2, 3, 0] rfl)
set_option maxRecDepth 100000 in
set_option maxHeartbeats 8000000 in
theorem c_X12_isTrue (l : Launch) (D : va_G) (G : hG) (Z : hZ) (Y : va_W) (σ0 : hSt) (F : Nat) (x1 : Int32) (x2 : Int32) (res : (Int32 × hSt)) (h : f_X12_isTrue F Z σ0 x1 x2 = some res) : CT l yX12_isTrue cX12_isTrue 4 (some .boolean) rm_X12_isTrue D G 0 0 [.ref (G.2.1 200), .int x1, .int x2] (mW G Z Y σ0) (mW G Z Y res.2) (some (.int res.1)) := by
  unfold f_X12_isTrue at h
  refine CT.mk (cc := cX12_isTrue) (maxL := 4) (ret := (some .boolean)) (own := RX12) (plainFor_of_name (by decide)) rfl (Nat.le_of_ble_eq_true rfl) ?_
  intro p e s m args below meth c A ls C0 hnm hA hP hD hl
  obtain ⟨hx, hb, hr, hml, hown, hts, hlocks, hK, hE⟩ := id C0
  have hS : va_S A s.heap s.heap [] := va_S.rf
  have hl : lv_has ls 4 [(0, .ref (G.2.1 200)), (1, .int x1), (2, .int x2)] := hl
  refine lv_iconst (v := 0) hx hb dX12_isTrue_0 (by decide) ?_
  refine lv_istore_n (lv' := [(3, .int (0 : Int32)), (0, .ref (G.2.1 200)), (1, .int x1), (2, .int x2)]) hx hb dX12_isTrue_1 rfl hl (by decide) rfl (fun ls hl => ?_)
  refine W_X12_isTrue_L2 l D G Z Y σ0 F x1 x2 x1 x2 res C0 hA _ ?_ F σ0 (0 : Int32) h _ _ _ hP hD hS (lv_sub hl [1, 2, 3, 0] rfl)
  · intro σ1 h H locs ls hP hD hS hl
    refine lv_aload_n hx hb dX12_isTrue_26 rfl (lv_at hl 0 rfl) ?_
    refine lv_iload_n hx hb dX12_isTrue_27 rfl (lv_at hl 1 rfl) ?_
    refine lv_ldc2 (v := 1000000007) hx hb hown (hts _ wd_1505) dX12_isTrue_28 ?_
    obtain ⟨q3, hq3, h⟩ := f_b h
    refine cl_V (w := (mW G Z Y σ1)) (w' := (mW G Z Y q3.2)) (rv := some (.long q3.1)) (bytes := cX12_worthAt) (maxL := 13) (ret := (some .long)) (C := RX12) (As := [.int x1, .long (1000000007 : Int64)]) (rest := []) (stk := [.long q3.1]) ⟨hx, hb, hml, hown, hts⟩ hK hE hA hP hD hS (c_X12_worthAt l D G Z Y σ1 F x1 (1000000007 : Int64) q3 hq3) (cwV 2 hts (gwV wd_1510 wd_1512 wp_60 wd_11 wd_1513) rfl rfl rfl hd_X12_worthAt ⟨Nat.le_of_ble_eq_true rfl, Nat.le_of_ble_eq_true rfl⟩) (mg_200 G Z Y σ1) rfl rfl rfl hl.1 rfl (Nat.le_of_ble_eq_true rfl) dX12_isTrue_31 ⟨Nat.zero_le _, Nat.zero_le _⟩ rfl (fun H locs hP hD hS => ?_)
    refine lv_lconst (v := 1) hx hb dX12_isTrue_34 (by decide) ?_
    refine W.lcmp hx hb dX12_isTrue_35 ?_
    refine lv_if_ne (tgt := 43) hx hb dX12_isTrue_36 (by decide) (fun c4 => ?_) (fun c4 => ?_)
    · skip
      have c4 := mt (lg_cmp_eq _ _).mpr c4
      have h := f_f c4 h
      refine lv_iconst (v := 0) hx hb dX12_isTrue_43 (by decide) ?_
      obtain rfl := Option.some.inj h
      exact W.zret (v := (0 : Int32)) hx hb hr rfl (q_end hK hP hD hS) hS.2.2 dX12_isTrue_44
    · skip
      have c4 := (lg_cmp_eq _ _).mp c4
      have h := f_t c4 h
      refine lv_iconst (v := 1) hx hb dX12_isTrue_39 (by decide) ?_
      refine lv_goto (tgt := 44) hx hb dX12_isTrue_40 (by decide) ?_
      obtain rfl := Option.some.inj h
      exact W.zret (v := (1 : Int32)) hx hb hr rfl (q_end hK hP hD hS) hS.2.2 dX12_isTrue_44
abbrev rm_X12_truth : Room := { frames := 3, cells := 0, slots := 0, locals := 80 }
set_option maxRecDepth 100000 in
set_option maxHeartbeats 8000000 in
theorem c_X12_truth (l : Launch) (D : va_G) (G : hG) (Z : hZ) (Y : va_W) (σ0 : hSt) (F : Nat) (x1 : Int32) (x2 : Int32) (res : (Int32 × hSt)) (h : f_X12_truth F Z σ0 x1 x2 = some res) : CT l yX12_truth cX12_truth 3 (some .int) rm_X12_truth D G 0 0 [.ref (G.2.1 200), .int x1, .int x2] (mW G Z Y σ0) (mW G Z Y res.2) (some (.int res.1)) := by
  unfold f_X12_truth at h
  refine CT.mk (cc := cX12_truth) (maxL := 3) (ret := (some .int)) (own := RX12) (plainFor_of_name (by decide)) rfl (Nat.le_of_ble_eq_true rfl) ?_
  intro p e s m args below meth c A ls C0 hnm hA hP hD hl
  obtain ⟨hx, hb, hr, hml, hown, hts, hlocks, hK, hE⟩ := id C0
  have hS : va_S A s.heap s.heap [] := va_S.rf
  have hl : lv_has ls 3 [(0, .ref (G.2.1 200)), (1, .int x1), (2, .int x2)] := hl
  refine lv_aload_n hx hb dX12_truth_0 rfl (lv_at hl 0 rfl) ?_
  refine lv_iconst (v := 0) hx hb dX12_truth_1 (by decide) ?_
  refine va_put (D := D) (ci := 12) (v := .int (0 : Int32)) (ty := .int) (C := RX12) (T := TX12) (N := 59) hx hb hts inU_X12 tyX12 tyX12_ok nmX12 hown hK hP hD hS _ (mg_200 G Z Y σ0) rfl 0 (by decide) (hts _ wd_1248) (fun _ h9 => h9) rfl (by decide +kernel) rfl rfl (Nat.le_of_ble_eq_true rfl) dX12_truth_2 (fun H locs hP hD hS => ?_)
  have hP := wrP (mp_200_0 G Z Y σ0 (0 : Int32)) hP
  have hD := wrD (mp_200_0 G Z Y σ0 (0 : Int32)) hD
  refine lv_aload_n hx hb dX12_truth_5 rfl (lv_at hl 0 rfl) ?_
  refine lv_iload_n hx hb dX12_truth_6 rfl (lv_at hl 1 rfl) ?_
  obtain ⟨q1, hq1, h⟩ := f_b h
  refine cl_V (w := (mW G Z Y (sI σ0 200 0 (0 : Int32)))) (w' := (mW G Z Y (sI σ0 200 0 (0 : Int32)))) (rv := some (.int q1)) (bytes := cX12_isSaying) (maxL := 2) (ret := (some .boolean)) (C := RX12) (As := [.int x1]) (rest := []) (stk := [.int q1]) ⟨hx, hb, hml, hown, hts⟩ hK hE hA hP hD hS (c_X12_isSaying l D G Z Y (sI σ0 200 0 (0 : Int32)) x1 q1 hq1) (cwV 1 hts (gwV wd_1493 wd_1495 wp_57 wd_11 wd_1496) rfl rfl rfl hd_X12_isSaying ⟨Nat.le_of_ble_eq_true rfl, Nat.le_of_ble_eq_true rfl⟩) (mg_200 G Z Y (sI σ0 200 0 (0 : Int32))) rfl rfl rfl hl.1 rfl (Nat.le_of_ble_eq_true rfl) dX12_truth_7 ⟨Nat.zero_le _, Nat.zero_le _⟩ rfl (fun H locs hP hD hS => ?_)
  refine lv_if_eq (tgt := 25) hx hb dX12_truth_10 (by decide) (fun c2 => ?_) (fun c2 => ?_)
  · skip
    have h := f_t c2 h
    refine lv_iconst (v := (-1)) hx hb dX12_truth_25 (by decide) ?_
    refine lv_goto (tgt := 43) hx hb dX12_truth_26 (by decide) ?_
    obtain rfl := Option.some.inj h
    exact W.iret (v := (-1 : Int32)) hx hb hr (q_end hK hP hD hS) hS.2.2 dX12_truth_43
  · skip
    have h := f_f c2 h
    refine lv_iload_n hx hb dX12_truth_13 rfl (lv_at hl 2 rfl) ?_
    refine lv_i2l (v := (x2 : Int32).toInt64) hx hb dX12_truth_14 rfl ?_
    refine lv_lconst (v := 0) hx hb dX12_truth_15 (by decide) ?_
    refine lv_ldc2 (v := 63) hx hb hown (hts _ wd_1521) dX12_truth_16 ?_
    obtain ⟨q3, hq3, h⟩ := f_b h
    refine cl_S (w := (mW G Z Y (sI σ0 200 0 (0 : Int32)))) (w' := (mW G Z Y (sI σ0 200 0 (0 : Int32)))) (rv := some (.int q3)) (bytes := cX12_isIn) (maxL := 6) (ret := (some .boolean)) (As := [.long (x2 : Int32).toInt64, .long (0 : Int64), .long (63 : Int64)]) (rest := []) (stk := [.int q3]) ⟨hx, hb, hml, hown, hts⟩ hK hE hA hP hD hS (c_X12_isIn l D G (mW G Z Y (sI σ0 200 0 (0 : Int32))) ((x2 : Int32).toInt64) (0 : Int64) (63 : Int64) q3 hq3) (mkS hts wd_1498 wd_1499 wd_11 wd_1500 rfl rfl hd_X12_isIn ⟨Nat.le_of_ble_eq_true rfl, Nat.le_of_ble_eq_true rfl⟩) rfl hl.1 rfl (Nat.le_of_ble_eq_true rfl) dX12_truth_19 ⟨Nat.zero_le _, Nat.zero_le _⟩ rfl (fun H locs hP hD hS => ?_)
    refine lv_if_ne (tgt := 29) hx hb dX12_truth_22 (by decide) (fun c4 => ?_) (fun c4 => ?_)
    · skip
      have h := f_f c4 h
      refine lv_aload_n hx hb dX12_truth_29 rfl (lv_at hl 0 rfl) ?_
      refine lv_iload_n hx hb dX12_truth_30 rfl (lv_at hl 1 rfl) ?_
      refine lv_iload_n hx hb dX12_truth_31 rfl (lv_at hl 2 rfl) ?_
      obtain ⟨q5, hq5, h⟩ := f_b h
      refine cl_V (w := (mW G Z Y (sI σ0 200 0 (0 : Int32)))) (w' := (mW G Z Y q5.2)) (rv := some (.int q5.1)) (bytes := cX12_isTrue) (maxL := 4) (ret := (some .boolean)) (C := RX12) (As := [.int x1, .int x2]) (rest := []) (stk := [.int q5.1]) ⟨hx, hb, hml, hown, hts⟩ hK hE hA hP hD hS (c_X12_isTrue l D G Z Y (sI σ0 200 0 (0 : Int32)) F x1 x2 q5 hq5) (cwV 2 hts (gwV wd_1522 wd_1524 wp_61 wd_11 wd_1525) rfl rfl rfl hd_X12_isTrue ⟨Nat.le_of_ble_eq_true rfl, Nat.le_of_ble_eq_true rfl⟩) (mg_200 G Z Y (sI σ0 200 0 (0 : Int32))) rfl rfl rfl hl.1 rfl (Nat.le_of_ble_eq_true rfl) dX12_truth_32 ⟨Nat.zero_le _, Nat.zero_le _⟩ rfl (fun H locs hP hD hS => ?_)
      refine lv_if_eq (tgt := 42) hx hb dX12_truth_35 (by decide) (fun c6 => ?_) (fun c6 => ?_)
      · skip
        have h := f_t c6 h
        refine lv_iconst (v := 0) hx hb dX12_truth_42 (by decide) ?_
        obtain rfl := Option.some.inj h
        exact W.iret (v := (0 : Int32)) hx hb hr (q_end hK hP hD hS) hS.2.2 dX12_truth_43
      · skip
        have h := f_f c6 h
        refine lv_iconst (v := 1) hx hb dX12_truth_38 (by decide) ?_
        refine lv_goto (tgt := 43) hx hb dX12_truth_39 (by decide) ?_
        obtain rfl := Option.some.inj h
        exact W.iret (v := (1 : Int32)) hx hb hr (q_end hK hP hD hS) hS.2.2 dX12_truth_43
    · skip
      have h := f_t c4 h
      refine lv_iconst (v := (-1)) hx hb dX12_truth_25 (by decide) ?_
      refine lv_goto (tgt := 43) hx hb dX12_truth_26 (by decide) ?_
      obtain rfl := Option.some.inj h
      exact W.iret (v := (-1 : Int32)) hx hb hr (q_end hK hP hD hS) hS.2.2 dX12_truth_43
abbrev rm_X12_lay : Room := { frames := 0, cells := 0, slots := 0, locals := 0 }
set_option maxRecDepth 100000 in
set_option maxHeartbeats 8000000 in
theorem c_X12_lay (l : Launch) (D : va_G) (G : hG) (Z : hZ) (Y : va_W) (σ0 : hSt) (x1 : Int32) (res : (Int32 × hSt)) (h : f_X12_lay Z σ0 x1 = some res) : CT l yX12_lay cX12_lay 2 (some .int) rm_X12_lay D G 0 0 [.ref (G.2.1 200), .int x1] (mW G Z Y σ0) (mW G Z Y res.2) (some (.int res.1)) := by
  unfold f_X12_lay at h
  refine CT.mk (cc := cX12_lay) (maxL := 2) (ret := (some .int)) (own := RX12) (plainFor_of_name (by decide)) rfl (Nat.le_of_ble_eq_true rfl) ?_
  intro p e s m args below meth c A ls C0 hnm hA hP hD hl
  obtain ⟨hx, hb, hr, hml, hown, hts, hlocks, hK, hE⟩ := id C0
  have hS : va_S A s.heap s.heap [] := va_S.rf
  have hl : lv_has ls 2 [(0, .ref (G.2.1 200)), (1, .int x1)] := hl
  refine lv_aload_n hx hb dX12_lay_0 rfl (lv_at hl 0 rfl) ?_
  refine lv_iconst (v := 0) hx hb dX12_lay_1 (by decide) ?_
  refine va_put (D := D) (ci := 12) (v := .int (0 : Int32)) (ty := .int) (C := RX12) (T := TX12) (N := 59) hx hb hts inU_X12 tyX12 tyX12_ok nmX12 hown hK hP hD hS _ (mg_200 G Z Y σ0) rfl 0 (by decide) (hts _ wd_1248) (fun _ h9 => h9) rfl (by decide +kernel) rfl rfl (Nat.le_of_ble_eq_true rfl) dX12_lay_2 (fun H locs hP hD hS => ?_)
  have hP := wrP (mp_200_0 G Z Y σ0 (0 : Int32)) hP
  have hD := wrD (mp_200_0 G Z Y σ0 (0 : Int32)) hD
  refine lv_iload_n hx hb dX12_lay_5 rfl (lv_at hl 1 rfl) ?_
  refine lv_if_lt (tgt := 18) hx hb dX12_lay_6 (by decide) (fun c1 => ?_) (fun c1 => ?_)
  · skip
    have h := f_t c1 h
    refine lv_iconst (v := (-1)) hx hb dX12_lay_18 (by decide) ?_
    obtain rfl := Option.some.inj h
    exact W.iret (v := (-1 : Int32)) hx hb hr (q_end hK hP hD hS) hS.2.2 dX12_lay_19
  · skip
    have h := f_f c1 h
    refine lv_aload_n hx hb dX12_lay_9 rfl (lv_at hl 0 rfl) ?_
    refine va_get (D := D) (ci := 12) (v := .int (σ0.1 200 20)) (C := RX12) (T := TX12) (N := 59) hx hb hts inU_X12 hown hK hP _ (mg_200 G Z Y (sI σ0 200 0 (0 : Int32))) rfl 20 (by decide) (hts _ wd_1268) (fun _ h9 => h9) rfl dX12_lay_10 ?_
    refine lv_bipush (v := 6) hx hb dX12_lay_13 (by decide) ?_
    refine lv_icmp_ne (tgt := 20) hx hb dX12_lay_15 (by decide) (fun c2 => ?_) (fun c2 => ?_)
    · skip
      have h := f_f c2 h
      refine lv_aload_n hx hb dX12_lay_20 rfl (lv_at hl 0 rfl) ?_
      refine va_get (D := D) (ci := 12) (v := .ref (G.2.1 209)) (C := RX12) (T := TX12) (N := 59) hx hb hts inU_X12 hown hK hP _ (mg_200 G Z Y (sI σ0 200 0 (0 : Int32))) rfl 19 (by decide) (hts _ wd_1267) (fun _ h9 => h9) rfl dX12_lay_21 ?_
      refine lv_aload_n hx hb dX12_lay_24 rfl (lv_at hl 0 rfl) ?_
      refine va_get (D := D) (ci := 12) (v := .int (σ0.1 200 20)) (C := RX12) (T := TX12) (N := 59) hx hb hts inU_X12 hown hK hP _ (mg_200 G Z Y (sI σ0 200 0 (0 : Int32))) rfl 20 (by decide) (hts _ wd_1268) (fun _ h9 => h9) rfl dX12_lay_25 ?_
      refine lv_iload_n hx hb dX12_lay_28 rfl (lv_at hl 1 rfl) ?_
      obtain ⟨c3, h⟩ := f_n h
      refine va_iast hx hb hK hP hD hS _ 0 (mg_209 G Z Y (sI σ0 200 0 (0 : Int32))) rfl c3 dX12_lay_29 (fun H locs hP hD hS => ?_)
      have hP := wrP (mp_209 G Z Y (sI σ0 200 0 (0 : Int32)) _ _) hP
      have hD := wrD (mp_209 G Z Y (sI σ0 200 0 (0 : Int32)) _ _) hD
      refine lv_aload_n hx hb dX12_lay_30 rfl (lv_at hl 0 rfl) ?_
      refine lv_dup hx hb dX12_lay_31 rfl ?_
      refine va_get (D := D) (ci := 12) (v := .int (σ0.1 200 20)) (C := RX12) (T := TX12) (N := 59) hx hb hts inU_X12 hown hK hP _ (mg_200 G Z Y (sI (sI σ0 200 0 (0 : Int32)) 209 (((σ0.1 200 20) : Int32).toNatClampNeg) x1)) rfl 20 (by decide) (hts _ wd_1268) (fun _ h9 => h9) rfl dX12_lay_32 ?_
      refine lv_iconst (v := 1) hx hb dX12_lay_35 (by decide) ?_
      refine lv_iadd hx hb dX12_lay_36 ?_
      refine va_put (D := D) (ci := 12) (v := .int ((σ0.1 200 20) + (1 : Int32))) (ty := .int) (C := RX12) (T := TX12) (N := 59) hx hb hts inU_X12 tyX12 tyX12_ok nmX12 hown hK hP hD hS _ (mg_200 G Z Y (sI (sI σ0 200 0 (0 : Int32)) 209 (((σ0.1 200 20) : Int32).toNatClampNeg) x1)) rfl 20 (by decide) (hts _ wd_1268) (fun _ h9 => h9) rfl (by decide +kernel) rfl rfl (Nat.le_of_ble_eq_true rfl) dX12_lay_37 (fun H locs hP hD hS => ?_)
      have hP := wrP (mp_200_20 G Z Y (sI (sI σ0 200 0 (0 : Int32)) 209 (((σ0.1 200 20) : Int32).toNatClampNeg) x1) ((σ0.1 200 20) + (1 : Int32))) hP
      have hD := wrD (mp_200_20 G Z Y (sI (sI σ0 200 0 (0 : Int32)) 209 (((σ0.1 200 20) : Int32).toNatClampNeg) x1) ((σ0.1 200 20) + (1 : Int32))) hD
      refine lv_aload_n hx hb dX12_lay_40 rfl (lv_at hl 0 rfl) ?_
      refine va_get (D := D) (ci := 12) (v := .int ((σ0.1 200 20) + (1 : Int32))) (C := RX12) (T := TX12) (N := 59) hx hb hts inU_X12 hown hK hP _ (mg_200 G Z Y (sI (sI (sI σ0 200 0 (0 : Int32)) 209 (((σ0.1 200 20) : Int32).toNatClampNeg) x1) 200 20 ((σ0.1 200 20) + (1 : Int32)))) rfl 20 (by decide) (hts _ wd_1268) (fun _ h9 => h9) rfl dX12_lay_41 ?_
      refine lv_iconst (v := 1) hx hb dX12_lay_44 (by decide) ?_
      refine lv_isub hx hb dX12_lay_45 ?_
      obtain rfl := Option.some.inj h
      exact W.iret (v := (((σ0.1 200 20) + (1 : Int32)) - (1 : Int32))) hx hb hr (q_end hK hP hD hS) hS.2.2 dX12_lay_46
    · skip
      have h := f_t c2 h
      refine lv_iconst (v := (-1)) hx hb dX12_lay_18 (by decide) ?_
      obtain rfl := Option.some.inj h
      exact W.iret (v := (-1 : Int32)) hx hb hr (q_end hK hP hD hS) hS.2.2 dX12_lay_19
abbrev rm_X12_clear : Room := { frames := 0, cells := 0, slots := 0, locals := 0 }
set_option maxRecDepth 100000 in
set_option maxHeartbeats 8000000 in
theorem c_X12_clear (l : Launch) (D : va_G) (G : hG) (Z : hZ) (Y : va_W) (σ0 : hSt) (res : (Int32 × hSt)) (h : f_X12_clear Z σ0 = some res) : CT l yX12_clear cX12_clear 2 (some .int) rm_X12_clear D G 0 0 [.ref (G.2.1 200)] (mW G Z Y σ0) (mW G Z Y res.2) (some (.int res.1)) := by
  unfold f_X12_clear at h
  refine CT.mk (cc := cX12_clear) (maxL := 2) (ret := (some .int)) (own := RX12) (plainFor_of_name (by decide)) rfl (Nat.le_of_ble_eq_true rfl) ?_
  intro p e s m args below meth c A ls C0 hnm hA hP hD hl
  obtain ⟨hx, hb, hr, hml, hown, hts, hlocks, hK, hE⟩ := id C0
  have hS : va_S A s.heap s.heap [] := va_S.rf
  have hl : lv_has ls 2 [(0, .ref (G.2.1 200))] := hl
  refine lv_aload_n hx hb dX12_clear_0 rfl (lv_at hl 0 rfl) ?_
  refine lv_iconst (v := 0) hx hb dX12_clear_1 (by decide) ?_
  refine va_put (D := D) (ci := 12) (v := .int (0 : Int32)) (ty := .int) (C := RX12) (T := TX12) (N := 59) hx hb hts inU_X12 tyX12 tyX12_ok nmX12 hown hK hP hD hS _ (mg_200 G Z Y σ0) rfl 0 (by decide) (hts _ wd_1248) (fun _ h9 => h9) rfl (by decide +kernel) rfl rfl (Nat.le_of_ble_eq_true rfl) dX12_clear_2 (fun H locs hP hD hS => ?_)
  have hP := wrP (mp_200_0 G Z Y σ0 (0 : Int32)) hP
  have hD := wrD (mp_200_0 G Z Y σ0 (0 : Int32)) hD
  refine lv_aload_n hx hb dX12_clear_5 rfl (lv_at hl 0 rfl) ?_
  refine va_get (D := D) (ci := 12) (v := .int (σ0.1 200 20)) (C := RX12) (T := TX12) (N := 59) hx hb hts inU_X12 hown hK hP _ (mg_200 G Z Y (sI σ0 200 0 (0 : Int32))) rfl 20 (by decide) (hts _ wd_1268) (fun _ h9 => h9) rfl dX12_clear_6 ?_
  refine lv_istore_n (lv' := [(1, .int (σ0.1 200 20)), (0, .ref (G.2.1 200))]) hx hb dX12_clear_9 rfl hl (by decide) rfl (fun ls hl => ?_)
  refine lv_aload_n hx hb dX12_clear_10 rfl (lv_at hl 1 rfl) ?_
  refine lv_iconst (v := 0) hx hb dX12_clear_11 (by decide) ?_
  refine va_put (D := D) (ci := 12) (v := .int (0 : Int32)) (ty := .int) (C := RX12) (T := TX12) (N := 59) hx hb hts inU_X12 tyX12 tyX12_ok nmX12 hown hK hP hD hS _ (mg_200 G Z Y (sI σ0 200 0 (0 : Int32))) rfl 20 (by decide) (hts _ wd_1268) (fun _ h9 => h9) rfl (by decide +kernel) rfl rfl (Nat.le_of_ble_eq_true rfl) dX12_clear_12 (fun H locs hP hD hS => ?_)
  have hP := wrP (mp_200_20 G Z Y (sI σ0 200 0 (0 : Int32)) (0 : Int32)) hP
  have hD := wrD (mp_200_20 G Z Y (sI σ0 200 0 (0 : Int32)) (0 : Int32)) hD
  refine lv_iload_n hx hb dX12_clear_15 rfl (lv_at hl 0 rfl) ?_
  obtain rfl := Option.some.inj h
  exact W.iret (v := (σ0.1 200 20)) hx hb hr (q_end hK hP hD hS) hS.2.2 dX12_clear_16
abbrev rm_X12_isPrime : Room := { frames := 0, cells := 0, slots := 0, locals := 0 }
set_option maxRecDepth 100000 in
set_option maxHeartbeats 8000000 in
theorem W_X12_isPrime_L11 {p : Program} {e : Env} {s : State} {m : MethodId} {args : Array Value} {below : List Frame} {meth : Method} {c : Code} {A : Nat → Prop} (l : Launch) (D : va_G) (G : hG) (w : va_W) (F : Nat) (x0 : Int32) (y0 : Int32) (res : Int32) (C0 : Cx p s m args meth c cX12_isPrime (some .boolean) RX12 3 D G A) (hA : ∀ q : Nat, s.heap.size ≤ q → A q) : ∀ (n : Nat) (z1 : Int64), f_X12_isPrime_L11 y0 n z1 = some res → ∀ (H : Heap) (locs : List Loc) (ls : Array Slot), va_P D vwCl w H → va_D A w → va_S A s.heap H locs → lv_has ls 3 [(0, .int y0), (1, .long z1)] → W p l e rm_X12_isPrime s m args below meth c H locs 0 0 (MQ below (Qg (some (.int res)) D (tysG G) w A) args s 0 0 A) (F0 m 11 ls []) := by
  obtain ⟨hx, hb, hr, hml, hown, hts, hlocks, hK, hE⟩ := id C0
  intro n
  induction n with
  | zero =>
    intro z1 h
    cases h
  | succ n ih =>
    intro z1 h H locs ls hP hD hS hl
    rw [f_X12_isPrime_L11] at h
    refine lv_lload_n hx hb dX12_isPrime_11 rfl (lv_at hl 1 rfl) ?_
    refine lv_lload_n hx hb dX12_isPrime_12 rfl (lv_at hl 1 rfl) ?_
    refine lv_lmul hx hb dX12_isPrime_13 ?_
    refine lv_iload_n hx hb dX12_isPrime_14 rfl (lv_at hl 0 rfl) ?_
    refine lv_i2l (v := (y0 : Int32).toInt64) hx hb dX12_isPrime_15 rfl ?_
    refine W.lcmp hx hb dX12_isPrime_16 ?_
    refine lv_if_gt (tgt := 38) hx hb dX12_isPrime_17 (by decide) (fun c2 => ?_) (fun c2 => ?_)
    · skip
      have c2 := (lg_cmp_gt _ _).mp c2
      have h := f_t c2 h
      refine lv_iconst (v := 1) hx hb dX12_isPrime_38 (by decide) ?_
      obtain rfl := Option.some.inj h
      exact W.zret (v := (1 : Int32)) hx hb hr rfl (q_end hK hP hD hS) hS.2.2 dX12_isPrime_39
    · skip
      have c2 := mt (lg_cmp_gt _ _).mpr c2
      have h := f_f c2 h
      refine lv_iload_n hx hb dX12_isPrime_20 rfl (lv_at hl 0 rfl) ?_
      refine lv_i2l (v := (y0 : Int32).toInt64) hx hb dX12_isPrime_21 rfl ?_
      refine lv_lload_n hx hb dX12_isPrime_22 rfl (lv_at hl 1 rfl) ?_
      obtain ⟨c3, h⟩ := f_n h
      refine lv_lrem hx hb dX12_isPrime_23 c3 ?_
      refine lv_lconst (v := 0) hx hb dX12_isPrime_24 (by decide) ?_
      refine W.lcmp hx hb dX12_isPrime_25 ?_
      refine lv_if_ne (tgt := 31) hx hb dX12_isPrime_26 (by decide) (fun c4 => ?_) (fun c4 => ?_)
      · skip
        have c4 := mt (lg_cmp_eq _ _).mpr c4
        have h := f_f c4 h
        refine lv_lload_n hx hb dX12_isPrime_31 rfl (lv_at hl 1 rfl) ?_
        refine lv_lconst (v := 1) hx hb dX12_isPrime_32 (by decide) ?_
        refine lv_ladd hx hb dX12_isPrime_33 ?_
        refine lv_lstore_n (lv' := [(1, .long (z1 + (1 : Int64))), (0, .int y0)]) hx hb dX12_isPrime_34 rfl hl (by decide) rfl (fun ls hl => ?_)
        refine lv_goto (tgt := 11) hx hb dX12_isPrime_35 (by decide) ?_
        exact ih (z1 + (1 : Int64)) h _ _ _ hP hD hS (lv_sub hl [1, 0] rfl)
      · skip
        have c4 := (lg_cmp_eq _ _).mp c4
        have h := f_t c4 h
        refine lv_iconst (v := 0) hx hb dX12_isPrime_29 (by decide) ?_
        obtain rfl := Option.some.inj h
        exact W.zret (v := (0 : Int32)) hx hb hr rfl (q_end hK hP hD hS) hS.2.2 dX12_isPrime_30
set_option maxRecDepth 100000 in
set_option maxHeartbeats 8000000 in
theorem c_X12_isPrime (l : Launch) (D : va_G) (G : hG) (w : va_W) (F : Nat) (x0 : Int32) (res : Int32) (h : f_X12_isPrime F x0 = some res) : CT l yX12_isPrime cX12_isPrime 3 (some .boolean) rm_X12_isPrime D G 0 0 [.int x0] w w (some (.int res)) := by
  unfold f_X12_isPrime at h
  refine CT.mk (cc := cX12_isPrime) (maxL := 3) (ret := (some .boolean)) (own := RX12) (plainFor_of_name (by decide)) rfl (Nat.le_of_ble_eq_true rfl) ?_
  intro p e s m args below meth c A ls C0 hnm hA hP hD hl
  obtain ⟨hx, hb, hr, hml, hown, hts, hlocks, hK, hE⟩ := id C0
  have hS : va_S A s.heap s.heap [] := va_S.rf
  have hl : lv_has ls 3 [(0, .int x0)] := hl
  refine lv_iload_n hx hb dX12_isPrime_0 rfl (lv_at hl 0 rfl) ?_
  refine lv_iconst (v := 2) hx hb dX12_isPrime_1 (by decide) ?_
  refine lv_icmp_ge (tgt := 7) hx hb dX12_isPrime_2 (by decide) (fun c1 => ?_) (fun c1 => ?_)
  · skip
    have h := f_t c1 h
    refine lv_ldc2 (v := 2) hx hb hown (hts _ wd_1541) dX12_isPrime_7 ?_
    refine lv_lstore_n (lv' := [(1, .long (2 : Int64)), (0, .int x0)]) hx hb dX12_isPrime_10 rfl hl (by decide) rfl (fun ls hl => ?_)
    refine W_X12_isPrime_L11 l D G w F x0 x0 res C0 hA F (2 : Int64) h _ _ _ hP hD hS (lv_sub hl [1, 0] rfl)
  · skip
    have h := f_f c1 h
    refine lv_iconst (v := 0) hx hb dX12_isPrime_5 (by decide) ?_
    obtain rfl := Option.some.inj h
    exact W.zret (v := (0 : Int32)) hx hb hr rfl (q_end hK hP hD hS) hS.2.2 dX12_isPrime_6
abbrev rm_X12_isRing : Room := { frames := 1, cells := 0, slots := 0, locals := 25 }
set_option maxRecDepth 100000 in
set_option maxHeartbeats 8000000 in
theorem c_X12_isRing (l : Launch) (D : va_G) (G : hG) (w : va_W) (F : Nat) (x0 : Int32) (res : Int32) (h : f_X12_isRing F x0 = some res) : CT l yX12_isRing cX12_isRing 1 (some .boolean) rm_X12_isRing D G 0 0 [.int x0] w w (some (.int res)) := by
  unfold f_X12_isRing at h
  refine CT.mk (cc := cX12_isRing) (maxL := 1) (ret := (some .boolean)) (own := RX12) (plainFor_of_name (by decide)) rfl (Nat.le_of_ble_eq_true rfl) ?_
  intro p e s m args below meth c A ls C0 hnm hA hP hD hl
  obtain ⟨hx, hb, hr, hml, hown, hts, hlocks, hK, hE⟩ := id C0
  have hS : va_S A s.heap s.heap [] := va_S.rf
  have hl : lv_has ls 1 [(0, .int x0)] := hl
  refine lv_iload_n hx hb dX12_isRing_0 rfl (lv_at hl 0 rfl) ?_
  refine lv_i2l (v := (x0 : Int32).toInt64) hx hb dX12_isRing_1 rfl ?_
  refine lv_ldc2 (v := 3) hx hb hown (hts _ wd_1549) dX12_isRing_2 ?_
  refine lv_ldc2 (v := 1000000007) hx hb hown (hts _ wd_1505) dX12_isRing_5 ?_
  obtain ⟨q1, hq1, h⟩ := f_b h
  refine cl_S (w := w) (w' := w) (rv := some (.int q1)) (bytes := cX12_isIn) (maxL := 6) (ret := (some .boolean)) (As := [.long (x0 : Int32).toInt64, .long (3 : Int64), .long (1000000007 : Int64)]) (rest := []) (stk := [.int q1]) ⟨hx, hb, hml, hown, hts⟩ hK hE hA hP hD hS (c_X12_isIn l D G w ((x0 : Int32).toInt64) (3 : Int64) (1000000007 : Int64) q1 hq1) (mkS hts wd_1498 wd_1499 wd_11 wd_1500 rfl rfl hd_X12_isIn ⟨Nat.le_of_ble_eq_true rfl, Nat.le_of_ble_eq_true rfl⟩) rfl hl.1 rfl (Nat.le_of_ble_eq_true rfl) dX12_isRing_8 ⟨Nat.zero_le _, Nat.zero_le _⟩ rfl (fun H locs hP hD hS => ?_)
  refine lv_if_eq (tgt := 25) hx hb dX12_isRing_11 (by decide) (fun c2 => ?_) (fun c2 => ?_)
  · skip
    have h := f_t c2 h
    refine lv_iconst (v := 0) hx hb dX12_isRing_25 (by decide) ?_
    obtain rfl := Option.some.inj h
    exact W.zret (v := (0 : Int32)) hx hb hr rfl (q_end hK hP hD hS) hS.2.2 dX12_isRing_26
  · skip
    have h := f_f c2 h
    refine lv_iload_n hx hb dX12_isRing_14 rfl (lv_at hl 0 rfl) ?_
    obtain ⟨q3, hq3, h⟩ := f_b h
    refine cl_S (w := w) (w' := w) (rv := some (.int q3)) (bytes := cX12_isPrime) (maxL := 3) (ret := (some .boolean)) (As := [.int x0]) (rest := []) (stk := [.int q3]) ⟨hx, hb, hml, hown, hts⟩ hK hE hA hP hD hS (c_X12_isPrime l D G w F x0 q3 hq3) (mkS hts wd_1538 wd_1539 wd_11 wd_1540 rfl rfl hd_X12_isPrime ⟨Nat.le_of_ble_eq_true rfl, Nat.le_of_ble_eq_true rfl⟩) rfl hl.1 rfl (Nat.le_of_ble_eq_true rfl) dX12_isRing_15 ⟨Nat.zero_le _, Nat.zero_le _⟩ rfl (fun H locs hP hD hS => ?_)
    refine lv_if_eq (tgt := 25) hx hb dX12_isRing_18 (by decide) (fun c4 => ?_) (fun c4 => ?_)
    · skip
      have h := f_t c4 h
      refine lv_iconst (v := 0) hx hb dX12_isRing_25 (by decide) ?_
      obtain rfl := Option.some.inj h
      exact W.zret (v := (0 : Int32)) hx hb hr rfl (q_end hK hP hD hS) hS.2.2 dX12_isRing_26
    · skip
      have h := f_f c4 h
      refine lv_iconst (v := 1) hx hb dX12_isRing_21 (by decide) ?_
      refine lv_goto (tgt := 26) hx hb dX12_isRing_22 (by decide) ?_
      obtain rfl := Option.some.inj h
      exact W.zret (v := (1 : Int32)) hx hb hr rfl (q_end hK hP hD hS) hS.2.2 dX12_isRing_26
abbrev rm_X12_prime : Room := { frames := 1, cells := 0, slots := 0, locals := 25 }
set_option maxRecDepth 100000 in
set_option maxHeartbeats 8000000 in
theorem c_X12_prime (l : Launch) (D : va_G) (G : hG) (Z : hZ) (Y : va_W) (σ0 : hSt) (F : Nat) (x1 : Int32) (res : (Int32 × hSt)) (h : f_X12_prime F Z σ0 x1 = some res) : CT l yX12_prime cX12_prime 2 (some .boolean) rm_X12_prime D G 0 0 [.ref (G.2.1 200), .int x1] (mW G Z Y σ0) (mW G Z Y res.2) (some (.int res.1)) := by
  unfold f_X12_prime at h
  refine CT.mk (cc := cX12_prime) (maxL := 2) (ret := (some .boolean)) (own := RX12) (plainFor_of_name (by decide)) rfl (Nat.le_of_ble_eq_true rfl) ?_
  intro p e s m args below meth c A ls C0 hnm hA hP hD hl
  obtain ⟨hx, hb, hr, hml, hown, hts, hlocks, hK, hE⟩ := id C0
  have hS : va_S A s.heap s.heap [] := va_S.rf
  have hl : lv_has ls 2 [(0, .ref (G.2.1 200)), (1, .int x1)] := hl
  refine lv_aload_n hx hb dX12_prime_0 rfl (lv_at hl 0 rfl) ?_
  refine lv_iconst (v := 0) hx hb dX12_prime_1 (by decide) ?_
  refine va_put (D := D) (ci := 12) (v := .int (0 : Int32)) (ty := .int) (C := RX12) (T := TX12) (N := 59) hx hb hts inU_X12 tyX12 tyX12_ok nmX12 hown hK hP hD hS _ (mg_200 G Z Y σ0) rfl 0 (by decide) (hts _ wd_1248) (fun _ h9 => h9) rfl (by decide +kernel) rfl rfl (Nat.le_of_ble_eq_true rfl) dX12_prime_2 (fun H locs hP hD hS => ?_)
  have hP := wrP (mp_200_0 G Z Y σ0 (0 : Int32)) hP
  have hD := wrD (mp_200_0 G Z Y σ0 (0 : Int32)) hD
  refine lv_iload_n hx hb dX12_prime_5 rfl (lv_at hl 1 rfl) ?_
  refine lv_i2l (v := (x1 : Int32).toInt64) hx hb dX12_prime_6 rfl ?_
  refine lv_lconst (v := 0) hx hb dX12_prime_7 (by decide) ?_
  refine lv_ldc2 (v := 1000000007) hx hb hown (hts _ wd_1505) dX12_prime_8 ?_
  obtain ⟨q1, hq1, h⟩ := f_b h
  refine cl_S (w := (mW G Z Y (sI σ0 200 0 (0 : Int32)))) (w' := (mW G Z Y (sI σ0 200 0 (0 : Int32)))) (rv := some (.int q1)) (bytes := cX12_isIn) (maxL := 6) (ret := (some .boolean)) (As := [.long (x1 : Int32).toInt64, .long (0 : Int64), .long (1000000007 : Int64)]) (rest := []) (stk := [.int q1]) ⟨hx, hb, hml, hown, hts⟩ hK hE hA hP hD hS (c_X12_isIn l D G (mW G Z Y (sI σ0 200 0 (0 : Int32))) ((x1 : Int32).toInt64) (0 : Int64) (1000000007 : Int64) q1 hq1) (mkS hts wd_1498 wd_1499 wd_11 wd_1500 rfl rfl hd_X12_isIn ⟨Nat.le_of_ble_eq_true rfl, Nat.le_of_ble_eq_true rfl⟩) rfl hl.1 rfl (Nat.le_of_ble_eq_true rfl) dX12_prime_11 ⟨Nat.zero_le _, Nat.zero_le _⟩ rfl (fun H locs hP hD hS => ?_)
  refine lv_if_eq (tgt := 28) hx hb dX12_prime_14 (by decide) (fun c2 => ?_) (fun c2 => ?_)
  · skip
    have h := f_t c2 h
    refine lv_iconst (v := 0) hx hb dX12_prime_28 (by decide) ?_
    obtain rfl := Option.some.inj h
    exact W.zret (v := (0 : Int32)) hx hb hr rfl (q_end hK hP hD hS) hS.2.2 dX12_prime_29
  · skip
    have h := f_f c2 h
    refine lv_iload_n hx hb dX12_prime_17 rfl (lv_at hl 1 rfl) ?_
    obtain ⟨q3, hq3, h⟩ := f_b h
    refine cl_S (w := (mW G Z Y (sI σ0 200 0 (0 : Int32)))) (w' := (mW G Z Y (sI σ0 200 0 (0 : Int32)))) (rv := some (.int q3)) (bytes := cX12_isPrime) (maxL := 3) (ret := (some .boolean)) (As := [.int x1]) (rest := []) (stk := [.int q3]) ⟨hx, hb, hml, hown, hts⟩ hK hE hA hP hD hS (c_X12_isPrime l D G (mW G Z Y (sI σ0 200 0 (0 : Int32))) F x1 q3 hq3) (mkS hts wd_1538 wd_1539 wd_11 wd_1540 rfl rfl hd_X12_isPrime ⟨Nat.le_of_ble_eq_true rfl, Nat.le_of_ble_eq_true rfl⟩) rfl hl.1 rfl (Nat.le_of_ble_eq_true rfl) dX12_prime_18 ⟨Nat.zero_le _, Nat.zero_le _⟩ rfl (fun H locs hP hD hS => ?_)
    refine lv_if_eq (tgt := 28) hx hb dX12_prime_21 (by decide) (fun c4 => ?_) (fun c4 => ?_)
    · skip
      have h := f_t c4 h
      refine lv_iconst (v := 0) hx hb dX12_prime_28 (by decide) ?_
      obtain rfl := Option.some.inj h
      exact W.zret (v := (0 : Int32)) hx hb hr rfl (q_end hK hP hD hS) hS.2.2 dX12_prime_29
    · skip
      have h := f_f c4 h
      refine lv_iconst (v := 1) hx hb dX12_prime_24 (by decide) ?_
      refine lv_goto (tgt := 29) hx hb dX12_prime_25 (by decide) ?_
      obtain rfl := Option.some.inj h
      exact W.zret (v := (1 : Int32)) hx hb hr rfl (q_end hK hP hD hS) hS.2.2 dX12_prime_29
abbrev rm_X12_layPoint : Room := { frames := 0, cells := 0, slots := 0, locals := 0 }
set_option maxRecDepth 100000 in
set_option maxHeartbeats 8000000 in
theorem W_X12_layPoint_L2 {p : Program} {e : Env} {s : State} {m : MethodId} {args : Array Value} {below : List Frame} {meth : Method} {c : Code} {A : Nat → Prop} (l : Launch) (D : va_G) (G : hG) (Z : hZ) (Y : va_W) (σ0 : hSt) (F : Nat) (x1 : Int32) (y1 : Int32) (res : (Unit × hSt)) (C0 : Cx p s m args meth c cX12_layPoint none RX12 3 D G A) (hA : ∀ q : Nat, s.heap.size ≤ q → A q) : ∀ (n : Nat) (σ1 : hSt) (z2 : Int32), f_X12_layPoint_L2 y1 n σ1 z2 = some res → ∀ (H : Heap) (locs : List Loc) (ls : Array Slot), va_P D vwCl (mW G Z Y σ1) H → va_D A (mW G Z Y σ1) → va_S A s.heap H locs → lv_has ls 3 [(0, .ref (G.2.1 200)), (1, .int y1), (2, .int z2)] → W p l e rm_X12_layPoint s m args below meth c H locs 0 0 (MQ below (Qg none D (tysG G) (mW G Z Y res.2) A) args s 0 0 A) (F0 m 2 ls []) := by
  obtain ⟨hx, hb, hr, hml, hown, hts, hlocks, hK, hE⟩ := id C0
  intro n
  induction n with
  | zero =>
    intro σ1 z2 h
    cases h
  | succ n ih =>
    intro σ1 z2 h H locs ls hP hD hS hl
    rw [f_X12_layPoint_L2] at h
    refine lv_iload_n hx hb dX12_layPoint_2 rfl (lv_at hl 2 rfl) ?_
    refine lv_aload_n hx hb dX12_layPoint_3 rfl (lv_at hl 0 rfl) ?_
    refine va_get (D := D) (ci := 12) (v := .int (σ1.1 200 20)) (C := RX12) (T := TX12) (N := 59) hx hb hts inU_X12 hown hK hP _ (mg_200 G Z Y σ1) rfl 20 (by decide) (hts _ wd_1268) (fun _ h9 => h9) rfl dX12_layPoint_4 ?_
    refine lv_icmp_ge (tgt := 31) hx hb dX12_layPoint_7 (by decide) (fun c1 => ?_) (fun c1 => ?_)
    · skip
      have h := f_t c1 h
      obtain rfl := Option.some.inj h
      exact W.vret hx hb hr (q_end hK hP hD hS) hS.2.2 dX12_layPoint_31
    · skip
      have h := f_f c1 h
      refine lv_aload_n hx hb dX12_layPoint_10 rfl (lv_at hl 0 rfl) ?_
      refine va_get (D := D) (ci := 12) (v := .ref (G.2.1 208)) (C := RX12) (T := TX12) (N := 59) hx hb hts inU_X12 hown hK hP _ (mg_200 G Z Y σ1) rfl 18 (by decide) (hts _ wd_1266) (fun _ h9 => h9) rfl dX12_layPoint_11 ?_
      refine lv_iload_n hx hb dX12_layPoint_14 rfl (lv_at hl 2 rfl) ?_
      refine lv_aload_n hx hb dX12_layPoint_15 rfl (lv_at hl 0 rfl) ?_
      refine va_get (D := D) (ci := 12) (v := .ref (G.2.1 209)) (C := RX12) (T := TX12) (N := 59) hx hb hts inU_X12 hown hK hP _ (mg_200 G Z Y σ1) rfl 19 (by decide) (hts _ wd_1267) (fun _ h9 => h9) rfl dX12_layPoint_16 ?_
      refine lv_iload_n hx hb dX12_layPoint_19 rfl (lv_at hl 2 rfl) ?_
      obtain ⟨c2, h⟩ := f_n h
      refine va_ialdE (v := (σ1.1 209 ((z2 : Int32).toNatClampNeg))) hx hb hK hP _ 0 (mg_209 G Z Y σ1) rfl c2 dX12_layPoint_20 rfl ?_
      refine lv_iload_n hx hb dX12_layPoint_21 rfl (lv_at hl 1 rfl) ?_
      obtain ⟨c3, h⟩ := f_n h
      refine lv_irem hx hb dX12_layPoint_22 c3 ?_
      refine lv_i2l (v := (((σ1.1 209 ((z2 : Int32).toNatClampNeg)) - (σ1.1 209 ((z2 : Int32).toNatClampNeg)) / y1 * y1) : Int32).toInt64) hx hb dX12_layPoint_23 rfl ?_
      obtain ⟨c4, h⟩ := f_n h
      refine va_last hx hb hK hP hD hS _ 1 (mg_208 G Z Y σ1) rfl c4 dX12_layPoint_24 (fun H locs hP hD hS => ?_)
      have hP := wrP (mp_208 G Z Y σ1 _ _) hP
      have hD := wrD (mp_208 G Z Y σ1 _ _) hD
      refine lv_iinc (v := (z2 + 1)) (lv' := [(2, .int (z2 + 1)), (0, .ref (G.2.1 200)), (1, .int y1)]) hx hb dX12_layPoint_25 hl (k := 2) rfl rfl (by decide) rfl (fun ls hl => ?_)
      refine lv_goto (tgt := 2) hx hb dX12_layPoint_28 (by decide) ?_
      exact ih (sJ σ1 208 ((z2 : Int32).toNatClampNeg) ((((σ1.1 209 ((z2 : Int32).toNatClampNeg)) - (σ1.1 209 ((z2 : Int32).toNatClampNeg)) / y1 * y1) : Int32).toInt64)) (z2 + 1) h _ _ _ hP hD hS (lv_sub hl [1, 2, 0] rfl)
set_option maxRecDepth 100000 in
set_option maxHeartbeats 8000000 in
theorem c_X12_layPoint (l : Launch) (D : va_G) (G : hG) (Z : hZ) (Y : va_W) (σ0 : hSt) (F : Nat) (x1 : Int32) (res : (Unit × hSt)) (h : f_X12_layPoint F Z σ0 x1 = some res) : CT l yX12_layPoint cX12_layPoint 3 none rm_X12_layPoint D G 0 0 [.ref (G.2.1 200), .int x1] (mW G Z Y σ0) (mW G Z Y res.2) none := by
  unfold f_X12_layPoint at h
  refine CT.mk (cc := cX12_layPoint) (maxL := 3) (ret := none) (own := RX12) (plainFor_of_name (by decide)) rfl (Nat.le_of_ble_eq_true rfl) ?_
  intro p e s m args below meth c A ls C0 hnm hA hP hD hl
  obtain ⟨hx, hb, hr, hml, hown, hts, hlocks, hK, hE⟩ := id C0
  have hS : va_S A s.heap s.heap [] := va_S.rf
  have hl : lv_has ls 3 [(0, .ref (G.2.1 200)), (1, .int x1)] := hl
  refine lv_iconst (v := 0) hx hb dX12_layPoint_0 (by decide) ?_
  refine lv_istore_n (lv' := [(2, .int (0 : Int32)), (0, .ref (G.2.1 200)), (1, .int x1)]) hx hb dX12_layPoint_1 rfl hl (by decide) rfl (fun ls hl => ?_)
  refine W_X12_layPoint_L2 l D G Z Y σ0 F x1 x1 res C0 hA F σ0 (0 : Int32) h _ _ _ hP hD hS (lv_sub hl [1, 2, 0] rfl)
abbrev rm_X12_worth : Room := { frames := 2, cells := 0, slots := 0, locals := 57 }
set_option maxRecDepth 100000 in
set_option maxHeartbeats 8000000 in
theorem c_X12_worth (l : Launch) (D : va_G) (G : hG) (Z : hZ) (Y : va_W) (σ0 : hSt) (F : Nat) (x1 : Int32) (x2 : Int32) (res : (Int32 × hSt)) (h : f_X12_worth F Z σ0 x1 x2 = some res) : CT l yX12_worth cX12_worth 3 (some .int) rm_X12_worth D G 0 0 [.ref (G.2.1 200), .int x1, .int x2] (mW G Z Y σ0) (mW G Z Y res.2) (some (.int res.1)) := by
  unfold f_X12_worth at h
  refine CT.mk (cc := cX12_worth) (maxL := 3) (ret := (some .int)) (own := RX12) (plainFor_of_name (by decide)) rfl (Nat.le_of_ble_eq_true rfl) ?_
  intro p e s m args below meth c A ls C0 hnm hA hP hD hl
  obtain ⟨hx, hb, hr, hml, hown, hts, hlocks, hK, hE⟩ := id C0
  have hS : va_S A s.heap s.heap [] := va_S.rf
  have hl : lv_has ls 3 [(0, .ref (G.2.1 200)), (1, .int x1), (2, .int x2)] := hl
  refine lv_aload_n hx hb dX12_worth_0 rfl (lv_at hl 0 rfl) ?_
  refine lv_iconst (v := 0) hx hb dX12_worth_1 (by decide) ?_
  refine va_put (D := D) (ci := 12) (v := .int (0 : Int32)) (ty := .int) (C := RX12) (T := TX12) (N := 59) hx hb hts inU_X12 tyX12 tyX12_ok nmX12 hown hK hP hD hS _ (mg_200 G Z Y σ0) rfl 0 (by decide) (hts _ wd_1248) (fun _ h9 => h9) rfl (by decide +kernel) rfl rfl (Nat.le_of_ble_eq_true rfl) dX12_worth_2 (fun H locs hP hD hS => ?_)
  have hP := wrP (mp_200_0 G Z Y σ0 (0 : Int32)) hP
  have hD := wrD (mp_200_0 G Z Y σ0 (0 : Int32)) hD
  refine lv_aload_n hx hb dX12_worth_5 rfl (lv_at hl 0 rfl) ?_
  refine lv_iload_n hx hb dX12_worth_6 rfl (lv_at hl 1 rfl) ?_
  obtain ⟨q1, hq1, h⟩ := f_b h
  refine cl_V (w := (mW G Z Y (sI σ0 200 0 (0 : Int32)))) (w' := (mW G Z Y (sI σ0 200 0 (0 : Int32)))) (rv := some (.int q1)) (bytes := cX12_isSaying) (maxL := 2) (ret := (some .boolean)) (C := RX12) (As := [.int x1]) (rest := []) (stk := [.int q1]) ⟨hx, hb, hml, hown, hts⟩ hK hE hA hP hD hS (c_X12_isSaying l D G Z Y (sI σ0 200 0 (0 : Int32)) x1 q1 hq1) (cwV 1 hts (gwV wd_1493 wd_1495 wp_57 wd_11 wd_1496) rfl rfl rfl hd_X12_isSaying ⟨Nat.le_of_ble_eq_true rfl, Nat.le_of_ble_eq_true rfl⟩) (mg_200 G Z Y (sI σ0 200 0 (0 : Int32))) rfl rfl rfl hl.1 rfl (Nat.le_of_ble_eq_true rfl) dX12_worth_7 ⟨Nat.zero_le _, Nat.zero_le _⟩ rfl (fun H locs hP hD hS => ?_)
  refine lv_if_eq (tgt := 33) hx hb dX12_worth_10 (by decide) (fun c2 => ?_) (fun c2 => ?_)
  · skip
    have h := f_t c2 h
    refine lv_iconst (v := (-1)) hx hb dX12_worth_33 (by decide) ?_
    obtain rfl := Option.some.inj h
    exact W.iret (v := (-1 : Int32)) hx hb hr (q_end hK hP hD hS) hS.2.2 dX12_worth_34
  · skip
    have h := f_f c2 h
    refine lv_iload_n hx hb dX12_worth_13 rfl (lv_at hl 2 rfl) ?_
    obtain ⟨q3, hq3, h⟩ := f_b h
    refine cl_S (w := (mW G Z Y (sI σ0 200 0 (0 : Int32)))) (w' := (mW G Z Y (sI σ0 200 0 (0 : Int32)))) (rv := some (.int q3)) (bytes := cX12_isRing) (maxL := 1) (ret := (some .boolean)) (As := [.int x2]) (rest := []) (stk := [.int q3]) ⟨hx, hb, hml, hown, hts⟩ hK hE hA hP hD hS (c_X12_isRing l D G (mW G Z Y (sI σ0 200 0 (0 : Int32))) F x2 q3 hq3) (mkS hts wd_1546 wd_1547 wd_11 wd_1548 rfl rfl hd_X12_isRing ⟨Nat.le_of_ble_eq_true rfl, Nat.le_of_ble_eq_true rfl⟩) rfl hl.1 rfl (Nat.le_of_ble_eq_true rfl) dX12_worth_14 ⟨Nat.zero_le _, Nat.zero_le _⟩ rfl (fun H locs hP hD hS => ?_)
    refine lv_if_eq (tgt := 33) hx hb dX12_worth_17 (by decide) (fun c4 => ?_) (fun c4 => ?_)
    · skip
      have h := f_t c4 h
      refine lv_iconst (v := (-1)) hx hb dX12_worth_33 (by decide) ?_
      obtain rfl := Option.some.inj h
      exact W.iret (v := (-1 : Int32)) hx hb hr (q_end hK hP hD hS) hS.2.2 dX12_worth_34
    · skip
      have h := f_f c4 h
      refine lv_aload_n hx hb dX12_worth_20 rfl (lv_at hl 0 rfl) ?_
      refine va_get (D := D) (ci := 12) (v := .int (σ0.1 200 20)) (C := RX12) (T := TX12) (N := 59) hx hb hts inU_X12 hown hK hP _ (mg_200 G Z Y (sI σ0 200 0 (0 : Int32))) rfl 20 (by decide) (hts _ wd_1268) (fun _ h9 => h9) rfl dX12_worth_21 ?_
      refine lv_aload_n hx hb dX12_worth_24 rfl (lv_at hl 0 rfl) ?_
      refine va_get (D := D) (ci := 12) (v := .ref (G.2.1 204)) (C := RX12) (T := TX12) (N := 59) hx hb hts inU_X12 hown hK hP _ (mg_200 G Z Y (sI σ0 200 0 (0 : Int32))) rfl 12 (by decide) (hts _ wd_1260) (fun _ h9 => h9) rfl dX12_worth_25 ?_
      refine lv_iload_n hx hb dX12_worth_28 rfl (lv_at hl 1 rfl) ?_
      obtain ⟨c5, h⟩ := f_n h
      refine va_ialdE (v := (σ0.1 204 ((x1 : Int32).toNatClampNeg))) hx hb hK hP _ 0 (mg_204 G Z Y (sI σ0 200 0 (0 : Int32))) rfl c5 dX12_worth_29 rfl ?_
      refine lv_icmp_ge (tgt := 35) hx hb dX12_worth_30 (by decide) (fun c6 => ?_) (fun c6 => ?_)
      · skip
        have h := f_t c6 h
        refine lv_aload_n hx hb dX12_worth_35 rfl (lv_at hl 0 rfl) ?_
        refine lv_iload_n hx hb dX12_worth_36 rfl (lv_at hl 2 rfl) ?_
        obtain ⟨q7, hq7, h⟩ := f_b h
        refine cl_V (w := (mW G Z Y (sI σ0 200 0 (0 : Int32)))) (w' := (mW G Z Y q7.2)) (rv := none) (bytes := cX12_layPoint) (maxL := 3) (ret := none) (C := RX12) (As := [.int x2]) (rest := []) (stk := []) ⟨hx, hb, hml, hown, hts⟩ hK hE hA hP hD hS (c_X12_layPoint l D G Z Y (sI σ0 200 0 (0 : Int32)) F x2 q7 hq7) (cwV 1 hts (gwV wd_1550 wd_1552 wp_62 wd_11 wd_1553) rfl rfl rfl hd_X12_layPoint ⟨Nat.le_of_ble_eq_true rfl, Nat.le_of_ble_eq_true rfl⟩) (mg_200 G Z Y (sI σ0 200 0 (0 : Int32))) rfl rfl rfl hl.1 rfl (Nat.le_of_ble_eq_true rfl) dX12_worth_37 ⟨Nat.zero_le _, Nat.zero_le _⟩ rfl (fun H locs hP hD hS => ?_)
        refine lv_aload_n hx hb dX12_worth_40 rfl (lv_at hl 0 rfl) ?_
        refine lv_iload_n hx hb dX12_worth_41 rfl (lv_at hl 1 rfl) ?_
        refine lv_iload_n hx hb dX12_worth_42 rfl (lv_at hl 2 rfl) ?_
        refine lv_i2l (v := (x2 : Int32).toInt64) hx hb dX12_worth_43 rfl ?_
        obtain ⟨q8, hq8, h⟩ := f_b h
        refine cl_V (w := (mW G Z Y q7.2)) (w' := (mW G Z Y q8.2)) (rv := some (.long q8.1)) (bytes := cX12_worthAt) (maxL := 13) (ret := (some .long)) (C := RX12) (As := [.int x1, .long (x2 : Int32).toInt64]) (rest := []) (stk := [.long q8.1]) ⟨hx, hb, hml, hown, hts⟩ hK hE hA hP hD hS (c_X12_worthAt l D G Z Y q7.2 F x1 ((x2 : Int32).toInt64) q8 hq8) (cwV 2 hts (gwV wd_1510 wd_1512 wp_60 wd_11 wd_1513) rfl rfl rfl hd_X12_worthAt ⟨Nat.le_of_ble_eq_true rfl, Nat.le_of_ble_eq_true rfl⟩) (mg_200 G Z Y q7.2) rfl rfl rfl hl.1 rfl (Nat.le_of_ble_eq_true rfl) dX12_worth_44 ⟨Nat.zero_le _, Nat.zero_le _⟩ rfl (fun H locs hP hD hS => ?_)
        refine lv_l2i (v := (q8.1 : Int64).toInt32) hx hb dX12_worth_47 rfl ?_
        obtain rfl := Option.some.inj h
        exact W.iret (v := (q8.1 : Int64).toInt32) hx hb hr (q_end hK hP hD hS) hS.2.2 dX12_worth_48
      · skip
        have h := f_f c6 h
        refine lv_iconst (v := (-1)) hx hb dX12_worth_33 (by decide) ?_
        obtain rfl := Option.some.inj h
        exact W.iret (v := (-1 : Int32)) hx hb hr (q_end hK hP hD hS) hS.2.2 dX12_worth_34
abbrev rm_X12_sum : Room := { frames := 11, cells := 0, slots := 0, locals := 291 }
set_option maxRecDepth 100000 in
set_option maxHeartbeats 8000000 in
theorem c_X12_sum (l : Launch) (D : va_G) (G : hG) (Z : hZ) (Y : va_W) (σ0 : hSt) (F : Nat) (x1 : Int32) (x2 : Int32) (res : (Int32 × hSt)) (h : f_X12_sum F Z σ0 x1 x2 = some res) : CT l yX12_sum cX12_sum 3 (some .int) rm_X12_sum D G 0 0 [.ref (G.2.1 200), .int x1, .int x2] (mW G Z Y σ0) (mW G Z Y res.2) (some (.int res.1)) := by
  unfold f_X12_sum at h
  refine CT.mk (cc := cX12_sum) (maxL := 3) (ret := (some .int)) (own := RX12) (plainFor_of_name (by decide)) rfl (Nat.le_of_ble_eq_true rfl) ?_
  intro p e s m args below meth c A ls C0 hnm hA hP hD hl
  obtain ⟨hx, hb, hr, hml, hown, hts, hlocks, hK, hE⟩ := id C0
  have hS : va_S A s.heap s.heap [] := va_S.rf
  have hl : lv_has ls 3 [(0, .ref (G.2.1 200)), (1, .int x1), (2, .int x2)] := hl
  refine lv_aload_n hx hb dX12_sum_0 rfl (lv_at hl 0 rfl) ?_
  refine lv_iconst (v := 0) hx hb dX12_sum_1 (by decide) ?_
  refine va_put (D := D) (ci := 12) (v := .int (0 : Int32)) (ty := .int) (C := RX12) (T := TX12) (N := 59) hx hb hts inU_X12 tyX12 tyX12_ok nmX12 hown hK hP hD hS _ (mg_200 G Z Y σ0) rfl 0 (by decide) (hts _ wd_1248) (fun _ h9 => h9) rfl (by decide +kernel) rfl rfl (Nat.le_of_ble_eq_true rfl) dX12_sum_2 (fun H locs hP hD hS => ?_)
  have hP := wrP (mp_200_0 G Z Y σ0 (0 : Int32)) hP
  have hD := wrD (mp_200_0 G Z Y σ0 (0 : Int32)) hD
  refine lv_aload_n hx hb dX12_sum_5 rfl (lv_at hl 0 rfl) ?_
  refine lv_iload_n hx hb dX12_sum_6 rfl (lv_at hl 1 rfl) ?_
  obtain ⟨q1, hq1, h⟩ := f_b h
  refine cl_V (w := (mW G Z Y (sI σ0 200 0 (0 : Int32)))) (w' := (mW G Z Y (sI σ0 200 0 (0 : Int32)))) (rv := some (.int q1)) (bytes := cX12_isSaying) (maxL := 2) (ret := (some .boolean)) (C := RX12) (As := [.int x1]) (rest := []) (stk := [.int q1]) ⟨hx, hb, hml, hown, hts⟩ hK hE hA hP hD hS (c_X12_isSaying l D G Z Y (sI σ0 200 0 (0 : Int32)) x1 q1 hq1) (cwV 1 hts (gwV wd_1493 wd_1495 wp_57 wd_11 wd_1496) rfl rfl rfl hd_X12_isSaying ⟨Nat.le_of_ble_eq_true rfl, Nat.le_of_ble_eq_true rfl⟩) (mg_200 G Z Y (sI σ0 200 0 (0 : Int32))) rfl rfl rfl hl.1 rfl (Nat.le_of_ble_eq_true rfl) dX12_sum_7 ⟨Nat.zero_le _, Nat.zero_le _⟩ rfl (fun H locs hP hD hS => ?_)
  refine lv_if_eq (tgt := 20) hx hb dX12_sum_10 (by decide) (fun c2 => ?_) (fun c2 => ?_)
  · skip
    have h := f_t c2 h
    refine lv_iconst (v := (-1)) hx hb dX12_sum_20 (by decide) ?_
    obtain rfl := Option.some.inj h
    exact W.iret (v := (-1 : Int32)) hx hb hr (q_end hK hP hD hS) hS.2.2 dX12_sum_21
  · skip
    have h := f_f c2 h
    refine lv_iload_n hx hb dX12_sum_13 rfl (lv_at hl 2 rfl) ?_
    obtain ⟨q3, hq3, h⟩ := f_b h
    refine cl_S (w := (mW G Z Y (sI σ0 200 0 (0 : Int32)))) (w' := (mW G Z Y (sI σ0 200 0 (0 : Int32)))) (rv := some (.int q3)) (bytes := cX12_isRing) (maxL := 1) (ret := (some .boolean)) (As := [.int x2]) (rest := []) (stk := [.int q3]) ⟨hx, hb, hml, hown, hts⟩ hK hE hA hP hD hS (c_X12_isRing l D G (mW G Z Y (sI σ0 200 0 (0 : Int32))) F x2 q3 hq3) (mkS hts wd_1546 wd_1547 wd_11 wd_1548 rfl rfl hd_X12_isRing ⟨Nat.le_of_ble_eq_true rfl, Nat.le_of_ble_eq_true rfl⟩) rfl hl.1 rfl (Nat.le_of_ble_eq_true rfl) dX12_sum_14 ⟨Nat.zero_le _, Nat.zero_le _⟩ rfl (fun H locs hP hD hS => ?_)
    refine lv_if_ne (tgt := 22) hx hb dX12_sum_17 (by decide) (fun c4 => ?_) (fun c4 => ?_)
    · skip
      have h := f_f c4 h
      refine lv_aload_n hx hb dX12_sum_22 rfl (lv_at hl 0 rfl) ?_
      refine lv_iload_n hx hb dX12_sum_23 rfl (lv_at hl 2 rfl) ?_
      obtain ⟨q5, hq5, h⟩ := f_b h
      refine cl_V (w := (mW G Z Y (sI σ0 200 0 (0 : Int32)))) (w' := (mW G Z Y q5.2)) (rv := none) (bytes := cX12_layPoint) (maxL := 3) (ret := none) (C := RX12) (As := [.int x2]) (rest := []) (stk := []) ⟨hx, hb, hml, hown, hts⟩ hK hE hA hP hD hS (c_X12_layPoint l D G Z Y (sI σ0 200 0 (0 : Int32)) F x2 q5 hq5) (cwV 1 hts (gwV wd_1550 wd_1552 wp_62 wd_11 wd_1553) rfl rfl rfl hd_X12_layPoint ⟨Nat.le_of_ble_eq_true rfl, Nat.le_of_ble_eq_true rfl⟩) (mg_200 G Z Y (sI σ0 200 0 (0 : Int32))) rfl rfl rfl hl.1 rfl (Nat.le_of_ble_eq_true rfl) dX12_sum_24 ⟨Nat.zero_le _, Nat.zero_le _⟩ rfl (fun H locs hP hD hS => ?_)
      refine lv_aload_n hx hb dX12_sum_27 rfl (lv_at hl 0 rfl) ?_
      refine lv_iload_n hx hb dX12_sum_28 rfl (lv_at hl 1 rfl) ?_
      refine lv_aload_n hx hb dX12_sum_29 rfl (lv_at hl 0 rfl) ?_
      refine va_get (D := D) (ci := 12) (v := .int (q5.2.1 200 20)) (C := RX12) (T := TX12) (N := 59) hx hb hts inU_X12 hown hK hP _ (mg_200 G Z Y q5.2) rfl 20 (by decide) (hts _ wd_1268) (fun _ h9 => h9) rfl dX12_sum_30 ?_
      refine lv_iload_n hx hb dX12_sum_33 rfl (lv_at hl 2 rfl) ?_
      refine lv_i2l (v := (x2 : Int32).toInt64) hx hb dX12_sum_34 rfl ?_
      obtain ⟨q6, hq6, h⟩ := f_b h
      refine cl_V (w := (mW G Z Y q5.2)) (w' := (mW G Z Y q6.2)) (rv := some (.long q6.1)) (bytes := cX12_sumFrom) (maxL := 7) (ret := (some .long)) (C := RX12) (As := [.int x1, .int (q5.2.1 200 20), .long (x2 : Int32).toInt64]) (rest := []) (stk := [.long q6.1]) ⟨hx, hb, hml, hown, hts⟩ hK hE hA hP hD hS (c_X12_sumFrom l D G Z Y q5.2 F x1 (q5.2.1 200 20) ((x2 : Int32).toInt64) q6 hq6) (cwV 3 hts (gwV wd_1506 wd_1508 wp_59 wd_11 wd_1509) rfl rfl rfl hd_X12_sumFrom ⟨Nat.le_of_ble_eq_true rfl, Nat.le_of_ble_eq_true rfl⟩) (mg_200 G Z Y q5.2) rfl rfl rfl hl.1 rfl (Nat.le_of_ble_eq_true rfl) dX12_sum_35 ⟨Nat.zero_le _, Nat.zero_le _⟩ rfl (fun H locs hP hD hS => ?_)
      refine lv_l2i (v := (q6.1 : Int64).toInt32) hx hb dX12_sum_38 rfl ?_
      obtain rfl := Option.some.inj h
      exact W.iret (v := (q6.1 : Int64).toInt32) hx hb hr (q_end hK hP hD hS) hS.2.2 dX12_sum_39
    · skip
      have h := f_t c4 h
      refine lv_iconst (v := (-1)) hx hb dX12_sum_20 (by decide) ?_
      obtain rfl := Option.some.inj h
      exact W.iret (v := (-1 : Int32)) hx hb hr (q_end hK hP hD hS) hS.2.2 dX12_sum_21
abbrev rm_X12_power : Room := { frames := 0, cells := 0, slots := 0, locals := 0 }
set_option maxRecDepth 100000 in
set_option maxHeartbeats 8000000 in
theorem W_X12_power_L12 {p : Program} {e : Env} {s : State} {m : MethodId} {args : Array Value} {below : List Frame} {meth : Method} {c : Code} {A : Nat → Prop} (l : Launch) (D : va_G) (G : hG) (w : va_W) (F : Nat) (x0 : Int64) (x2 : Int64) (x4 : Int64) (y4 : Int64) (res : Int64) (C0 : Cx p s m args meth c cX12_power (some .long) RX12 12 D G A) (hA : ∀ q : Nat, s.heap.size ≤ q → A q) : ∀ (n : Nat) (z6 : Int64) (z8 : Int64) (z10 : Int64), f_X12_power_L12 y4 n z6 z8 z10 = some res → ∀ (H : Heap) (locs : List Loc) (ls : Array Slot), va_P D vwCl w H → va_D A w → va_S A s.heap H locs → lv_has ls 12 [(4, .long y4), (6, .long z6), (8, .long z8), (10, .long z10)] → W p l e rm_X12_power s m args below meth c H locs 0 0 (MQ below (Qg (some (.long res)) D (tysG G) w A) args s 0 0 A) (F0 m 12 ls []) := by
  obtain ⟨hx, hb, hr, hml, hown, hts, hlocks, hK, hE⟩ := id C0
  intro n
  induction n with
  | zero =>
    intro z6 z8 z10 h
    cases h
  | succ n ih =>
    intro z6 z8 z10 h H locs ls hP hD hS hl
    rw [f_X12_power_L12] at h
    refine lv_lload hx hb dX12_power_12 (lv_at hl 3 rfl) ?_
    refine lv_lconst (v := 0) hx hb dX12_power_14 (by decide) ?_
    refine W.lcmp hx hb dX12_power_15 ?_
    refine lv_if_le (tgt := 57) hx hb dX12_power_16 (by decide) (fun c2 => ?_) (fun c2 => ?_)
    · skip
      have c2 := (lg_cmp_le _ _).mp c2
      have h := f_t c2 h
      refine lv_lload hx hb dX12_power_57 (lv_at hl 1 rfl) ?_
      obtain rfl := Option.some.inj h
      exact W.lret (v := z6) hx hb hr (q_end hK hP hD hS) hS.2.2 dX12_power_59
    · skip
      have c2 := mt (lg_cmp_le _ _).mpr c2
      have h := f_f c2 h
      refine lv_lload hx hb dX12_power_19 (lv_at hl 3 rfl) ?_
      refine lv_lconst (v := 1) hx hb dX12_power_21 (by decide) ?_
      refine lv_land hx hb dX12_power_22 ?_
      refine lv_lconst (v := 1) hx hb dX12_power_23 (by decide) ?_
      refine W.lcmp hx hb dX12_power_24 ?_
      refine lv_if_ne (tgt := 38) hx hb dX12_power_25 (by decide) (fun c3 => ?_) (fun c3 => ?_)
      · skip
        have c3 := mt (lg_cmp_eq _ _).mpr c3
        have h := f_f c3 h
        refine lv_lload hx hb dX12_power_38 (lv_at hl 2 rfl) ?_
        refine lv_lload hx hb dX12_power_40 (lv_at hl 2 rfl) ?_
        refine lv_lmul hx hb dX12_power_42 ?_
        refine lv_lload hx hb dX12_power_43 (lv_at hl 0 rfl) ?_
        obtain ⟨c4, h⟩ := f_n h
        refine lv_lrem hx hb dX12_power_45 c4 ?_
        refine lv_lstore (lv' := [(8, .long ((z8 * z8) - (z8 * z8) / y4 * y4)), (4, .long y4), (6, .long z6), (10, .long z10)]) hx hb dX12_power_46 hl (by decide) rfl (fun ls hl => ?_)
        refine lv_lload hx hb dX12_power_48 (lv_at hl 3 rfl) ?_
        refine lv_iconst (v := 1) hx hb dX12_power_50 (by decide) ?_
        refine lv_lshr (v := (z10 >>> (((1 : Int32) : Int32).toInt64 &&& 63))) hx hb dX12_power_51 rfl ?_
        refine lv_lstore (lv' := [(10, .long (z10 >>> (((1 : Int32) : Int32).toInt64 &&& 63))), (8, .long ((z8 * z8) - (z8 * z8) / y4 * y4)), (4, .long y4), (6, .long z6)]) hx hb dX12_power_52 hl (by decide) rfl (fun ls hl => ?_)
        refine lv_goto (tgt := 12) hx hb dX12_power_54 (by decide) ?_
        exact ih z6 ((z8 * z8) - (z8 * z8) / y4 * y4) (z10 >>> (((1 : Int32) : Int32).toInt64 &&& 63)) h _ _ _ hP hD hS (lv_sub hl [2, 3, 1, 0] rfl)
      · skip
        have c3 := (lg_cmp_eq _ _).mp c3
        have h := f_t c3 h
        refine lv_lload hx hb dX12_power_28 (lv_at hl 1 rfl) ?_
        refine lv_lload hx hb dX12_power_30 (lv_at hl 2 rfl) ?_
        refine lv_lmul hx hb dX12_power_32 ?_
        refine lv_lload hx hb dX12_power_33 (lv_at hl 0 rfl) ?_
        obtain ⟨c5, h⟩ := f_n h
        refine lv_lrem hx hb dX12_power_35 c5 ?_
        refine lv_lstore (lv' := [(6, .long ((z6 * z8) - (z6 * z8) / y4 * y4)), (4, .long y4), (8, .long z8), (10, .long z10)]) hx hb dX12_power_36 hl (by decide) rfl (fun ls hl => ?_)
        refine lv_lload hx hb dX12_power_38 (lv_at hl 2 rfl) ?_
        refine lv_lload hx hb dX12_power_40 (lv_at hl 2 rfl) ?_
        refine lv_lmul hx hb dX12_power_42 ?_
        refine lv_lload hx hb dX12_power_43 (lv_at hl 1 rfl) ?_
        obtain ⟨c6, h⟩ := f_n h
        refine lv_lrem hx hb dX12_power_45 c6 ?_
        refine lv_lstore (lv' := [(8, .long ((z8 * z8) - (z8 * z8) / y4 * y4)), (6, .long ((z6 * z8) - (z6 * z8) / y4 * y4)), (4, .long y4), (10, .long z10)]) hx hb dX12_power_46 hl (by decide) rfl (fun ls hl => ?_)
        refine lv_lload hx hb dX12_power_48 (lv_at hl 3 rfl) ?_
        refine lv_iconst (v := 1) hx hb dX12_power_50 (by decide) ?_
        refine lv_lshr (v := (z10 >>> (((1 : Int32) : Int32).toInt64 &&& 63))) hx hb dX12_power_51 rfl ?_
        refine lv_lstore (lv' := [(10, .long (z10 >>> (((1 : Int32) : Int32).toInt64 &&& 63))), (8, .long ((z8 * z8) - (z8 * z8) / y4 * y4)), (6, .long ((z6 * z8) - (z6 * z8) / y4 * y4)), (4, .long y4)]) hx hb dX12_power_52 hl (by decide) rfl (fun ls hl => ?_)
        refine lv_goto (tgt := 12) hx hb dX12_power_54 (by decide) ?_
        exact ih ((z6 * z8) - (z6 * z8) / y4 * y4) ((z8 * z8) - (z8 * z8) / y4 * y4) (z10 >>> (((1 : Int32) : Int32).toInt64 &&& 63)) h _ _ _ hP hD hS (lv_sub hl [3, 2, 1, 0] rfl)
set_option maxRecDepth 100000 in
set_option maxHeartbeats 8000000 in
theorem c_X12_power (l : Launch) (D : va_G) (G : hG) (w : va_W) (F : Nat) (x0 : Int64) (x2 : Int64) (x4 : Int64) (res : Int64) (h : f_X12_power F x0 x2 x4 = some res) : CT l yX12_power cX12_power 12 (some .long) rm_X12_power D G 0 0 [.long x0, .long x2, .long x4] w w (some (.long res)) := by
  unfold f_X12_power at h
  refine CT.mk (cc := cX12_power) (maxL := 12) (ret := (some .long)) (own := RX12) (plainFor_of_name (by decide)) rfl (Nat.le_of_ble_eq_true rfl) ?_
  intro p e s m args below meth c A ls C0 hnm hA hP hD hl
  obtain ⟨hx, hb, hr, hml, hown, hts, hlocks, hK, hE⟩ := id C0
  have hS : va_S A s.heap s.heap [] := va_S.rf
  have hl : lv_has ls 12 [(0, .long x0), (2, .long x2), (4, .long x4)] := hl
  refine lv_lconst (v := 1) hx hb dX12_power_0 (by decide) ?_
  refine lv_lstore (lv' := [(6, .long (1 : Int64)), (0, .long x0), (2, .long x2), (4, .long x4)]) hx hb dX12_power_1 hl (by decide) rfl (fun ls hl => ?_)
  refine lv_lload_n hx hb dX12_power_3 rfl (lv_at hl 1 rfl) ?_
  refine lv_lload hx hb dX12_power_4 (lv_at hl 3 rfl) ?_
  obtain ⟨c1, h⟩ := f_n h
  refine lv_lrem hx hb dX12_power_6 c1 ?_
  refine lv_lstore (lv' := [(8, .long (x0 - x0 / x4 * x4)), (6, .long (1 : Int64)), (0, .long x0), (2, .long x2), (4, .long x4)]) hx hb dX12_power_7 hl (by decide) rfl (fun ls hl => ?_)
  refine lv_lload_n hx hb dX12_power_9 rfl (lv_at hl 3 rfl) ?_
  refine lv_lstore (lv' := [(10, .long x2), (8, .long (x0 - x0 / x4 * x4)), (6, .long (1 : Int64)), (0, .long x0), (2, .long x2), (4, .long x4)]) hx hb dX12_power_10 hl (by decide) rfl (fun ls hl => ?_)
  refine W_X12_power_L12 l D G w F x0 x2 x4 x4 res C0 hA F (1 : Int64) (x0 - x0 / x4 * x4) x2 h _ _ _ hP hD hS (lv_sub hl [5, 2, 1, 0] rfl)
abbrev rm_X12_curveAt : Room := { frames := 1, cells := 0, slots := 0, locals := 31 }
set_option maxRecDepth 100000 in
set_option maxHeartbeats 8000000 in
theorem W_X12_curveAt_L27 {p : Program} {e : Env} {s : State} {m : MethodId} {args : Array Value} {below : List Frame} {meth : Method} {c : Code} {A : Nat → Prop} (l : Launch) (D : va_G) (G : hG) (Z : hZ) (Y : va_W) (σ0 : hSt) (F : Nat) (x1 : Int32) (x2 : Int64) (x4 : Int64) (y1 : Int32) (y2 : Int64) (y4 : Int64) (y6 : Int64) (y8 : Int32) (res : Int64) (C0 : Cx p s m args meth c cX12_curveAt (some .long) RX12 14 D G A) (hA : ∀ q : Nat, s.heap.size ≤ q → A q) (k86 : Int64 → Int64 → Option Int64) (hk86 : ∀ (z9 : Int64) (z11 : Int64), k86 z9 z11 = some res → ∀ (H : Heap) (locs : List Loc) (ls : Array Slot), va_P D vwCl (mW G Z Y σ0) H → va_D A (mW G Z Y σ0) → va_S A s.heap H locs → lv_has ls 14 [(0, .ref (G.2.1 200)), (1, .int y1), (2, .long y2), (4, .long y4), (6, .long y6), (8, .int y8), (9, .long z9), (11, .long z11)] → W p l e rm_X12_curveAt s m args below meth c H locs 0 0 (MQ below (Qg (some (.long res)) D (tysG G) (mW G Z Y σ0) A) args s 0 0 A) (F0 m 86 ls [])) : ∀ (n : Nat) (z9 : Int64) (z11 : Int64) (z13 : Int32), f_X12_curveAt_L27 y1 y2 y4 y6 y8 k86 n z9 z11 z13 = some res → ∀ (H : Heap) (locs : List Loc) (ls : Array Slot), va_P D vwCl (mW G Z Y σ0) H → va_D A (mW G Z Y σ0) → va_S A s.heap H locs → lv_has ls 14 [(0, .ref (G.2.1 200)), (1, .int y1), (2, .long y2), (4, .long y4), (6, .long y6), (8, .int y8), (9, .long z9), (11, .long z11), (13, .int z13)] → W p l e rm_X12_curveAt s m args below meth c H locs 0 0 (MQ below (Qg (some (.long res)) D (tysG G) (mW G Z Y σ0) A) args s 0 0 A) (F0 m 27 ls []) := by
  obtain ⟨hx, hb, hr, hml, hown, hts, hlocks, hK, hE⟩ := id C0
  intro n
  induction n with
  | zero =>
    intro z9 z11 z13 h
    cases h
  | succ n ih =>
    intro z9 z11 z13 h H locs ls hP hD hS hl
    rw [f_X12_curveAt_L27] at h
    refine lv_iload hx hb dX12_curveAt_27 (lv_at hl 8 rfl) ?_
    refine lv_iload_n hx hb dX12_curveAt_29 rfl (lv_at hl 1 rfl) ?_
    refine lv_icmp_ge (tgt := 86) hx hb dX12_curveAt_30 (by decide) (fun c3 => ?_) (fun c3 => ?_)
    · skip
      have h := f_t c3 h
      exact hk86 z9 z11 h _ _ _ hP hD hS (lv_sub hl [0, 1, 2, 3, 4, 5, 6, 7] rfl)
    · skip
      have h := f_f c3 h
      refine lv_iload hx hb dX12_curveAt_33 (lv_at hl 8 rfl) ?_
      refine lv_iload hx hb dX12_curveAt_35 (lv_at hl 5 rfl) ?_
      refine lv_icmp_ne (tgt := 43) hx hb dX12_curveAt_37 (by decide) (fun c4 => ?_) (fun c4 => ?_)
      · skip
        have h := f_f c4 h
        refine lv_lload hx hb dX12_curveAt_43 (lv_at hl 6 rfl) ?_
        refine lv_lload_n hx hb dX12_curveAt_45 rfl (lv_at hl 2 rfl) ?_
        refine lv_iload hx hb dX12_curveAt_46 (lv_at hl 8 rfl) ?_
        refine lv_i2l (v := (z13 : Int32).toInt64) hx hb dX12_curveAt_48 rfl ?_
        refine lv_lsub hx hb dX12_curveAt_49 ?_
        refine lv_lload hx hb dX12_curveAt_50 (lv_at hl 3 rfl) ?_
        obtain ⟨q5, hq5, h⟩ := f_b h
        refine cl_S (w := (mW G Z Y σ0)) (w' := (mW G Z Y σ0)) (rv := some (.long q5)) (bytes := cX12_rest) (maxL := 6) (ret := (some .long)) (As := [.long (y2 - (z13 : Int32).toInt64), .long y4]) (rest := [.long z9]) (stk := [.long q5, .long z9]) ⟨hx, hb, hml, hown, hts⟩ hK hE hA hP hD hS (c_X12_rest l D G (mW G Z Y σ0) (y2 - (z13 : Int32).toInt64) y4 q5 hq5) (mkS hts wd_1514 wd_1515 wd_11 wd_1516 rfl rfl hd_X12_rest ⟨Nat.le_of_ble_eq_true rfl, Nat.le_of_ble_eq_true rfl⟩) rfl hl.1 rfl (Nat.le_of_ble_eq_true rfl) dX12_curveAt_52 ⟨Nat.zero_le _, Nat.zero_le _⟩ rfl (fun H locs hP hD hS => ?_)
        refine lv_lmul hx hb dX12_curveAt_55 ?_
        refine lv_lload hx hb dX12_curveAt_56 (lv_at hl 3 rfl) ?_
        obtain ⟨c6, h⟩ := f_n h
        refine lv_lrem hx hb dX12_curveAt_58 c6 ?_
        refine lv_lstore (lv' := [(9, .long ((z9 * q5) - (z9 * q5) / y4 * y4)), (0, .ref (G.2.1 200)), (1, .int y1), (2, .long y2), (4, .long y4), (6, .long y6), (8, .int y8), (11, .long z11), (13, .int z13)]) hx hb dX12_curveAt_59 hl (by decide) rfl (fun ls hl => ?_)
        refine lv_lload hx hb dX12_curveAt_61 (lv_at hl 7 rfl) ?_
        refine lv_iload hx hb dX12_curveAt_63 (lv_at hl 6 rfl) ?_
        refine lv_iload hx hb dX12_curveAt_65 (lv_at hl 8 rfl) ?_
        refine lv_isub hx hb dX12_curveAt_67 ?_
        refine lv_i2l (v := ((y8 - z13) : Int32).toInt64) hx hb dX12_curveAt_68 rfl ?_
        refine lv_lload hx hb dX12_curveAt_69 (lv_at hl 4 rfl) ?_
        obtain ⟨q7, hq7, h⟩ := f_b h
        refine cl_S (w := (mW G Z Y σ0)) (w' := (mW G Z Y σ0)) (rv := some (.long q7)) (bytes := cX12_rest) (maxL := 6) (ret := (some .long)) (As := [.long ((y8 - z13) : Int32).toInt64, .long y4]) (rest := [.long z11]) (stk := [.long q7, .long z11]) ⟨hx, hb, hml, hown, hts⟩ hK hE hA hP hD hS (c_X12_rest l D G (mW G Z Y σ0) (((y8 - z13) : Int32).toInt64) y4 q7 hq7) (mkS hts wd_1514 wd_1515 wd_11 wd_1516 rfl rfl hd_X12_rest ⟨Nat.le_of_ble_eq_true rfl, Nat.le_of_ble_eq_true rfl⟩) rfl hl.1 rfl (Nat.le_of_ble_eq_true rfl) dX12_curveAt_71 ⟨Nat.zero_le _, Nat.zero_le _⟩ rfl (fun H locs hP hD hS => ?_)
        refine lv_lmul hx hb dX12_curveAt_74 ?_
        refine lv_lload hx hb dX12_curveAt_75 (lv_at hl 4 rfl) ?_
        obtain ⟨c8, h⟩ := f_n h
        refine lv_lrem hx hb dX12_curveAt_77 c8 ?_
        refine lv_lstore (lv' := [(11, .long ((z11 * q7) - (z11 * q7) / y4 * y4)), (9, .long ((z9 * q5) - (z9 * q5) / y4 * y4)), (0, .ref (G.2.1 200)), (1, .int y1), (2, .long y2), (4, .long y4), (6, .long y6), (8, .int y8), (13, .int z13)]) hx hb dX12_curveAt_78 hl (by decide) rfl (fun ls hl => ?_)
        refine lv_iinc (v := (z13 + 1)) (lv' := [(13, .int (z13 + 1)), (11, .long ((z11 * q7) - (z11 * q7) / y4 * y4)), (9, .long ((z9 * q5) - (z9 * q5) / y4 * y4)), (0, .ref (G.2.1 200)), (1, .int y1), (2, .long y2), (4, .long y4), (6, .long y6), (8, .int y8)]) hx hb dX12_curveAt_80 hl (k := 8) rfl rfl (by decide) rfl (fun ls hl => ?_)
        refine lv_goto (tgt := 27) hx hb dX12_curveAt_83 (by decide) ?_
        exact ih ((z9 * q5) - (z9 * q5) / y4 * y4) ((z11 * q7) - (z11 * q7) / y4 * y4) (z13 + 1) h _ _ _ hP hD hS (lv_sub hl [3, 4, 5, 6, 7, 8, 2, 1, 0] rfl)
      · skip
        have h := f_t c4 h
        refine lv_goto (tgt := 80) hx hb dX12_curveAt_40 (by decide) ?_
        refine lv_iinc (v := (z13 + 1)) (lv' := [(13, .int (z13 + 1)), (0, .ref (G.2.1 200)), (1, .int y1), (2, .long y2), (4, .long y4), (6, .long y6), (8, .int y8), (9, .long z9), (11, .long z11)]) hx hb dX12_curveAt_80 hl (k := 8) rfl rfl (by decide) rfl (fun ls hl => ?_)
        refine lv_goto (tgt := 27) hx hb dX12_curveAt_83 (by decide) ?_
        exact ih z9 z11 (z13 + 1) h _ _ _ hP hD hS (lv_sub hl [1, 2, 3, 4, 5, 6, 7, 8, 0] rfl)
set_option maxRecDepth 100000 in
set_option maxHeartbeats 8000000 in
theorem W_X12_curveAt_L6 {p : Program} {e : Env} {s : State} {m : MethodId} {args : Array Value} {below : List Frame} {meth : Method} {c : Code} {A : Nat → Prop} (l : Launch) (D : va_G) (G : hG) (Z : hZ) (Y : va_W) (σ0 : hSt) (F : Nat) (x1 : Int32) (x2 : Int64) (x4 : Int64) (y1 : Int32) (y2 : Int64) (y4 : Int64) (res : Int64) (C0 : Cx p s m args meth c cX12_curveAt (some .long) RX12 14 D G A) (hA : ∀ q : Nat, s.heap.size ≤ q → A q) : ∀ (n : Nat) (z6 : Int64) (z8 : Int32), f_X12_curveAt_L6 F σ0 y1 y2 y4 n z6 z8 = some res → ∀ (H : Heap) (locs : List Loc) (ls : Array Slot), va_P D vwCl (mW G Z Y σ0) H → va_D A (mW G Z Y σ0) → va_S A s.heap H locs → lv_has ls 14 [(0, .ref (G.2.1 200)), (1, .int y1), (2, .long y2), (4, .long y4), (6, .long z6), (8, .int z8)] → W p l e rm_X12_curveAt s m args below meth c H locs 0 0 (MQ below (Qg (some (.long res)) D (tysG G) (mW G Z Y σ0) A) args s 0 0 A) (F0 m 6 ls []) := by
  obtain ⟨hx, hb, hr, hml, hown, hts, hlocks, hK, hE⟩ := id C0
  intro n
  induction n with
  | zero =>
    intro z6 z8 h
    cases h
  | succ n ih =>
    intro z6 z8 h H locs ls hP hD hS hl
    rw [f_X12_curveAt_L6] at h
    refine lv_iload hx hb dX12_curveAt_6 (lv_at hl 5 rfl) ?_
    refine lv_iload_n hx hb dX12_curveAt_8 rfl (lv_at hl 1 rfl) ?_
    refine lv_icmp_ge (tgt := 116) hx hb dX12_curveAt_9 (by decide) (fun c1 => ?_) (fun c1 => ?_)
    · skip
      have h := f_t c1 h
      refine lv_lload hx hb dX12_curveAt_116 (lv_at hl 4 rfl) ?_
      obtain rfl := Option.some.inj h
      exact W.lret (v := z6) hx hb hr (q_end hK hP hD hS) hS.2.2 dX12_curveAt_118
    · skip
      have h := f_f c1 h
      refine lv_aload_n hx hb dX12_curveAt_12 rfl (lv_at hl 0 rfl) ?_
      refine va_get (D := D) (ci := 12) (v := .ref (G.2.1 210)) (C := RX12) (T := TX12) (N := 59) hx hb hts inU_X12 hown hK hP _ (mg_200 G Z Y σ0) rfl 21 (by decide) (hts _ wd_1269) (fun _ h9 => h9) rfl dX12_curveAt_13 ?_
      refine lv_iload hx hb dX12_curveAt_16 (lv_at hl 5 rfl) ?_
      obtain ⟨c2, h⟩ := f_n h
      refine va_laldE (v := (σ0.2.1 210 ((z8 : Int32).toNatClampNeg))) hx hb hK hP _ 1 (mg_210 G Z Y σ0) rfl c2 dX12_curveAt_18 rfl ?_
      refine lv_lstore (lv' := [(9, .long (σ0.2.1 210 ((z8 : Int32).toNatClampNeg))), (0, .ref (G.2.1 200)), (1, .int y1), (2, .long y2), (4, .long y4), (6, .long z6), (8, .int z8)]) hx hb dX12_curveAt_19 hl (by decide) rfl (fun ls hl => ?_)
      refine lv_lconst (v := 1) hx hb dX12_curveAt_21 (by decide) ?_
      refine lv_lstore (lv' := [(11, .long (1 : Int64)), (9, .long (σ0.2.1 210 ((z8 : Int32).toNatClampNeg))), (0, .ref (G.2.1 200)), (1, .int y1), (2, .long y2), (4, .long y4), (6, .long z6), (8, .int z8)]) hx hb dX12_curveAt_22 hl (by decide) rfl (fun ls hl => ?_)
      refine lv_iconst (v := 0) hx hb dX12_curveAt_24 (by decide) ?_
      refine lv_istore (lv' := [(13, .int (0 : Int32)), (11, .long (1 : Int64)), (9, .long (σ0.2.1 210 ((z8 : Int32).toNatClampNeg))), (0, .ref (G.2.1 200)), (1, .int y1), (2, .long y2), (4, .long y4), (6, .long z6), (8, .int z8)]) hx hb dX12_curveAt_25 hl (by decide) rfl (fun ls hl => ?_)
      refine W_X12_curveAt_L27 l D G Z Y σ0 F x1 x2 x4 y1 y2 y4 z6 z8 res C0 hA _ ?_ F (σ0.2.1 210 ((z8 : Int32).toNatClampNeg)) (1 : Int64) (0 : Int32) h _ _ _ hP hD hS (lv_sub hl [3, 4, 5, 6, 7, 8, 2, 1, 0] rfl)
      · intro z9 z11 h H locs ls hP hD hS hl
        refine lv_lload hx hb dX12_curveAt_86 (lv_at hl 4 rfl) ?_
        refine lv_lload hx hb dX12_curveAt_88 (lv_at hl 6 rfl) ?_
        refine lv_lload hx hb dX12_curveAt_90 (lv_at hl 7 rfl) ?_
        refine lv_lload hx hb dX12_curveAt_92 (lv_at hl 3 rfl) ?_
        refine lv_ldc2 (v := 2) hx hb hown (hts _ wd_1541) dX12_curveAt_94 ?_
        refine lv_lsub hx hb dX12_curveAt_97 ?_
        refine lv_lload hx hb dX12_curveAt_98 (lv_at hl 3 rfl) ?_
        obtain ⟨q9, hq9, h⟩ := f_b h
        refine cl_S (w := (mW G Z Y σ0)) (w' := (mW G Z Y σ0)) (rv := some (.long q9)) (bytes := cX12_power) (maxL := 12) (ret := (some .long)) (As := [.long z11, .long (y4 - (2 : Int64)), .long y4]) (rest := [.long z9, .long z6]) (stk := [.long q9, .long z9, .long z6]) ⟨hx, hb, hml, hown, hts⟩ hK hE hA hP hD hS (c_X12_power l D G (mW G Z Y σ0) F z11 (y4 - (2 : Int64)) y4 q9 hq9) (mkS hts wd_1566 wd_1567 wd_11 wd_1568 rfl rfl hd_X12_power ⟨Nat.le_of_ble_eq_true rfl, Nat.le_of_ble_eq_true rfl⟩) rfl hl.1 rfl (Nat.le_of_ble_eq_true rfl) dX12_curveAt_100 ⟨Nat.zero_le _, Nat.zero_le _⟩ rfl (fun H locs hP hD hS => ?_)
        refine lv_lmul hx hb dX12_curveAt_103 ?_
        refine lv_ladd hx hb dX12_curveAt_104 ?_
        refine lv_lload hx hb dX12_curveAt_105 (lv_at hl 3 rfl) ?_
        obtain ⟨c10, h⟩ := f_n h
        refine lv_lrem hx hb dX12_curveAt_107 c10 ?_
        refine lv_lstore (lv' := [(6, .long ((z6 + (z9 * q9)) - (z6 + (z9 * q9)) / y4 * y4)), (0, .ref (G.2.1 200)), (1, .int y1), (2, .long y2), (4, .long y4), (8, .int z8), (9, .long z9), (11, .long z11)]) hx hb dX12_curveAt_108 hl (by decide) rfl (fun ls hl => ?_)
        refine lv_iinc (v := (z8 + 1)) (lv' := [(8, .int (z8 + 1)), (6, .long ((z6 + (z9 * q9)) - (z6 + (z9 * q9)) / y4 * y4)), (0, .ref (G.2.1 200)), (1, .int y1), (2, .long y2), (4, .long y4), (9, .long z9), (11, .long z11)]) hx hb dX12_curveAt_110 hl (k := 5) rfl rfl (by decide) rfl (fun ls hl => ?_)
        refine lv_goto (tgt := 6) hx hb dX12_curveAt_113 (by decide) ?_
        exact ih ((z6 + (z9 * q9)) - (z6 + (z9 * q9)) / y4 * y4) (z8 + 1) h _ _ _ hP hD hS (lv_sub hl [2, 3, 4, 5, 1, 0] rfl)
set_option maxRecDepth 100000 in
set_option maxHeartbeats 8000000 in
theorem c_X12_curveAt (l : Launch) (D : va_G) (G : hG) (Z : hZ) (Y : va_W) (σ0 : hSt) (F : Nat) (x1 : Int32) (x2 : Int64) (x4 : Int64) (res : Int64) (h : f_X12_curveAt F Z σ0 x1 x2 x4 = some res) : CT l yX12_curveAt cX12_curveAt 14 (some .long) rm_X12_curveAt D G 0 0 [.ref (G.2.1 200), .int x1, .long x2, .long x4] (mW G Z Y σ0) (mW G Z Y σ0) (some (.long res)) := by
  unfold f_X12_curveAt at h
  refine CT.mk (cc := cX12_curveAt) (maxL := 14) (ret := (some .long)) (own := RX12) (plainFor_of_name (by decide)) rfl (Nat.le_of_ble_eq_true rfl) ?_
  intro p e s m args below meth c A ls C0 hnm hA hP hD hl
  obtain ⟨hx, hb, hr, hml, hown, hts, hlocks, hK, hE⟩ := id C0
  have hS : va_S A s.heap s.heap [] := va_S.rf
  have hl : lv_has ls 14 [(0, .ref (G.2.1 200)), (1, .int x1), (2, .long x2), (4, .long x4)] := hl
  refine lv_lconst (v := 0) hx hb dX12_curveAt_0 (by decide) ?_
  refine lv_lstore (lv' := [(6, .long (0 : Int64)), (0, .ref (G.2.1 200)), (1, .int x1), (2, .long x2), (4, .long x4)]) hx hb dX12_curveAt_1 hl (by decide) rfl (fun ls hl => ?_)
  refine lv_iconst (v := 0) hx hb dX12_curveAt_3 (by decide) ?_
  refine lv_istore (lv' := [(8, .int (0 : Int32)), (6, .long (0 : Int64)), (0, .ref (G.2.1 200)), (1, .int x1), (2, .long x2), (4, .long x4)]) hx hb dX12_curveAt_4 hl (by decide) rfl (fun ls hl => ?_)
  refine W_X12_curveAt_L6 l D G Z Y σ0 F x1 x2 x4 x1 x2 x4 res C0 hA F (0 : Int64) (0 : Int32) h _ _ _ hP hD hS (lv_sub hl [2, 3, 4, 5, 1, 0] rfl)
abbrev rm_X12_curve : Room := { frames := 2, cells := 0, slots := 0, locals := 64 }
set_option maxRecDepth 100000 in
set_option maxHeartbeats 8000000 in
theorem W_X12_curve_L35 {p : Program} {e : Env} {s : State} {m : MethodId} {args : Array Value} {below : List Frame} {meth : Method} {c : Code} {A : Nat → Prop} (l : Launch) (D : va_G) (G : hG) (Z : hZ) (Y : va_W) (σ0 : hSt) (F : Nat) (x1 : Int32) (x2 : Int32) (y1 : Int32) (y2 : Int32) (res : (Int32 × hSt)) (C0 : Cx p s m args meth c cX12_curve (some .int) RX12 4 D G A) (hA : ∀ q : Nat, s.heap.size ≤ q → A q) (k64 : hSt → Option (Int32 × hSt)) (hk64 : ∀ (σ1 : hSt), k64 σ1 = some res → ∀ (H : Heap) (locs : List Loc) (ls : Array Slot), va_P D vwCl (mW G Z Y σ1) H → va_D A (mW G Z Y σ1) → va_S A s.heap H locs → lv_has ls 4 [(0, .ref (G.2.1 200)), (1, .int y1), (2, .int y2)] → W p l e rm_X12_curve s m args below meth c H locs 0 0 (MQ below (Qg (some (.int res.1)) D (tysG G) (mW G Z Y res.2) A) args s 0 0 A) (F0 m 64 ls [])) : ∀ (n : Nat) (σ1 : hSt) (z3 : Int32), f_X12_curve_L35 y1 y2 k64 n σ1 z3 = some res → ∀ (H : Heap) (locs : List Loc) (ls : Array Slot), va_P D vwCl (mW G Z Y σ1) H → va_D A (mW G Z Y σ1) → va_S A s.heap H locs → lv_has ls 4 [(0, .ref (G.2.1 200)), (1, .int y1), (2, .int y2), (3, .int z3)] → W p l e rm_X12_curve s m args below meth c H locs 0 0 (MQ below (Qg (some (.int res.1)) D (tysG G) (mW G Z Y res.2) A) args s 0 0 A) (F0 m 35 ls []) := by
  obtain ⟨hx, hb, hr, hml, hown, hts, hlocks, hK, hE⟩ := id C0
  intro n
  induction n with
  | zero =>
    intro σ1 z3 h
    cases h
  | succ n ih =>
    intro σ1 z3 h H locs ls hP hD hS hl
    rw [f_X12_curve_L35] at h
    refine lv_iload_n hx hb dX12_curve_35 rfl (lv_at hl 3 rfl) ?_
    refine lv_aload_n hx hb dX12_curve_36 rfl (lv_at hl 0 rfl) ?_
    refine va_get (D := D) (ci := 12) (v := .int (σ1.1 200 20)) (C := RX12) (T := TX12) (N := 59) hx hb hts inU_X12 hown hK hP _ (mg_200 G Z Y σ1) rfl 20 (by decide) (hts _ wd_1268) (fun _ h9 => h9) rfl dX12_curve_37 ?_
    refine lv_icmp_ge (tgt := 64) hx hb dX12_curve_40 (by decide) (fun c6 => ?_) (fun c6 => ?_)
    · skip
      have h := f_t c6 h
      exact hk64 σ1 h _ _ _ hP hD hS (lv_sub hl [0, 1, 2] rfl)
    · skip
      have h := f_f c6 h
      refine lv_aload_n hx hb dX12_curve_43 rfl (lv_at hl 0 rfl) ?_
      refine va_get (D := D) (ci := 12) (v := .ref (G.2.1 210)) (C := RX12) (T := TX12) (N := 59) hx hb hts inU_X12 hown hK hP _ (mg_200 G Z Y σ1) rfl 21 (by decide) (hts _ wd_1269) (fun _ h9 => h9) rfl dX12_curve_44 ?_
      refine lv_iload_n hx hb dX12_curve_47 rfl (lv_at hl 3 rfl) ?_
      refine lv_aload_n hx hb dX12_curve_48 rfl (lv_at hl 0 rfl) ?_
      refine va_get (D := D) (ci := 12) (v := .ref (G.2.1 209)) (C := RX12) (T := TX12) (N := 59) hx hb hts inU_X12 hown hK hP _ (mg_200 G Z Y σ1) rfl 19 (by decide) (hts _ wd_1267) (fun _ h9 => h9) rfl dX12_curve_49 ?_
      refine lv_iload_n hx hb dX12_curve_52 rfl (lv_at hl 3 rfl) ?_
      obtain ⟨c7, h⟩ := f_n h
      refine va_ialdE (v := (σ1.1 209 ((z3 : Int32).toNatClampNeg))) hx hb hK hP _ 0 (mg_209 G Z Y σ1) rfl c7 dX12_curve_53 rfl ?_
      refine lv_iload_n hx hb dX12_curve_54 rfl (lv_at hl 1 rfl) ?_
      obtain ⟨c8, h⟩ := f_n h
      refine lv_irem hx hb dX12_curve_55 c8 ?_
      refine lv_i2l (v := (((σ1.1 209 ((z3 : Int32).toNatClampNeg)) - (σ1.1 209 ((z3 : Int32).toNatClampNeg)) / y1 * y1) : Int32).toInt64) hx hb dX12_curve_56 rfl ?_
      obtain ⟨c9, h⟩ := f_n h
      refine va_last hx hb hK hP hD hS _ 1 (mg_210 G Z Y σ1) rfl c9 dX12_curve_57 (fun H locs hP hD hS => ?_)
      have hP := wrP (mp_210 G Z Y σ1 _ _) hP
      have hD := wrD (mp_210 G Z Y σ1 _ _) hD
      refine lv_iinc (v := (z3 + 1)) (lv' := [(3, .int (z3 + 1)), (0, .ref (G.2.1 200)), (1, .int y1), (2, .int y2)]) hx hb dX12_curve_58 hl (k := 3) rfl rfl (by decide) rfl (fun ls hl => ?_)
      refine lv_goto (tgt := 35) hx hb dX12_curve_61 (by decide) ?_
      exact ih (sJ σ1 210 ((z3 : Int32).toNatClampNeg) ((((σ1.1 209 ((z3 : Int32).toNatClampNeg)) - (σ1.1 209 ((z3 : Int32).toNatClampNeg)) / y1 * y1) : Int32).toInt64)) (z3 + 1) h _ _ _ hP hD hS (lv_sub hl [1, 2, 3, 0] rfl)
set_option maxRecDepth 100000 in
set_option maxHeartbeats 8000000 in
theorem c_X12_curve (l : Launch) (D : va_G) (G : hG) (Z : hZ) (Y : va_W) (σ0 : hSt) (F : Nat) (x1 : Int32) (x2 : Int32) (res : (Int32 × hSt)) (h : f_X12_curve F Z σ0 x1 x2 = some res) : CT l yX12_curve cX12_curve 4 (some .int) rm_X12_curve D G 0 0 [.ref (G.2.1 200), .int x1, .int x2] (mW G Z Y σ0) (mW G Z Y res.2) (some (.int res.1)) := by
  unfold f_X12_curve at h
  refine CT.mk (cc := cX12_curve) (maxL := 4) (ret := (some .int)) (own := RX12) (plainFor_of_name (by decide)) rfl (Nat.le_of_ble_eq_true rfl) ?_
  intro p e s m args below meth c A ls C0 hnm hA hP hD hl
  obtain ⟨hx, hb, hr, hml, hown, hts, hlocks, hK, hE⟩ := id C0
  have hS : va_S A s.heap s.heap [] := va_S.rf
  have hl : lv_has ls 4 [(0, .ref (G.2.1 200)), (1, .int x1), (2, .int x2)] := hl
  refine lv_aload_n hx hb dX12_curve_0 rfl (lv_at hl 0 rfl) ?_
  refine lv_iconst (v := 0) hx hb dX12_curve_1 (by decide) ?_
  refine va_put (D := D) (ci := 12) (v := .int (0 : Int32)) (ty := .int) (C := RX12) (T := TX12) (N := 59) hx hb hts inU_X12 tyX12 tyX12_ok nmX12 hown hK hP hD hS _ (mg_200 G Z Y σ0) rfl 0 (by decide) (hts _ wd_1248) (fun _ h9 => h9) rfl (by decide +kernel) rfl rfl (Nat.le_of_ble_eq_true rfl) dX12_curve_2 (fun H locs hP hD hS => ?_)
  have hP := wrP (mp_200_0 G Z Y σ0 (0 : Int32)) hP
  have hD := wrD (mp_200_0 G Z Y σ0 (0 : Int32)) hD
  refine lv_iload_n hx hb dX12_curve_5 rfl (lv_at hl 1 rfl) ?_
  obtain ⟨q1, hq1, h⟩ := f_b h
  refine cl_S (w := (mW G Z Y (sI σ0 200 0 (0 : Int32)))) (w' := (mW G Z Y (sI σ0 200 0 (0 : Int32)))) (rv := some (.int q1)) (bytes := cX12_isRing) (maxL := 1) (ret := (some .boolean)) (As := [.int x1]) (rest := []) (stk := [.int q1]) ⟨hx, hb, hml, hown, hts⟩ hK hE hA hP hD hS (c_X12_isRing l D G (mW G Z Y (sI σ0 200 0 (0 : Int32))) F x1 q1 hq1) (mkS hts wd_1546 wd_1547 wd_11 wd_1548 rfl rfl hd_X12_isRing ⟨Nat.le_of_ble_eq_true rfl, Nat.le_of_ble_eq_true rfl⟩) rfl hl.1 rfl (Nat.le_of_ble_eq_true rfl) dX12_curve_6 ⟨Nat.zero_le _, Nat.zero_le _⟩ rfl (fun H locs hP hD hS => ?_)
  refine lv_if_eq (tgt := 31) hx hb dX12_curve_9 (by decide) (fun c2 => ?_) (fun c2 => ?_)
  · skip
    have h := f_t c2 h
    refine lv_iconst (v := (-1)) hx hb dX12_curve_31 (by decide) ?_
    obtain rfl := Option.some.inj h
    exact W.iret (v := (-1 : Int32)) hx hb hr (q_end hK hP hD hS) hS.2.2 dX12_curve_32
  · skip
    have h := f_f c2 h
    refine lv_aload_n hx hb dX12_curve_12 rfl (lv_at hl 0 rfl) ?_
    refine va_get (D := D) (ci := 12) (v := .int (σ0.1 200 20)) (C := RX12) (T := TX12) (N := 59) hx hb hts inU_X12 hown hK hP _ (mg_200 G Z Y (sI σ0 200 0 (0 : Int32))) rfl 20 (by decide) (hts _ wd_1268) (fun _ h9 => h9) rfl dX12_curve_13 ?_
    refine lv_if_eq (tgt := 31) hx hb dX12_curve_16 (by decide) (fun c3 => ?_) (fun c3 => ?_)
    · skip
      have h := f_t c3 h
      refine lv_iconst (v := (-1)) hx hb dX12_curve_31 (by decide) ?_
      obtain rfl := Option.some.inj h
      exact W.iret (v := (-1 : Int32)) hx hb hr (q_end hK hP hD hS) hS.2.2 dX12_curve_32
    · skip
      have h := f_f c3 h
      refine lv_aload_n hx hb dX12_curve_19 rfl (lv_at hl 0 rfl) ?_
      refine va_get (D := D) (ci := 12) (v := .int (σ0.1 200 20)) (C := RX12) (T := TX12) (N := 59) hx hb hts inU_X12 hown hK hP _ (mg_200 G Z Y (sI σ0 200 0 (0 : Int32))) rfl 20 (by decide) (hts _ wd_1268) (fun _ h9 => h9) rfl dX12_curve_20 ?_
      refine lv_iload_n hx hb dX12_curve_23 rfl (lv_at hl 1 rfl) ?_
      refine lv_icmp_ge (tgt := 31) hx hb dX12_curve_24 (by decide) (fun c4 => ?_) (fun c4 => ?_)
      · skip
        have h := f_t c4 h
        refine lv_iconst (v := (-1)) hx hb dX12_curve_31 (by decide) ?_
        obtain rfl := Option.some.inj h
        exact W.iret (v := (-1 : Int32)) hx hb hr (q_end hK hP hD hS) hS.2.2 dX12_curve_32
      · skip
        have h := f_f c4 h
        refine lv_iload_n hx hb dX12_curve_27 rfl (lv_at hl 2 rfl) ?_
        refine lv_if_ge (tgt := 33) hx hb dX12_curve_28 (by decide) (fun c5 => ?_) (fun c5 => ?_)
        · skip
          have h := f_t c5 h
          refine lv_iconst (v := 0) hx hb dX12_curve_33 (by decide) ?_
          refine lv_istore_n (lv' := [(3, .int (0 : Int32)), (0, .ref (G.2.1 200)), (1, .int x1), (2, .int x2)]) hx hb dX12_curve_34 rfl hl (by decide) rfl (fun ls hl => ?_)
          refine W_X12_curve_L35 l D G Z Y σ0 F x1 x2 x1 x2 res C0 hA _ ?_ F (sI σ0 200 0 (0 : Int32)) (0 : Int32) h _ _ _ hP hD hS (lv_sub hl [1, 2, 3, 0] rfl)
          · intro σ1 h H locs ls hP hD hS hl
            refine lv_aload_n hx hb dX12_curve_64 rfl (lv_at hl 0 rfl) ?_
            refine lv_aload_n hx hb dX12_curve_65 rfl (lv_at hl 0 rfl) ?_
            refine va_get (D := D) (ci := 12) (v := .int (σ1.1 200 20)) (C := RX12) (T := TX12) (N := 59) hx hb hts inU_X12 hown hK hP _ (mg_200 G Z Y σ1) rfl 20 (by decide) (hts _ wd_1268) (fun _ h9 => h9) rfl dX12_curve_66 ?_
            refine lv_iload_n hx hb dX12_curve_69 rfl (lv_at hl 2 rfl) ?_
            refine lv_i2l (v := (x2 : Int32).toInt64) hx hb dX12_curve_70 rfl ?_
            refine lv_iload_n hx hb dX12_curve_71 rfl (lv_at hl 1 rfl) ?_
            refine lv_i2l (v := (x1 : Int32).toInt64) hx hb dX12_curve_72 rfl ?_
            obtain ⟨q10, hq10, h⟩ := f_b h
            refine cl_V (w := (mW G Z Y σ1)) (w' := (mW G Z Y σ1)) (rv := some (.long q10)) (bytes := cX12_curveAt) (maxL := 14) (ret := (some .long)) (C := RX12) (As := [.int (σ1.1 200 20), .long (x2 : Int32).toInt64, .long (x1 : Int32).toInt64]) (rest := []) (stk := [.long q10]) ⟨hx, hb, hml, hown, hts⟩ hK hE hA hP hD hS (c_X12_curveAt l D G Z Y σ1 F (σ1.1 200 20) ((x2 : Int32).toInt64) ((x1 : Int32).toInt64) q10 hq10) (cwV 3 hts (gwV wd_1562 wd_1564 wp_63 wd_11 wd_1565) rfl rfl rfl hd_X12_curveAt ⟨Nat.le_of_ble_eq_true rfl, Nat.le_of_ble_eq_true rfl⟩) (mg_200 G Z Y σ1) rfl rfl rfl hl.1 rfl (Nat.le_of_ble_eq_true rfl) dX12_curve_73 ⟨Nat.zero_le _, Nat.zero_le _⟩ rfl (fun H locs hP hD hS => ?_)
            refine lv_l2i (v := (q10 : Int64).toInt32) hx hb dX12_curve_76 rfl ?_
            obtain rfl := Option.some.inj h
            exact W.iret (v := (q10 : Int64).toInt32) hx hb hr (q_end hK hP hD hS) hS.2.2 dX12_curve_77
        · skip
          have h := f_f c5 h
          refine lv_iconst (v := (-1)) hx hb dX12_curve_31 (by decide) ?_
          obtain rfl := Option.some.inj h
          exact W.iret (v := (-1 : Int32)) hx hb hr (q_end hK hP hD hS) hS.2.2 dX12_curve_32
abbrev rm_X12_isDigit : Room := { frames := 0, cells := 0, slots := 0, locals := 0 }
set_option maxRecDepth 100000 in
set_option maxHeartbeats 8000000 in
theorem c_X12_isDigit (l : Launch) (D : va_G) (G : hG) (Z : hZ) (Y : va_W) (σ0 : hSt) (res : Int32) (h : f_X12_isDigit Z σ0 = some res) : CT l yX12_isDigit cX12_isDigit 1 (some .boolean) rm_X12_isDigit D G 0 0 [.ref (G.2.1 200)] (mW G Z Y σ0) (mW G Z Y σ0) (some (.int res)) := by
  unfold f_X12_isDigit at h
  refine CT.mk (cc := cX12_isDigit) (maxL := 1) (ret := (some .boolean)) (own := RX12) (plainFor_of_name (by decide)) rfl (Nat.le_of_ble_eq_true rfl) ?_
  intro p e s m args below meth c A ls C0 hnm hA hP hD hl
  obtain ⟨hx, hb, hr, hml, hown, hts, hlocks, hK, hE⟩ := id C0
  have hS : va_S A s.heap s.heap [] := va_S.rf
  have hl : lv_has ls 1 [(0, .ref (G.2.1 200))] := hl
  refine lv_aload_n hx hb dX12_isDigit_0 rfl (lv_at hl 0 rfl) ?_
  refine va_get (D := D) (ci := 12) (v := .int (σ0.1 200 6)) (C := RX12) (T := TX12) (N := 59) hx hb hts inU_X12 hown hK hP _ (mg_200 G Z Y σ0) rfl 6 (by decide) (hts _ wd_1254) (fun _ h9 => h9) rfl dX12_isDigit_1 ?_
  refine lv_aload_n hx hb dX12_isDigit_4 rfl (lv_at hl 0 rfl) ?_
  refine va_get (D := D) (ci := 12) (v := .int (σ0.1 200 5)) (C := RX12) (T := TX12) (N := 59) hx hb hts inU_X12 hown hK hP _ (mg_200 G Z Y σ0) rfl 5 (by decide) (hts _ wd_1253) (fun _ h9 => h9) rfl dX12_isDigit_5 ?_
  refine lv_icmp_ge (tgt := 53) hx hb dX12_isDigit_8 (by decide) (fun c1 => ?_) (fun c1 => ?_)
  · skip
    have h := f_t c1 h
    refine lv_iconst (v := 0) hx hb dX12_isDigit_53 (by decide) ?_
    obtain rfl := Option.some.inj h
    exact W.zret (v := (0 : Int32)) hx hb hr rfl (q_end hK hP hD hS) hS.2.2 dX12_isDigit_54
  · skip
    have h := f_f c1 h
    refine lv_aload_n hx hb dX12_isDigit_11 rfl (lv_at hl 0 rfl) ?_
    refine va_get (D := D) (ci := 12) (v := va_rf (((σ0.2.2 200 2)).map G.2.1)) (C := RX12) (T := TX12) (N := 59) hx hb hts inU_X12 hown hK hP _ (mg_200 G Z Y σ0) rfl 2 (by decide) (hts _ wd_1250) (fun _ h9 => h9) rfl dX12_isDigit_12 ?_
    rcases f_o h with ⟨ho, h⟩ | ⟨r2, ho, h⟩
    · rw [ho]
      refine lv_aload_n hx hb dX12_isDigit_15 rfl (lv_at hl 0 rfl) ?_
      refine va_get (D := D) (ci := 12) (v := .int (σ0.1 200 4)) (C := RX12) (T := TX12) (N := 59) hx hb hts inU_X12 hown hK hP _ (mg_200 G Z Y σ0) rfl 4 (by decide) (hts _ wd_1252) (fun _ h9 => h9) rfl dX12_isDigit_16 ?_
      refine lv_aload_n hx hb dX12_isDigit_19 rfl (lv_at hl 0 rfl) ?_
      refine va_get (D := D) (ci := 12) (v := .int (σ0.1 200 6)) (C := RX12) (T := TX12) (N := 59) hx hb hts inU_X12 hown hK hP _ (mg_200 G Z Y σ0) rfl 6 (by decide) (hts _ wd_1254) (fun _ h9 => h9) rfl dX12_isDigit_20 ?_
      refine lv_iadd hx hb dX12_isDigit_23 ?_
      cases h
    · rw [ho]
      obtain ⟨hr2, h⟩ := f_c h
      refine lv_aload_n hx hb dX12_isDigit_15 rfl (lv_at hl 0 rfl) ?_
      refine va_get (D := D) (ci := 12) (v := .int (σ0.1 200 4)) (C := RX12) (T := TX12) (N := 59) hx hb hts inU_X12 hown hK hP _ (mg_200 G Z Y σ0) rfl 4 (by decide) (hts _ wd_1252) (fun _ h9 => h9) rfl dX12_isDigit_16 ?_
      refine lv_aload_n hx hb dX12_isDigit_19 rfl (lv_at hl 0 rfl) ?_
      refine va_get (D := D) (ci := 12) (v := .int (σ0.1 200 6)) (C := RX12) (T := TX12) (N := 59) hx hb hts inU_X12 hown hK hP _ (mg_200 G Z Y σ0) rfl 6 (by decide) (hts _ wd_1254) (fun _ h9 => h9) rfl dX12_isDigit_20 ?_
      refine lv_iadd hx hb dX12_isDigit_23 ?_
      obtain ⟨c3, h⟩ := f_n h
      refine va_baldE (v := (σ0.1 r2 ((((σ0.1 200 4) + (σ0.1 200 6)) : Int32).toNatClampNeg))) hx hb hK hP _ 2 (mg_By G Z Y σ0 hr2) rfl c3 dX12_isDigit_24 rfl ?_
      refine lv_bipush (v := 48) hx hb dX12_isDigit_25 (by decide) ?_
      refine lv_icmp_lt (tgt := 53) hx hb dX12_isDigit_27 (by decide) (fun c4 => ?_) (fun c4 => ?_)
      · skip
        have h := f_t c4 h
        refine lv_iconst (v := 0) hx hb dX12_isDigit_53 (by decide) ?_
        obtain rfl := Option.some.inj h
        exact W.zret (v := (0 : Int32)) hx hb hr rfl (q_end hK hP hD hS) hS.2.2 dX12_isDigit_54
      · skip
        have h := f_f c4 h
        refine lv_aload_n hx hb dX12_isDigit_30 rfl (lv_at hl 0 rfl) ?_
        refine va_get (D := D) (ci := 12) (v := va_rf (((σ0.2.2 200 2)).map G.2.1)) (C := RX12) (T := TX12) (N := 59) hx hb hts inU_X12 hown hK hP _ (mg_200 G Z Y σ0) rfl 2 (by decide) (hts _ wd_1250) (fun _ h9 => h9) rfl dX12_isDigit_31 ?_
        rcases f_o h with ⟨ho, h⟩ | ⟨r5, ho, h⟩
        · rw [ho]
          refine lv_aload_n hx hb dX12_isDigit_34 rfl (lv_at hl 0 rfl) ?_
          refine va_get (D := D) (ci := 12) (v := .int (σ0.1 200 4)) (C := RX12) (T := TX12) (N := 59) hx hb hts inU_X12 hown hK hP _ (mg_200 G Z Y σ0) rfl 4 (by decide) (hts _ wd_1252) (fun _ h9 => h9) rfl dX12_isDigit_35 ?_
          refine lv_aload_n hx hb dX12_isDigit_38 rfl (lv_at hl 0 rfl) ?_
          refine va_get (D := D) (ci := 12) (v := .int (σ0.1 200 6)) (C := RX12) (T := TX12) (N := 59) hx hb hts inU_X12 hown hK hP _ (mg_200 G Z Y σ0) rfl 6 (by decide) (hts _ wd_1254) (fun _ h9 => h9) rfl dX12_isDigit_39 ?_
          refine lv_iadd hx hb dX12_isDigit_42 ?_
          cases h
        · rw [ho]
          obtain ⟨hr5, h⟩ := f_c h
          refine lv_aload_n hx hb dX12_isDigit_34 rfl (lv_at hl 0 rfl) ?_
          refine va_get (D := D) (ci := 12) (v := .int (σ0.1 200 4)) (C := RX12) (T := TX12) (N := 59) hx hb hts inU_X12 hown hK hP _ (mg_200 G Z Y σ0) rfl 4 (by decide) (hts _ wd_1252) (fun _ h9 => h9) rfl dX12_isDigit_35 ?_
          refine lv_aload_n hx hb dX12_isDigit_38 rfl (lv_at hl 0 rfl) ?_
          refine va_get (D := D) (ci := 12) (v := .int (σ0.1 200 6)) (C := RX12) (T := TX12) (N := 59) hx hb hts inU_X12 hown hK hP _ (mg_200 G Z Y σ0) rfl 6 (by decide) (hts _ wd_1254) (fun _ h9 => h9) rfl dX12_isDigit_39 ?_
          refine lv_iadd hx hb dX12_isDigit_42 ?_
          obtain ⟨c6, h⟩ := f_n h
          refine va_baldE (v := (σ0.1 r5 ((((σ0.1 200 4) + (σ0.1 200 6)) : Int32).toNatClampNeg))) hx hb hK hP _ 2 (mg_By G Z Y σ0 hr5) rfl c6 dX12_isDigit_43 rfl ?_
          refine lv_bipush (v := 57) hx hb dX12_isDigit_44 (by decide) ?_
          refine lv_icmp_gt (tgt := 53) hx hb dX12_isDigit_46 (by decide) (fun c7 => ?_) (fun c7 => ?_)
          · skip
            have h := f_t c7 h
            refine lv_iconst (v := 0) hx hb dX12_isDigit_53 (by decide) ?_
            obtain rfl := Option.some.inj h
            exact W.zret (v := (0 : Int32)) hx hb hr rfl (q_end hK hP hD hS) hS.2.2 dX12_isDigit_54
          · skip
            have h := f_f c7 h
            refine lv_iconst (v := 1) hx hb dX12_isDigit_49 (by decide) ?_
            refine lv_goto (tgt := 54) hx hb dX12_isDigit_50 (by decide) ?_
            obtain rfl := Option.some.inj h
            exact W.zret (v := (1 : Int32)) hx hb hr rfl (q_end hK hP hD hS) hS.2.2 dX12_isDigit_54
abbrev rm_X12_within : Room := { frames := 1, cells := 0, slots := 0, locals := 30 }
set_option maxRecDepth 100000 in
set_option maxHeartbeats 8000000 in
theorem c_X12_within (l : Launch) (D : va_G) (G : hG) (w : va_W) (x0 : Int64) (res : Int64) (h : f_X12_within x0 = some res) : CT l yX12_within cX12_within 2 (some .long) rm_X12_within D G 0 0 [.long x0] w w (some (.long res)) := by
  unfold f_X12_within at h
  refine CT.mk (cc := cX12_within) (maxL := 2) (ret := (some .long)) (own := RX12) (plainFor_of_name (by decide)) rfl (Nat.le_of_ble_eq_true rfl) ?_
  intro p e s m args below meth c A ls C0 hnm hA hP hD hl
  obtain ⟨hx, hb, hr, hml, hown, hts, hlocks, hK, hE⟩ := id C0
  have hS : va_S A s.heap s.heap [] := va_S.rf
  have hl : lv_has ls 2 [(0, .long x0)] := hl
  refine lv_ldc2 (v := (-2000000000)) hx hb hown (hts _ wd_1617) dX12_within_0 ?_
  refine lv_ldc2 (v := 2000000000) hx hb hown (hts _ wd_1618) dX12_within_3 ?_
  refine lv_lload_n hx hb dX12_within_6 rfl (lv_at hl 0 rfl) ?_
  refine va_mmin_long hx hb (hml.trans hl.1.symm) hown (hts _ wd_1619) (hts _ wd_848) (hts _ wd_12) (hts _ wd_849) (Nat.le_of_ble_eq_true rfl) (Nat.le_of_ble_eq_true rfl) (Nat.zero_le _) (Nat.zero_le _) dX12_within_7 ?_
  refine va_mmax_long hx hb (hml.trans hl.1.symm) hown (hts _ wd_1620) (hts _ wd_851) (hts _ wd_12) (hts _ wd_852) (Nat.le_of_ble_eq_true rfl) (Nat.le_of_ble_eq_true rfl) (Nat.zero_le _) (Nat.zero_le _) dX12_within_10 ?_
  obtain rfl := Option.some.inj h
  exact W.lret (v := (if (if x0 < (2000000000 : Int64) then x0 else (2000000000 : Int64)) < (-2000000000 : Int64) then (-2000000000 : Int64) else (if x0 < (2000000000 : Int64) then x0 else (2000000000 : Int64)))) hx hb hr (q_end hK hP hD hS) hS.2.2 dX12_within_13
abbrev rm_X12_isSign : Room := { frames := 0, cells := 0, slots := 0, locals := 0 }
set_option maxRecDepth 100000 in
set_option maxHeartbeats 8000000 in
theorem c_X12_isSign (l : Launch) (D : va_G) (G : hG) (w : va_W) (x0 : Int32) (res : Int32) (h : f_X12_isSign x0 = some res) : CT l yX12_isSign cX12_isSign 1 (some .boolean) rm_X12_isSign D G 0 0 [.int x0] w w (some (.int res)) := by
  unfold f_X12_isSign at h
  refine CT.mk (cc := cX12_isSign) (maxL := 1) (ret := (some .boolean)) (own := RX12) (plainFor_of_name (by decide)) rfl (Nat.le_of_ble_eq_true rfl) ?_
  intro p e s m args below meth c A ls C0 hnm hA hP hD hl
  obtain ⟨hx, hb, hr, hml, hown, hts, hlocks, hK, hE⟩ := id C0
  have hS : va_S A s.heap s.heap [] := va_S.rf
  have hl : lv_has ls 1 [(0, .int x0)] := hl
  refine lv_iload_n hx hb dX12_isSign_0 rfl (lv_at hl 0 rfl) ?_
  refine lv_bipush (v := 61) hx hb dX12_isSign_1 (by decide) ?_
  refine lv_icmp_eq (tgt := 18) hx hb dX12_isSign_3 (by decide) (fun c1 => ?_) (fun c1 => ?_)
  · skip
    have h := f_t c1 h
    refine lv_iconst (v := 1) hx hb dX12_isSign_18 (by decide) ?_
    refine lv_goto (tgt := 23) hx hb dX12_isSign_19 (by decide) ?_
    obtain rfl := Option.some.inj h
    exact W.zret (v := (1 : Int32)) hx hb hr rfl (q_end hK hP hD hS) hS.2.2 dX12_isSign_23
  · skip
    have h := f_f c1 h
    refine lv_iload_n hx hb dX12_isSign_6 rfl (lv_at hl 0 rfl) ?_
    refine lv_bipush (v := 60) hx hb dX12_isSign_7 (by decide) ?_
    refine lv_icmp_eq (tgt := 18) hx hb dX12_isSign_9 (by decide) (fun c2 => ?_) (fun c2 => ?_)
    · skip
      have h := f_t c2 h
      refine lv_iconst (v := 1) hx hb dX12_isSign_18 (by decide) ?_
      refine lv_goto (tgt := 23) hx hb dX12_isSign_19 (by decide) ?_
      obtain rfl := Option.some.inj h
      exact W.zret (v := (1 : Int32)) hx hb hr rfl (q_end hK hP hD hS) hS.2.2 dX12_isSign_23
    · skip
      have h := f_f c2 h
      refine lv_iload_n hx hb dX12_isSign_12 rfl (lv_at hl 0 rfl) ?_
      refine lv_bipush (v := 62) hx hb dX12_isSign_13 (by decide) ?_
      refine lv_icmp_ne (tgt := 22) hx hb dX12_isSign_15 (by decide) (fun c3 => ?_) (fun c3 => ?_)
      · skip
        have h := f_f c3 h
        refine lv_iconst (v := 0) hx hb dX12_isSign_22 (by decide) ?_
        obtain rfl := Option.some.inj h
        exact W.zret (v := (0 : Int32)) hx hb hr rfl (q_end hK hP hD hS) hS.2.2 dX12_isSign_23
      · skip
        have h := f_t c3 h
        refine lv_iconst (v := 1) hx hb dX12_isSign_18 (by decide) ?_
        refine lv_goto (tgt := 23) hx hb dX12_isSign_19 (by decide) ?_
        obtain rfl := Option.some.inj h
        exact W.zret (v := (1 : Int32)) hx hb hr rfl (q_end hK hP hD hS) hS.2.2 dX12_isSign_23
abbrev rm_X12_noLetters : Room := { frames := 0, cells := 0, slots := 0, locals := 0 }
set_option maxRecDepth 100000 in
set_option maxHeartbeats 8000000 in
theorem W_X12_noLetters_L2 {p : Program} {e : Env} {s : State} {m : MethodId} {args : Array Value} {below : List Frame} {meth : Method} {c : Code} {A : Nat → Prop} (l : Launch) (D : va_G) (G : hG) (Z : hZ) (Y : va_W) (σ0 : hSt) (F : Nat) (res : (Unit × hSt)) (C0 : Cx p s m args meth c cX12_noLetters none RX12 2 D G A) (hA : ∀ q : Nat, s.heap.size ≤ q → A q) : ∀ (n : Nat) (σ1 : hSt) (z1 : Int32), f_X12_noLetters_L2 n σ1 z1 = some res → ∀ (H : Heap) (locs : List Loc) (ls : Array Slot), va_P D vwCl (mW G Z Y σ1) H → va_D A (mW G Z Y σ1) → va_S A s.heap H locs → lv_has ls 2 [(0, .ref (G.2.1 200)), (1, .int z1)] → W p l e rm_X12_noLetters s m args below meth c H locs 0 0 (MQ below (Qg none D (tysG G) (mW G Z Y res.2) A) args s 0 0 A) (F0 m 2 ls []) := by
  obtain ⟨hx, hb, hr, hml, hown, hts, hlocks, hK, hE⟩ := id C0
  intro n
  induction n with
  | zero =>
    intro σ1 z1 h
    cases h
  | succ n ih =>
    intro σ1 z1 h H locs ls hP hD hS hl
    rw [f_X12_noLetters_L2] at h
    refine lv_iload_n hx hb dX12_noLetters_2 rfl (lv_at hl 1 rfl) ?_
    refine lv_sipush (v := 128) hx hb dX12_noLetters_3 (by decide) ?_
    refine lv_icmp_ge (tgt := 22) hx hb dX12_noLetters_6 (by decide) (fun c1 => ?_) (fun c1 => ?_)
    · skip
      have h := f_t c1 h
      obtain rfl := Option.some.inj h
      exact W.vret hx hb hr (q_end hK hP hD hS) hS.2.2 dX12_noLetters_22
    · skip
      have h := f_f c1 h
      refine lv_aload_n hx hb dX12_noLetters_9 rfl (lv_at hl 0 rfl) ?_
      refine va_get (D := D) (ci := 12) (v := .ref (G.2.1 213)) (C := RX12) (T := TX12) (N := 59) hx hb hts inU_X12 hown hK hP _ (mg_200 G Z Y σ1) rfl 24 (by decide) (hts _ wd_1272) (fun _ h9 => h9) rfl dX12_noLetters_10 ?_
      refine lv_iload_n hx hb dX12_noLetters_13 rfl (lv_at hl 1 rfl) ?_
      refine lv_lconst (v := 0) hx hb dX12_noLetters_14 (by decide) ?_
      obtain ⟨c2, h⟩ := f_n h
      refine va_last hx hb hK hP hD hS _ 1 (mg_213 G Z Y σ1) rfl c2 dX12_noLetters_15 (fun H locs hP hD hS => ?_)
      have hP := wrP (mp_213 G Z Y σ1 _ _) hP
      have hD := wrD (mp_213 G Z Y σ1 _ _) hD
      refine lv_iinc (v := (z1 + 1)) (lv' := [(1, .int (z1 + 1)), (0, .ref (G.2.1 200))]) hx hb dX12_noLetters_16 hl (k := 1) rfl rfl (by decide) rfl (fun ls hl => ?_)
      refine lv_goto (tgt := 2) hx hb dX12_noLetters_19 (by decide) ?_
      exact ih (sJ σ1 213 ((z1 : Int32).toNatClampNeg) (0 : Int64)) (z1 + 1) h _ _ _ hP hD hS (lv_sub hl [1, 0] rfl)
set_option maxRecDepth 100000 in
set_option maxHeartbeats 8000000 in
theorem c_X12_noLetters (l : Launch) (D : va_G) (G : hG) (Z : hZ) (Y : va_W) (σ0 : hSt) (F : Nat) (res : (Unit × hSt)) (h : f_X12_noLetters F Z σ0 = some res) : CT l yX12_noLetters cX12_noLetters 2 none rm_X12_noLetters D G 0 0 [.ref (G.2.1 200)] (mW G Z Y σ0) (mW G Z Y res.2) none := by
  unfold f_X12_noLetters at h
  refine CT.mk (cc := cX12_noLetters) (maxL := 2) (ret := none) (own := RX12) (plainFor_of_name (by decide)) rfl (Nat.le_of_ble_eq_true rfl) ?_
  intro p e s m args below meth c A ls C0 hnm hA hP hD hl
  obtain ⟨hx, hb, hr, hml, hown, hts, hlocks, hK, hE⟩ := id C0
  have hS : va_S A s.heap s.heap [] := va_S.rf
  have hl : lv_has ls 2 [(0, .ref (G.2.1 200))] := hl
  refine lv_iconst (v := 0) hx hb dX12_noLetters_0 (by decide) ?_
  refine lv_istore_n (lv' := [(1, .int (0 : Int32)), (0, .ref (G.2.1 200))]) hx hb dX12_noLetters_1 rfl hl (by decide) rfl (fun ls hl => ?_)
  refine W_X12_noLetters_L2 l D G Z Y σ0 F res C0 hA F σ0 (0 : Int32) h _ _ _ hP hD hS (lv_sub hl [1, 0] rfl)
abbrev rm_X12_isTalk : Room := { frames := 0, cells := 0, slots := 0, locals := 0 }
set_option maxRecDepth 100000 in
set_option maxHeartbeats 8000000 in
theorem c_X12_isTalk (l : Launch) (D : va_G) (G : hG) (Z : hZ) (Y : va_W) (σ0 : hSt) (x1 : Int32) (res : Int32) (h : f_X12_isTalk Z σ0 x1 = some res) : CT l yX12_isTalk cX12_isTalk 2 (some .boolean) rm_X12_isTalk D G 0 0 [.ref (G.2.1 200), .int x1] (mW G Z Y σ0) (mW G Z Y σ0) (some (.int res)) := by
  unfold f_X12_isTalk at h
  refine CT.mk (cc := cX12_isTalk) (maxL := 2) (ret := (some .boolean)) (own := RX12) (plainFor_of_name (by decide)) rfl (Nat.le_of_ble_eq_true rfl) ?_
  intro p e s m args below meth c A ls C0 hnm hA hP hD hl
  obtain ⟨hx, hb, hr, hml, hown, hts, hlocks, hK, hE⟩ := id C0
  have hS : va_S A s.heap s.heap [] := va_S.rf
  have hl : lv_has ls 2 [(0, .ref (G.2.1 200)), (1, .int x1)] := hl
  refine lv_iload_n hx hb dX12_isTalk_0 rfl (lv_at hl 1 rfl) ?_
  refine lv_if_lt (tgt := 16) hx hb dX12_isTalk_1 (by decide) (fun c1 => ?_) (fun c1 => ?_)
  · skip
    have h := f_t c1 h
    refine lv_iconst (v := 0) hx hb dX12_isTalk_16 (by decide) ?_
    obtain rfl := Option.some.inj h
    exact W.zret (v := (0 : Int32)) hx hb hr rfl (q_end hK hP hD hS) hS.2.2 dX12_isTalk_17
  · skip
    have h := f_f c1 h
    refine lv_iload_n hx hb dX12_isTalk_4 rfl (lv_at hl 1 rfl) ?_
    refine lv_aload_n hx hb dX12_isTalk_5 rfl (lv_at hl 0 rfl) ?_
    refine va_get (D := D) (ci := 12) (v := .int (σ0.1 200 36)) (C := RX12) (T := TX12) (N := 59) hx hb hts inU_X12 hown hK hP _ (mg_200 G Z Y σ0) rfl 36 (by decide) (hts _ wd_1284) (fun _ h9 => h9) rfl dX12_isTalk_6 ?_
    refine lv_icmp_ge (tgt := 16) hx hb dX12_isTalk_9 (by decide) (fun c2 => ?_) (fun c2 => ?_)
    · skip
      have h := f_t c2 h
      refine lv_iconst (v := 0) hx hb dX12_isTalk_16 (by decide) ?_
      obtain rfl := Option.some.inj h
      exact W.zret (v := (0 : Int32)) hx hb hr rfl (q_end hK hP hD hS) hS.2.2 dX12_isTalk_17
    · skip
      have h := f_f c2 h
      refine lv_iconst (v := 1) hx hb dX12_isTalk_12 (by decide) ?_
      refine lv_goto (tgt := 17) hx hb dX12_isTalk_13 (by decide) ?_
      obtain rfl := Option.some.inj h
      exact W.zret (v := (1 : Int32)) hx hb hr rfl (q_end hK hP hD hS) hS.2.2 dX12_isTalk_17
abbrev rm_X12_talk : Room := { frames := 2, cells := 0, slots := 0, locals := 45 }
set_option maxRecDepth 100000 in
set_option maxHeartbeats 8000000 in
theorem W_X12_talk_L67 {p : Program} {e : Env} {s : State} {m : MethodId} {args : Array Value} {below : List Frame} {meth : Method} {c : Code} {A : Nat → Prop} (l : Launch) (D : va_G) (G : hG) (Z : hZ) (Y : va_W) (σ0 : hSt) (F : Nat) (x1 : Int32) (x2 : Int32) (x3 : Int32) (x4 : Int32) (σ1 : hSt) (y1 : Int32) (y2 : Int32) (y3 : Int32) (y4 : Int32) (res : (Int32 × hSt)) (C0 : Cx p s m args meth c cX12_talk (some .int) RX12 6 D G A) (hA : ∀ q : Nat, s.heap.size ≤ q → A q) (k102 : Option (Int32 × hSt)) (hk102 : k102 = some res → ∀ (H : Heap) (locs : List Loc) (ls : Array Slot), va_P D vwCl (mW G Z Y σ1) H → va_D A (mW G Z Y σ1) → va_S A s.heap H locs → lv_has ls 6 [(0, .ref (G.2.1 200)), (1, .int y1), (2, .int y2), (3, .int y3), (4, .int y4)] → W p l e rm_X12_talk s m args below meth c H locs 0 0 (MQ below (Qg (some (.int res.1)) D (tysG G) (mW G Z Y res.2) A) args s 0 0 A) (F0 m 102 ls [])) : ∀ (n : Nat) (z5 : Int32), f_X12_talk_L67 σ1 y1 y2 y3 y4 k102 n z5 = some res → ∀ (H : Heap) (locs : List Loc) (ls : Array Slot), va_P D vwCl (mW G Z Y σ1) H → va_D A (mW G Z Y σ1) → va_S A s.heap H locs → lv_has ls 6 [(0, .ref (G.2.1 200)), (1, .int y1), (2, .int y2), (3, .int y3), (4, .int y4), (5, .int z5)] → W p l e rm_X12_talk s m args below meth c H locs 0 0 (MQ below (Qg (some (.int res.1)) D (tysG G) (mW G Z Y res.2) A) args s 0 0 A) (F0 m 67 ls []) := by
  obtain ⟨hx, hb, hr, hml, hown, hts, hlocks, hK, hE⟩ := id C0
  intro n
  induction n with
  | zero =>
    intro z5 h
    cases h
  | succ n ih =>
    intro z5 h H locs ls hP hD hS hl
    rw [f_X12_talk_L67] at h
    refine lv_iload hx hb dX12_talk_67 (lv_at hl 5 rfl) ?_
    refine lv_aload_n hx hb dX12_talk_69 rfl (lv_at hl 0 rfl) ?_
    refine va_get (D := D) (ci := 12) (v := .ref (G.2.1 204)) (C := RX12) (T := TX12) (N := 59) hx hb hts inU_X12 hown hK hP _ (mg_200 G Z Y σ1) rfl 12 (by decide) (hts _ wd_1260) (fun _ h9 => h9) rfl dX12_talk_70 ?_
    refine lv_iload_n hx hb dX12_talk_73 rfl (lv_at hl 1 rfl) ?_
    obtain ⟨c10, h⟩ := f_n h
    refine va_ialdE (v := (σ1.1 204 ((y1 : Int32).toNatClampNeg))) hx hb hK hP _ 0 (mg_204 G Z Y σ1) rfl c10 dX12_talk_74 rfl ?_
    refine lv_icmp_ge (tgt := 102) hx hb dX12_talk_75 (by decide) (fun c11 => ?_) (fun c11 => ?_)
    · skip
      have h := f_t c11 h
      exact hk102 h _ _ _ hP hD hS (lv_sub hl [0, 1, 2, 3, 4] rfl)
    · skip
      have h := f_f c11 h
      refine lv_aload_n hx hb dX12_talk_78 rfl (lv_at hl 0 rfl) ?_
      refine va_get (D := D) (ci := 12) (v := .ref (G.2.1 205)) (C := RX12) (T := TX12) (N := 59) hx hb hts inU_X12 hown hK hP _ (mg_200 G Z Y σ1) rfl 13 (by decide) (hts _ wd_1261) (fun _ h9 => h9) rfl dX12_talk_79 ?_
      refine lv_bipush (v := 6) hx hb dX12_talk_82 (by decide) ?_
      refine lv_iload_n hx hb dX12_talk_84 rfl (lv_at hl 1 rfl) ?_
      refine lv_imul hx hb dX12_talk_85 ?_
      refine lv_iload hx hb dX12_talk_86 (lv_at hl 5 rfl) ?_
      refine lv_iadd hx hb dX12_talk_88 ?_
      obtain ⟨c12, h⟩ := f_n h
      refine va_ialdE (v := (σ1.1 205 (((((6 : Int32) * y1) + z5) : Int32).toNatClampNeg))) hx hb hK hP _ 0 (mg_205 G Z Y σ1) rfl c12 dX12_talk_89 rfl ?_
      refine lv_iload_n hx hb dX12_talk_90 rfl (lv_at hl 2 rfl) ?_
      refine lv_icmp_lt (tgt := 96) hx hb dX12_talk_91 (by decide) (fun c13 => ?_) (fun c13 => ?_)
      · skip
        have h := f_t c13 h
        refine lv_iinc (v := (z5 + 1)) (lv' := [(5, .int (z5 + 1)), (0, .ref (G.2.1 200)), (1, .int y1), (2, .int y2), (3, .int y3), (4, .int y4)]) hx hb dX12_talk_96 hl (k := 5) rfl rfl (by decide) rfl (fun ls hl => ?_)
        refine lv_goto (tgt := 67) hx hb dX12_talk_99 (by decide) ?_
        exact ih (z5 + 1) h _ _ _ hP hD hS (lv_sub hl [1, 2, 3, 4, 5, 0] rfl)
      · skip
        have h := f_f c13 h
        refine lv_iconst (v := (-1)) hx hb dX12_talk_94 (by decide) ?_
        obtain rfl := Option.some.inj h
        exact W.iret (v := (-1 : Int32)) hx hb hr (q_end hK hP hD hS) hS.2.2 dX12_talk_95
set_option maxRecDepth 100000 in
set_option maxHeartbeats 8000000 in
theorem c_X12_talk (l : Launch) (D : va_G) (G : hG) (Z : hZ) (Y : va_W) (σ0 : hSt) (F : Nat) (x1 : Int32) (x2 : Int32) (x3 : Int32) (x4 : Int32) (res : (Int32 × hSt)) (h : f_X12_talk F Z σ0 x1 x2 x3 x4 = some res) : CT l yX12_talk cX12_talk 6 (some .int) rm_X12_talk D G 0 0 [.ref (G.2.1 200), .int x1, .int x2, .int x3, .int x4] (mW G Z Y σ0) (mW G Z Y res.2) (some (.int res.1)) := by
  unfold f_X12_talk at h
  refine CT.mk (cc := cX12_talk) (maxL := 6) (ret := (some .int)) (own := RX12) (plainFor_of_name (by decide)) rfl (Nat.le_of_ble_eq_true rfl) ?_
  intro p e s m args below meth c A ls C0 hnm hA hP hD hl
  obtain ⟨hx, hb, hr, hml, hown, hts, hlocks, hK, hE⟩ := id C0
  have hS : va_S A s.heap s.heap [] := va_S.rf
  have hl : lv_has ls 6 [(0, .ref (G.2.1 200)), (1, .int x1), (2, .int x2), (3, .int x3), (4, .int x4)] := hl
  refine lv_aload_n hx hb dX12_talk_0 rfl (lv_at hl 0 rfl) ?_
  refine lv_iconst (v := 0) hx hb dX12_talk_1 (by decide) ?_
  refine va_put (D := D) (ci := 12) (v := .int (0 : Int32)) (ty := .int) (C := RX12) (T := TX12) (N := 59) hx hb hts inU_X12 tyX12 tyX12_ok nmX12 hown hK hP hD hS _ (mg_200 G Z Y σ0) rfl 0 (by decide) (hts _ wd_1248) (fun _ h9 => h9) rfl (by decide +kernel) rfl rfl (Nat.le_of_ble_eq_true rfl) dX12_talk_2 (fun H locs hP hD hS => ?_)
  have hP := wrP (mp_200_0 G Z Y σ0 (0 : Int32)) hP
  have hD := wrD (mp_200_0 G Z Y σ0 (0 : Int32)) hD
  refine lv_aload_n hx hb dX12_talk_5 rfl (lv_at hl 0 rfl) ?_
  refine va_get (D := D) (ci := 12) (v := .int (σ0.1 200 36)) (C := RX12) (T := TX12) (N := 59) hx hb hts inU_X12 hown hK hP _ (mg_200 G Z Y (sI σ0 200 0 (0 : Int32))) rfl 36 (by decide) (hts _ wd_1284) (fun _ h9 => h9) rfl dX12_talk_6 ?_
  refine lv_bipush (v := 12) hx hb dX12_talk_9 (by decide) ?_
  refine lv_icmp_eq (tgt := 62) hx hb dX12_talk_11 (by decide) (fun c1 => ?_) (fun c1 => ?_)
  · skip
    have h := f_t c1 h
    refine lv_iconst (v := (-1)) hx hb dX12_talk_62 (by decide) ?_
    obtain rfl := Option.some.inj h
    exact W.iret (v := (-1 : Int32)) hx hb hr (q_end hK hP hD hS) hS.2.2 dX12_talk_63
  · skip
    have h := f_f c1 h
    refine lv_aload_n hx hb dX12_talk_14 rfl (lv_at hl 0 rfl) ?_
    refine lv_iload_n hx hb dX12_talk_15 rfl (lv_at hl 1 rfl) ?_
    obtain ⟨q2, hq2, h⟩ := f_b h
    refine cl_V (w := (mW G Z Y (sI σ0 200 0 (0 : Int32)))) (w' := (mW G Z Y (sI σ0 200 0 (0 : Int32)))) (rv := some (.int q2)) (bytes := cX12_isSaying) (maxL := 2) (ret := (some .boolean)) (C := RX12) (As := [.int x1]) (rest := []) (stk := [.int q2]) ⟨hx, hb, hml, hown, hts⟩ hK hE hA hP hD hS (c_X12_isSaying l D G Z Y (sI σ0 200 0 (0 : Int32)) x1 q2 hq2) (cwV 1 hts (gwV wd_1493 wd_1495 wp_57 wd_11 wd_1496) rfl rfl rfl hd_X12_isSaying ⟨Nat.le_of_ble_eq_true rfl, Nat.le_of_ble_eq_true rfl⟩) (mg_200 G Z Y (sI σ0 200 0 (0 : Int32))) rfl rfl rfl hl.1 rfl (Nat.le_of_ble_eq_true rfl) dX12_talk_16 ⟨Nat.zero_le _, Nat.zero_le _⟩ rfl (fun H locs hP hD hS => ?_)
    refine lv_if_eq (tgt := 62) hx hb dX12_talk_19 (by decide) (fun c3 => ?_) (fun c3 => ?_)
    · skip
      have h := f_t c3 h
      refine lv_iconst (v := (-1)) hx hb dX12_talk_62 (by decide) ?_
      obtain rfl := Option.some.inj h
      exact W.iret (v := (-1 : Int32)) hx hb hr (q_end hK hP hD hS) hS.2.2 dX12_talk_63
    · skip
      have h := f_f c3 h
      refine lv_iload_n hx hb dX12_talk_22 rfl (lv_at hl 2 rfl) ?_
      obtain ⟨q4, hq4, h⟩ := f_b h
      refine cl_S (w := (mW G Z Y (sI σ0 200 0 (0 : Int32)))) (w' := (mW G Z Y (sI σ0 200 0 (0 : Int32)))) (rv := some (.int q4)) (bytes := cX12_isRing) (maxL := 1) (ret := (some .boolean)) (As := [.int x2]) (rest := []) (stk := [.int q4]) ⟨hx, hb, hml, hown, hts⟩ hK hE hA hP hD hS (c_X12_isRing l D G (mW G Z Y (sI σ0 200 0 (0 : Int32))) F x2 q4 hq4) (mkS hts wd_1546 wd_1547 wd_11 wd_1548 rfl rfl hd_X12_isRing ⟨Nat.le_of_ble_eq_true rfl, Nat.le_of_ble_eq_true rfl⟩) rfl hl.1 rfl (Nat.le_of_ble_eq_true rfl) dX12_talk_23 ⟨Nat.zero_le _, Nat.zero_le _⟩ rfl (fun H locs hP hD hS => ?_)
      refine lv_if_eq (tgt := 62) hx hb dX12_talk_26 (by decide) (fun c5 => ?_) (fun c5 => ?_)
      · skip
        have h := f_t c5 h
        refine lv_iconst (v := (-1)) hx hb dX12_talk_62 (by decide) ?_
        obtain rfl := Option.some.inj h
        exact W.iret (v := (-1 : Int32)) hx hb hr (q_end hK hP hD hS) hS.2.2 dX12_talk_63
      · skip
        have h := f_f c5 h
        refine lv_iload_n hx hb dX12_talk_29 rfl (lv_at hl 3 rfl) ?_
        refine lv_i2l (v := (x3 : Int32).toInt64) hx hb dX12_talk_30 rfl ?_
        refine lv_lconst (v := 0) hx hb dX12_talk_31 (by decide) ?_
        refine lv_aload_n hx hb dX12_talk_32 rfl (lv_at hl 0 rfl) ?_
        refine va_get (D := D) (ci := 12) (v := .int (σ0.1 200 25)) (C := RX12) (T := TX12) (N := 59) hx hb hts inU_X12 hown hK hP _ (mg_200 G Z Y (sI σ0 200 0 (0 : Int32))) rfl 25 (by decide) (hts _ wd_1273) (fun _ h9 => h9) rfl dX12_talk_33 ?_
        refine lv_iconst (v := 1) hx hb dX12_talk_36 (by decide) ?_
        refine lv_isub hx hb dX12_talk_37 ?_
        refine lv_i2l (v := (((σ0.1 200 25) - (1 : Int32)) : Int32).toInt64) hx hb dX12_talk_38 rfl ?_
        obtain ⟨q6, hq6, h⟩ := f_b h
        refine cl_S (w := (mW G Z Y (sI σ0 200 0 (0 : Int32)))) (w' := (mW G Z Y (sI σ0 200 0 (0 : Int32)))) (rv := some (.int q6)) (bytes := cX12_isIn) (maxL := 6) (ret := (some .boolean)) (As := [.long (x3 : Int32).toInt64, .long (0 : Int64), .long (((σ0.1 200 25) - (1 : Int32)) : Int32).toInt64]) (rest := []) (stk := [.int q6]) ⟨hx, hb, hml, hown, hts⟩ hK hE hA hP hD hS (c_X12_isIn l D G (mW G Z Y (sI σ0 200 0 (0 : Int32))) ((x3 : Int32).toInt64) (0 : Int64) ((((σ0.1 200 25) - (1 : Int32)) : Int32).toInt64) q6 hq6) (mkS hts wd_1498 wd_1499 wd_11 wd_1500 rfl rfl hd_X12_isIn ⟨Nat.le_of_ble_eq_true rfl, Nat.le_of_ble_eq_true rfl⟩) rfl hl.1 rfl (Nat.le_of_ble_eq_true rfl) dX12_talk_39 ⟨Nat.zero_le _, Nat.zero_le _⟩ rfl (fun H locs hP hD hS => ?_)
        refine lv_if_eq (tgt := 62) hx hb dX12_talk_42 (by decide) (fun c7 => ?_) (fun c7 => ?_)
        · skip
          have h := f_t c7 h
          refine lv_iconst (v := (-1)) hx hb dX12_talk_62 (by decide) ?_
          obtain rfl := Option.some.inj h
          exact W.iret (v := (-1 : Int32)) hx hb hr (q_end hK hP hD hS) hS.2.2 dX12_talk_63
        · skip
          have h := f_f c7 h
          refine lv_iload hx hb dX12_talk_45 (lv_at hl 4 rfl) ?_
          refine lv_i2l (v := (x4 : Int32).toInt64) hx hb dX12_talk_47 rfl ?_
          refine lv_lconst (v := 0) hx hb dX12_talk_48 (by decide) ?_
          refine lv_aload_n hx hb dX12_talk_49 rfl (lv_at hl 0 rfl) ?_
          refine va_get (D := D) (ci := 12) (v := .int (σ0.1 200 26)) (C := RX12) (T := TX12) (N := 59) hx hb hts inU_X12 hown hK hP _ (mg_200 G Z Y (sI σ0 200 0 (0 : Int32))) rfl 26 (by decide) (hts _ wd_1274) (fun _ h9 => h9) rfl dX12_talk_50 ?_
          refine lv_iconst (v := 1) hx hb dX12_talk_53 (by decide) ?_
          refine lv_isub hx hb dX12_talk_54 ?_
          refine lv_i2l (v := (((σ0.1 200 26) - (1 : Int32)) : Int32).toInt64) hx hb dX12_talk_55 rfl ?_
          obtain ⟨q8, hq8, h⟩ := f_b h
          refine cl_S (w := (mW G Z Y (sI σ0 200 0 (0 : Int32)))) (w' := (mW G Z Y (sI σ0 200 0 (0 : Int32)))) (rv := some (.int q8)) (bytes := cX12_isIn) (maxL := 6) (ret := (some .boolean)) (As := [.long (x4 : Int32).toInt64, .long (0 : Int64), .long (((σ0.1 200 26) - (1 : Int32)) : Int32).toInt64]) (rest := []) (stk := [.int q8]) ⟨hx, hb, hml, hown, hts⟩ hK hE hA hP hD hS (c_X12_isIn l D G (mW G Z Y (sI σ0 200 0 (0 : Int32))) ((x4 : Int32).toInt64) (0 : Int64) ((((σ0.1 200 26) - (1 : Int32)) : Int32).toInt64) q8 hq8) (mkS hts wd_1498 wd_1499 wd_11 wd_1500 rfl rfl hd_X12_isIn ⟨Nat.le_of_ble_eq_true rfl, Nat.le_of_ble_eq_true rfl⟩) rfl hl.1 rfl (Nat.le_of_ble_eq_true rfl) dX12_talk_56 ⟨Nat.zero_le _, Nat.zero_le _⟩ rfl (fun H locs hP hD hS => ?_)
          refine lv_if_ne (tgt := 64) hx hb dX12_talk_59 (by decide) (fun c9 => ?_) (fun c9 => ?_)
          · skip
            have h := f_f c9 h
            refine lv_iconst (v := 0) hx hb dX12_talk_64 (by decide) ?_
            refine lv_istore (lv' := [(5, .int (0 : Int32)), (0, .ref (G.2.1 200)), (1, .int x1), (2, .int x2), (3, .int x3), (4, .int x4)]) hx hb dX12_talk_65 hl (by decide) rfl (fun ls hl => ?_)
            refine W_X12_talk_L67 l D G Z Y σ0 F x1 x2 x3 x4 (sI σ0 200 0 (0 : Int32)) x1 x2 x3 x4 res C0 hA _ ?_ F (0 : Int32) h _ _ _ hP hD hS (lv_sub hl [1, 2, 3, 4, 5, 0] rfl)
            · intro  h H locs ls hP hD hS hl
              refine lv_aload_n hx hb dX12_talk_102 rfl (lv_at hl 0 rfl) ?_
              refine va_get (D := D) (ci := 12) (v := .ref (G.2.1 214)) (C := RX12) (T := TX12) (N := 59) hx hb hts inU_X12 hown hK hP _ (mg_200 G Z Y (sI σ0 200 0 (0 : Int32))) rfl 32 (by decide) (hts _ wd_1280) (fun _ h9 => h9) rfl dX12_talk_103 ?_
              refine lv_aload_n hx hb dX12_talk_106 rfl (lv_at hl 0 rfl) ?_
              refine va_get (D := D) (ci := 12) (v := .int (σ0.1 200 36)) (C := RX12) (T := TX12) (N := 59) hx hb hts inU_X12 hown hK hP _ (mg_200 G Z Y (sI σ0 200 0 (0 : Int32))) rfl 36 (by decide) (hts _ wd_1284) (fun _ h9 => h9) rfl dX12_talk_107 ?_
              refine lv_iload_n hx hb dX12_talk_110 rfl (lv_at hl 1 rfl) ?_
              obtain ⟨c14, h⟩ := f_n h
              refine va_iast hx hb hK hP hD hS _ 0 (mg_214 G Z Y (sI σ0 200 0 (0 : Int32))) rfl c14 dX12_talk_111 (fun H locs hP hD hS => ?_)
              have hP := wrP (mp_214 G Z Y (sI σ0 200 0 (0 : Int32)) _ _) hP
              have hD := wrD (mp_214 G Z Y (sI σ0 200 0 (0 : Int32)) _ _) hD
              refine lv_aload_n hx hb dX12_talk_112 rfl (lv_at hl 0 rfl) ?_
              refine va_get (D := D) (ci := 12) (v := .ref (G.2.1 215)) (C := RX12) (T := TX12) (N := 59) hx hb hts inU_X12 hown hK hP _ (mg_200 G Z Y (sI (sI σ0 200 0 (0 : Int32)) 214 (((σ0.1 200 36) : Int32).toNatClampNeg) x1)) rfl 33 (by decide) (hts _ wd_1281) (fun _ h9 => h9) rfl dX12_talk_113 ?_
              refine lv_aload_n hx hb dX12_talk_116 rfl (lv_at hl 0 rfl) ?_
              refine va_get (D := D) (ci := 12) (v := .int (σ0.1 200 36)) (C := RX12) (T := TX12) (N := 59) hx hb hts inU_X12 hown hK hP _ (mg_200 G Z Y (sI (sI σ0 200 0 (0 : Int32)) 214 (((σ0.1 200 36) : Int32).toNatClampNeg) x1)) rfl 36 (by decide) (hts _ wd_1284) (fun _ h9 => h9) rfl dX12_talk_117 ?_
              refine lv_iload_n hx hb dX12_talk_120 rfl (lv_at hl 2 rfl) ?_
              obtain ⟨c15, h⟩ := f_n h
              refine va_iast hx hb hK hP hD hS _ 0 (mg_215 G Z Y (sI (sI σ0 200 0 (0 : Int32)) 214 (((σ0.1 200 36) : Int32).toNatClampNeg) x1)) rfl c15 dX12_talk_121 (fun H locs hP hD hS => ?_)
              have hP := wrP (mp_215 G Z Y (sI (sI σ0 200 0 (0 : Int32)) 214 (((σ0.1 200 36) : Int32).toNatClampNeg) x1) _ _) hP
              have hD := wrD (mp_215 G Z Y (sI (sI σ0 200 0 (0 : Int32)) 214 (((σ0.1 200 36) : Int32).toNatClampNeg) x1) _ _) hD
              refine lv_aload_n hx hb dX12_talk_122 rfl (lv_at hl 0 rfl) ?_
              refine va_get (D := D) (ci := 12) (v := .ref (G.2.1 216)) (C := RX12) (T := TX12) (N := 59) hx hb hts inU_X12 hown hK hP _ (mg_200 G Z Y (sI (sI (sI σ0 200 0 (0 : Int32)) 214 (((σ0.1 200 36) : Int32).toNatClampNeg) x1) 215 (((σ0.1 200 36) : Int32).toNatClampNeg) x2)) rfl 34 (by decide) (hts _ wd_1282) (fun _ h9 => h9) rfl dX12_talk_123 ?_
              refine lv_aload_n hx hb dX12_talk_126 rfl (lv_at hl 0 rfl) ?_
              refine va_get (D := D) (ci := 12) (v := .int (σ0.1 200 36)) (C := RX12) (T := TX12) (N := 59) hx hb hts inU_X12 hown hK hP _ (mg_200 G Z Y (sI (sI (sI σ0 200 0 (0 : Int32)) 214 (((σ0.1 200 36) : Int32).toNatClampNeg) x1) 215 (((σ0.1 200 36) : Int32).toNatClampNeg) x2)) rfl 36 (by decide) (hts _ wd_1284) (fun _ h9 => h9) rfl dX12_talk_127 ?_
              refine lv_iload_n hx hb dX12_talk_130 rfl (lv_at hl 3 rfl) ?_
              obtain ⟨c16, h⟩ := f_n h
              refine va_iast hx hb hK hP hD hS _ 0 (mg_216 G Z Y (sI (sI (sI σ0 200 0 (0 : Int32)) 214 (((σ0.1 200 36) : Int32).toNatClampNeg) x1) 215 (((σ0.1 200 36) : Int32).toNatClampNeg) x2)) rfl c16 dX12_talk_131 (fun H locs hP hD hS => ?_)
              have hP := wrP (mp_216 G Z Y (sI (sI (sI σ0 200 0 (0 : Int32)) 214 (((σ0.1 200 36) : Int32).toNatClampNeg) x1) 215 (((σ0.1 200 36) : Int32).toNatClampNeg) x2) _ _) hP
              have hD := wrD (mp_216 G Z Y (sI (sI (sI σ0 200 0 (0 : Int32)) 214 (((σ0.1 200 36) : Int32).toNatClampNeg) x1) 215 (((σ0.1 200 36) : Int32).toNatClampNeg) x2) _ _) hD
              refine lv_aload_n hx hb dX12_talk_132 rfl (lv_at hl 0 rfl) ?_
              refine va_get (D := D) (ci := 12) (v := .ref (G.2.1 217)) (C := RX12) (T := TX12) (N := 59) hx hb hts inU_X12 hown hK hP _ (mg_200 G Z Y (sI (sI (sI (sI σ0 200 0 (0 : Int32)) 214 (((σ0.1 200 36) : Int32).toNatClampNeg) x1) 215 (((σ0.1 200 36) : Int32).toNatClampNeg) x2) 216 (((σ0.1 200 36) : Int32).toNatClampNeg) x3)) rfl 35 (by decide) (hts _ wd_1283) (fun _ h9 => h9) rfl dX12_talk_133 ?_
              refine lv_aload_n hx hb dX12_talk_136 rfl (lv_at hl 0 rfl) ?_
              refine va_get (D := D) (ci := 12) (v := .int (σ0.1 200 36)) (C := RX12) (T := TX12) (N := 59) hx hb hts inU_X12 hown hK hP _ (mg_200 G Z Y (sI (sI (sI (sI σ0 200 0 (0 : Int32)) 214 (((σ0.1 200 36) : Int32).toNatClampNeg) x1) 215 (((σ0.1 200 36) : Int32).toNatClampNeg) x2) 216 (((σ0.1 200 36) : Int32).toNatClampNeg) x3)) rfl 36 (by decide) (hts _ wd_1284) (fun _ h9 => h9) rfl dX12_talk_137 ?_
              refine lv_iload hx hb dX12_talk_140 (lv_at hl 4 rfl) ?_
              obtain ⟨c17, h⟩ := f_n h
              refine va_iast hx hb hK hP hD hS _ 0 (mg_217 G Z Y (sI (sI (sI (sI σ0 200 0 (0 : Int32)) 214 (((σ0.1 200 36) : Int32).toNatClampNeg) x1) 215 (((σ0.1 200 36) : Int32).toNatClampNeg) x2) 216 (((σ0.1 200 36) : Int32).toNatClampNeg) x3)) rfl c17 dX12_talk_142 (fun H locs hP hD hS => ?_)
              have hP := wrP (mp_217 G Z Y (sI (sI (sI (sI σ0 200 0 (0 : Int32)) 214 (((σ0.1 200 36) : Int32).toNatClampNeg) x1) 215 (((σ0.1 200 36) : Int32).toNatClampNeg) x2) 216 (((σ0.1 200 36) : Int32).toNatClampNeg) x3) _ _) hP
              have hD := wrD (mp_217 G Z Y (sI (sI (sI (sI σ0 200 0 (0 : Int32)) 214 (((σ0.1 200 36) : Int32).toNatClampNeg) x1) 215 (((σ0.1 200 36) : Int32).toNatClampNeg) x2) 216 (((σ0.1 200 36) : Int32).toNatClampNeg) x3) _ _) hD
              refine lv_aload_n hx hb dX12_talk_143 rfl (lv_at hl 0 rfl) ?_
              refine lv_dup hx hb dX12_talk_144 rfl ?_
              refine va_get (D := D) (ci := 12) (v := .int (σ0.1 200 36)) (C := RX12) (T := TX12) (N := 59) hx hb hts inU_X12 hown hK hP _ (mg_200 G Z Y (sI (sI (sI (sI (sI σ0 200 0 (0 : Int32)) 214 (((σ0.1 200 36) : Int32).toNatClampNeg) x1) 215 (((σ0.1 200 36) : Int32).toNatClampNeg) x2) 216 (((σ0.1 200 36) : Int32).toNatClampNeg) x3) 217 (((σ0.1 200 36) : Int32).toNatClampNeg) x4)) rfl 36 (by decide) (hts _ wd_1284) (fun _ h9 => h9) rfl dX12_talk_145 ?_
              refine lv_iconst (v := 1) hx hb dX12_talk_148 (by decide) ?_
              refine lv_iadd hx hb dX12_talk_149 ?_
              refine va_put (D := D) (ci := 12) (v := .int ((σ0.1 200 36) + (1 : Int32))) (ty := .int) (C := RX12) (T := TX12) (N := 59) hx hb hts inU_X12 tyX12 tyX12_ok nmX12 hown hK hP hD hS _ (mg_200 G Z Y (sI (sI (sI (sI (sI σ0 200 0 (0 : Int32)) 214 (((σ0.1 200 36) : Int32).toNatClampNeg) x1) 215 (((σ0.1 200 36) : Int32).toNatClampNeg) x2) 216 (((σ0.1 200 36) : Int32).toNatClampNeg) x3) 217 (((σ0.1 200 36) : Int32).toNatClampNeg) x4)) rfl 36 (by decide) (hts _ wd_1284) (fun _ h9 => h9) rfl (by decide +kernel) rfl rfl (Nat.le_of_ble_eq_true rfl) dX12_talk_150 (fun H locs hP hD hS => ?_)
              have hP := wrP (mp_200_36 G Z Y (sI (sI (sI (sI (sI σ0 200 0 (0 : Int32)) 214 (((σ0.1 200 36) : Int32).toNatClampNeg) x1) 215 (((σ0.1 200 36) : Int32).toNatClampNeg) x2) 216 (((σ0.1 200 36) : Int32).toNatClampNeg) x3) 217 (((σ0.1 200 36) : Int32).toNatClampNeg) x4) ((σ0.1 200 36) + (1 : Int32))) hP
              have hD := wrD (mp_200_36 G Z Y (sI (sI (sI (sI (sI σ0 200 0 (0 : Int32)) 214 (((σ0.1 200 36) : Int32).toNatClampNeg) x1) 215 (((σ0.1 200 36) : Int32).toNatClampNeg) x2) 216 (((σ0.1 200 36) : Int32).toNatClampNeg) x3) 217 (((σ0.1 200 36) : Int32).toNatClampNeg) x4) ((σ0.1 200 36) + (1 : Int32))) hD
              refine lv_aload_n hx hb dX12_talk_153 rfl (lv_at hl 0 rfl) ?_
              refine va_get (D := D) (ci := 12) (v := .int ((σ0.1 200 36) + (1 : Int32))) (C := RX12) (T := TX12) (N := 59) hx hb hts inU_X12 hown hK hP _ (mg_200 G Z Y (sI (sI (sI (sI (sI (sI σ0 200 0 (0 : Int32)) 214 (((σ0.1 200 36) : Int32).toNatClampNeg) x1) 215 (((σ0.1 200 36) : Int32).toNatClampNeg) x2) 216 (((σ0.1 200 36) : Int32).toNatClampNeg) x3) 217 (((σ0.1 200 36) : Int32).toNatClampNeg) x4) 200 36 ((σ0.1 200 36) + (1 : Int32)))) rfl 36 (by decide) (hts _ wd_1284) (fun _ h9 => h9) rfl dX12_talk_154 ?_
              refine lv_iconst (v := 1) hx hb dX12_talk_157 (by decide) ?_
              refine lv_isub hx hb dX12_talk_158 ?_
              obtain rfl := Option.some.inj h
              exact W.iret (v := (((σ0.1 200 36) + (1 : Int32)) - (1 : Int32))) hx hb hr (q_end hK hP hD hS) hS.2.2 dX12_talk_159
          · skip
            have h := f_t c9 h
            refine lv_iconst (v := (-1)) hx hb dX12_talk_62 (by decide) ?_
            obtain rfl := Option.some.inj h
            exact W.iret (v := (-1 : Int32)) hx hb hr (q_end hK hP hD hS) hS.2.2 dX12_talk_63
abbrev rm_X12_trueAt : Room := { frames := 11, cells := 0, slots := 0, locals := 291 }
set_option maxRecDepth 100000 in
set_option maxHeartbeats 8000000 in
theorem W_X12_trueAt_L11 {p : Program} {e : Env} {s : State} {m : MethodId} {args : Array Value} {below : List Frame} {meth : Method} {c : Code} {A : Nat → Prop} (l : Launch) (D : va_G) (G : hG) (Z : hZ) (Y : va_W) (σ0 : hSt) (F : Nat) (x1 : Int32) (x2 : Int32) (x3 : Int32) (y1 : Int32) (y2 : Int32) (y3 : Int32) (y4 : Int32) (res : (Int64 × hSt)) (C0 : Cx p s m args meth c cX12_trueAt (some .long) RX12 6 D G A) (hA : ∀ q : Nat, s.heap.size ≤ q → A q) (k37 : hSt → Option (Int64 × hSt)) (hk37 : ∀ (σ1 : hSt), k37 σ1 = some res → ∀ (H : Heap) (locs : List Loc) (ls : Array Slot), va_P D vwCl (mW G Z Y σ1) H → va_D A (mW G Z Y σ1) → va_S A s.heap H locs → lv_has ls 6 [(0, .ref (G.2.1 200)), (1, .int y1), (2, .int y2), (3, .int y3), (4, .int y4)] → W p l e rm_X12_trueAt s m args below meth c H locs 0 0 (MQ below (Qg (some (.long res.1)) D (tysG G) (mW G Z Y res.2) A) args s 0 0 A) (F0 m 37 ls [])) : ∀ (n : Nat) (σ1 : hSt) (z5 : Int32), f_X12_trueAt_L11 y1 y2 y3 y4 k37 n σ1 z5 = some res → ∀ (H : Heap) (locs : List Loc) (ls : Array Slot), va_P D vwCl (mW G Z Y σ1) H → va_D A (mW G Z Y σ1) → va_S A s.heap H locs → lv_has ls 6 [(0, .ref (G.2.1 200)), (1, .int y1), (2, .int y2), (3, .int y3), (4, .int y4), (5, .int z5)] → W p l e rm_X12_trueAt s m args below meth c H locs 0 0 (MQ below (Qg (some (.long res.1)) D (tysG G) (mW G Z Y res.2) A) args s 0 0 A) (F0 m 11 ls []) := by
  obtain ⟨hx, hb, hr, hml, hown, hts, hlocks, hK, hE⟩ := id C0
  intro n
  induction n with
  | zero =>
    intro σ1 z5 h
    cases h
  | succ n ih =>
    intro σ1 z5 h H locs ls hP hD hS hl
    rw [f_X12_trueAt_L11] at h
    refine lv_iload hx hb dX12_trueAt_11 (lv_at hl 5 rfl) ?_
    refine lv_iload_n hx hb dX12_trueAt_13 rfl (lv_at hl 2 rfl) ?_
    refine lv_icmp_ge (tgt := 37) hx hb dX12_trueAt_14 (by decide) (fun c2 => ?_) (fun c2 => ?_)
    · skip
      have h := f_t c2 h
      exact hk37 σ1 h _ _ _ hP hD hS (lv_sub hl [0, 1, 2, 3, 4] rfl)
    · skip
      have h := f_f c2 h
      refine lv_aload_n hx hb dX12_trueAt_17 rfl (lv_at hl 0 rfl) ?_
      refine va_get (D := D) (ci := 12) (v := .ref (G.2.1 208)) (C := RX12) (T := TX12) (N := 59) hx hb hts inU_X12 hown hK hP _ (mg_200 G Z Y σ1) rfl 18 (by decide) (hts _ wd_1266) (fun _ h9 => h9) rfl dX12_trueAt_18 ?_
      refine lv_iload hx hb dX12_trueAt_21 (lv_at hl 5 rfl) ?_
      refine lv_aload_n hx hb dX12_trueAt_23 rfl (lv_at hl 0 rfl) ?_
      refine va_get (D := D) (ci := 12) (v := .ref (G.2.1 218)) (C := RX12) (T := TX12) (N := 59) hx hb hts inU_X12 hown hK hP _ (mg_200 G Z Y σ1) rfl 37 (by decide) (hts _ wd_1285) (fun _ h9 => h9) rfl dX12_trueAt_24 ?_
      refine lv_iload hx hb dX12_trueAt_27 (lv_at hl 5 rfl) ?_
      obtain ⟨c3, h⟩ := f_n h
      refine va_laldE (v := (σ1.2.1 218 ((z5 : Int32).toNatClampNeg))) hx hb hK hP _ 1 (mg_218 G Z Y σ1) rfl c3 dX12_trueAt_29 rfl ?_
      obtain ⟨c4, h⟩ := f_n h
      refine va_last hx hb hK hP hD hS _ 1 (mg_208 G Z Y σ1) rfl c4 dX12_trueAt_30 (fun H locs hP hD hS => ?_)
      have hP := wrP (mp_208 G Z Y σ1 _ _) hP
      have hD := wrD (mp_208 G Z Y σ1 _ _) hD
      refine lv_iinc (v := (z5 + 1)) (lv' := [(5, .int (z5 + 1)), (0, .ref (G.2.1 200)), (1, .int y1), (2, .int y2), (3, .int y3), (4, .int y4)]) hx hb dX12_trueAt_31 hl (k := 5) rfl rfl (by decide) rfl (fun ls hl => ?_)
      refine lv_goto (tgt := 11) hx hb dX12_trueAt_34 (by decide) ?_
      exact ih (sJ σ1 208 ((z5 : Int32).toNatClampNeg) (σ1.2.1 218 ((z5 : Int32).toNatClampNeg))) (z5 + 1) h _ _ _ hP hD hS (lv_sub hl [1, 2, 3, 4, 5, 0] rfl)
set_option maxRecDepth 100000 in
set_option maxHeartbeats 8000000 in
theorem c_X12_trueAt (l : Launch) (D : va_G) (G : hG) (Z : hZ) (Y : va_W) (σ0 : hSt) (F : Nat) (x1 : Int32) (x2 : Int32) (x3 : Int32) (res : (Int64 × hSt)) (h : f_X12_trueAt F Z σ0 x1 x2 x3 = some res) : CT l yX12_trueAt cX12_trueAt 6 (some .long) rm_X12_trueAt D G 0 0 [.ref (G.2.1 200), .int x1, .int x2, .int x3] (mW G Z Y σ0) (mW G Z Y res.2) (some (.long res.1)) := by
  unfold f_X12_trueAt at h
  refine CT.mk (cc := cX12_trueAt) (maxL := 6) (ret := (some .long)) (own := RX12) (plainFor_of_name (by decide)) rfl (Nat.le_of_ble_eq_true rfl) ?_
  intro p e s m args below meth c A ls C0 hnm hA hP hD hl
  obtain ⟨hx, hb, hr, hml, hown, hts, hlocks, hK, hE⟩ := id C0
  have hS : va_S A s.heap s.heap [] := va_S.rf
  have hl : lv_has ls 6 [(0, .ref (G.2.1 200)), (1, .int x1), (2, .int x2), (3, .int x3)] := hl
  refine lv_aload_n hx hb dX12_trueAt_0 rfl (lv_at hl 0 rfl) ?_
  refine va_get (D := D) (ci := 12) (v := .ref (G.2.1 215)) (C := RX12) (T := TX12) (N := 59) hx hb hts inU_X12 hown hK hP _ (mg_200 G Z Y σ0) rfl 33 (by decide) (hts _ wd_1281) (fun _ h9 => h9) rfl dX12_trueAt_1 ?_
  refine lv_iload_n hx hb dX12_trueAt_4 rfl (lv_at hl 1 rfl) ?_
  obtain ⟨c1, h⟩ := f_n h
  refine va_ialdE (v := (σ0.1 215 ((x1 : Int32).toNatClampNeg))) hx hb hK hP _ 0 (mg_215 G Z Y σ0) rfl c1 dX12_trueAt_5 rfl ?_
  refine lv_istore (lv' := [(4, .int (σ0.1 215 ((x1 : Int32).toNatClampNeg))), (0, .ref (G.2.1 200)), (1, .int x1), (2, .int x2), (3, .int x3)]) hx hb dX12_trueAt_6 hl (by decide) rfl (fun ls hl => ?_)
  refine lv_iconst (v := 0) hx hb dX12_trueAt_8 (by decide) ?_
  refine lv_istore (lv' := [(5, .int (0 : Int32)), (4, .int (σ0.1 215 ((x1 : Int32).toNatClampNeg))), (0, .ref (G.2.1 200)), (1, .int x1), (2, .int x2), (3, .int x3)]) hx hb dX12_trueAt_9 hl (by decide) rfl (fun ls hl => ?_)
  refine W_X12_trueAt_L11 l D G Z Y σ0 F x1 x2 x3 x1 x2 x3 (σ0.1 215 ((x1 : Int32).toNatClampNeg)) res C0 hA _ ?_ F σ0 (0 : Int32) h _ _ _ hP hD hS (lv_sub hl [2, 3, 4, 5, 1, 0] rfl)
  · intro σ1 h H locs ls hP hD hS hl
    refine lv_aload_n hx hb dX12_trueAt_37 rfl (lv_at hl 0 rfl) ?_
    refine va_get (D := D) (ci := 12) (v := .ref (G.2.1 208)) (C := RX12) (T := TX12) (N := 59) hx hb hts inU_X12 hown hK hP _ (mg_200 G Z Y σ1) rfl 18 (by decide) (hts _ wd_1266) (fun _ h9 => h9) rfl dX12_trueAt_38 ?_
    refine lv_iload_n hx hb dX12_trueAt_41 rfl (lv_at hl 2 rfl) ?_
    refine lv_iload_n hx hb dX12_trueAt_42 rfl (lv_at hl 3 rfl) ?_
    refine lv_iload hx hb dX12_trueAt_43 (lv_at hl 4 rfl) ?_
    obtain ⟨c5, h⟩ := f_n h
    refine lv_irem hx hb dX12_trueAt_45 c5 ?_
    refine lv_i2l (v := ((x3 - x3 / (σ0.1 215 ((x1 : Int32).toNatClampNeg)) * (σ0.1 215 ((x1 : Int32).toNatClampNeg))) : Int32).toInt64) hx hb dX12_trueAt_46 rfl ?_
    obtain ⟨c6, h⟩ := f_n h
    refine va_last hx hb hK hP hD hS _ 1 (mg_208 G Z Y σ1) rfl c6 dX12_trueAt_47 (fun H locs hP hD hS => ?_)
    have hP := wrP (mp_208 G Z Y σ1 _ _) hP
    have hD := wrD (mp_208 G Z Y σ1 _ _) hD
    refine lv_aload_n hx hb dX12_trueAt_48 rfl (lv_at hl 0 rfl) ?_
    refine lv_aload_n hx hb dX12_trueAt_49 rfl (lv_at hl 0 rfl) ?_
    refine va_get (D := D) (ci := 12) (v := .ref (G.2.1 214)) (C := RX12) (T := TX12) (N := 59) hx hb hts inU_X12 hown hK hP _ (mg_200 G Z Y (sJ σ1 208 ((x2 : Int32).toNatClampNeg) (((x3 - x3 / (σ0.1 215 ((x1 : Int32).toNatClampNeg)) * (σ0.1 215 ((x1 : Int32).toNatClampNeg))) : Int32).toInt64))) rfl 32 (by decide) (hts _ wd_1280) (fun _ h9 => h9) rfl dX12_trueAt_50 ?_
    refine lv_iload_n hx hb dX12_trueAt_53 rfl (lv_at hl 1 rfl) ?_
    obtain ⟨c7, h⟩ := f_n h
    refine va_ialdE (v := (σ1.1 214 ((x1 : Int32).toNatClampNeg))) hx hb hK hP _ 0 (mg_214 G Z Y (sJ σ1 208 ((x2 : Int32).toNatClampNeg) (((x3 - x3 / (σ0.1 215 ((x1 : Int32).toNatClampNeg)) * (σ0.1 215 ((x1 : Int32).toNatClampNeg))) : Int32).toInt64))) rfl c7 dX12_trueAt_54 rfl ?_
    refine lv_iload_n hx hb dX12_trueAt_55 rfl (lv_at hl 2 rfl) ?_
    refine lv_iconst (v := 1) hx hb dX12_trueAt_56 (by decide) ?_
    refine lv_iadd hx hb dX12_trueAt_57 ?_
    refine lv_iload hx hb dX12_trueAt_58 (lv_at hl 4 rfl) ?_
    refine lv_i2l (v := ((σ0.1 215 ((x1 : Int32).toNatClampNeg)) : Int32).toInt64) hx hb dX12_trueAt_60 rfl ?_
    obtain ⟨q8, hq8, h⟩ := f_b h
    refine cl_V (w := (mW G Z Y (sJ σ1 208 ((x2 : Int32).toNatClampNeg) (((x3 - x3 / (σ0.1 215 ((x1 : Int32).toNatClampNeg)) * (σ0.1 215 ((x1 : Int32).toNatClampNeg))) : Int32).toInt64)))) (w' := (mW G Z Y q8.2)) (rv := some (.long q8.1)) (bytes := cX12_sumFrom) (maxL := 7) (ret := (some .long)) (C := RX12) (As := [.int (σ1.1 214 ((x1 : Int32).toNatClampNeg)), .int (x2 + (1 : Int32)), .long ((σ0.1 215 ((x1 : Int32).toNatClampNeg)) : Int32).toInt64]) (rest := []) (stk := [.long q8.1]) ⟨hx, hb, hml, hown, hts⟩ hK hE hA hP hD hS (c_X12_sumFrom l D G Z Y (sJ σ1 208 ((x2 : Int32).toNatClampNeg) (((x3 - x3 / (σ0.1 215 ((x1 : Int32).toNatClampNeg)) * (σ0.1 215 ((x1 : Int32).toNatClampNeg))) : Int32).toInt64)) F (σ1.1 214 ((x1 : Int32).toNatClampNeg)) (x2 + (1 : Int32)) (((σ0.1 215 ((x1 : Int32).toNatClampNeg)) : Int32).toInt64) q8 hq8) (cwV 3 hts (gwV wd_1506 wd_1508 wp_59 wd_11 wd_1509) rfl rfl rfl hd_X12_sumFrom ⟨Nat.le_of_ble_eq_true rfl, Nat.le_of_ble_eq_true rfl⟩) (mg_200 G Z Y (sJ σ1 208 ((x2 : Int32).toNatClampNeg) (((x3 - x3 / (σ0.1 215 ((x1 : Int32).toNatClampNeg)) * (σ0.1 215 ((x1 : Int32).toNatClampNeg))) : Int32).toInt64))) rfl rfl rfl hl.1 rfl (Nat.le_of_ble_eq_true rfl) dX12_trueAt_61 ⟨Nat.zero_le _, Nat.zero_le _⟩ rfl (fun H locs hP hD hS => ?_)
    obtain rfl := Option.some.inj h
    exact W.lret (v := q8.1) hx hb hr (q_end hK hP hD hS) hS.2.2 dX12_trueAt_64
abbrev rm_X12_sumsUp : Room := { frames := 0, cells := 0, slots := 0, locals := 0 }
set_option maxRecDepth 100000 in
set_option maxHeartbeats 8000000 in
theorem c_X12_sumsUp (l : Launch) (D : va_G) (G : hG) (Z : hZ) (Y : va_W) (σ0 : hSt) (x1 : Int32) (x2 : Int32) (x3 : Int64) (res : Int32) (h : f_X12_sumsUp Z σ0 x1 x2 x3 = some res) : CT l yX12_sumsUp cX12_sumsUp 6 (some .boolean) rm_X12_sumsUp D G 0 0 [.ref (G.2.1 200), .int x1, .int x2, .long x3] (mW G Z Y σ0) (mW G Z Y σ0) (some (.int res)) := by
  unfold f_X12_sumsUp at h
  refine CT.mk (cc := cX12_sumsUp) (maxL := 6) (ret := (some .boolean)) (own := RX12) (plainFor_of_name (by decide)) rfl (Nat.le_of_ble_eq_true rfl) ?_
  intro p e s m args below meth c A ls C0 hnm hA hP hD hl
  obtain ⟨hx, hb, hr, hml, hown, hts, hlocks, hK, hE⟩ := id C0
  have hS : va_S A s.heap s.heap [] := va_S.rf
  have hl : lv_has ls 6 [(0, .ref (G.2.1 200)), (1, .int x1), (2, .int x2), (3, .long x3)] := hl
  refine lv_aload_n hx hb dX12_sumsUp_0 rfl (lv_at hl 0 rfl) ?_
  refine va_get (D := D) (ci := 12) (v := .ref (G.2.1 205)) (C := RX12) (T := TX12) (N := 59) hx hb hts inU_X12 hown hK hP _ (mg_200 G Z Y σ0) rfl 13 (by decide) (hts _ wd_1261) (fun _ h9 => h9) rfl dX12_sumsUp_1 ?_
  refine lv_bipush (v := 6) hx hb dX12_sumsUp_4 (by decide) ?_
  refine lv_aload_n hx hb dX12_sumsUp_6 rfl (lv_at hl 0 rfl) ?_
  refine va_get (D := D) (ci := 12) (v := .ref (G.2.1 214)) (C := RX12) (T := TX12) (N := 59) hx hb hts inU_X12 hown hK hP _ (mg_200 G Z Y σ0) rfl 32 (by decide) (hts _ wd_1280) (fun _ h9 => h9) rfl dX12_sumsUp_7 ?_
  refine lv_iload_n hx hb dX12_sumsUp_10 rfl (lv_at hl 1 rfl) ?_
  obtain ⟨c1, h⟩ := f_n h
  refine va_ialdE (v := (σ0.1 214 ((x1 : Int32).toNatClampNeg))) hx hb hK hP _ 0 (mg_214 G Z Y σ0) rfl c1 dX12_sumsUp_11 rfl ?_
  refine lv_imul hx hb dX12_sumsUp_12 ?_
  refine lv_iload_n hx hb dX12_sumsUp_13 rfl (lv_at hl 2 rfl) ?_
  refine lv_iadd hx hb dX12_sumsUp_14 ?_
  obtain ⟨c2, h⟩ := f_n h
  refine va_ialdE (v := (σ0.1 205 (((((6 : Int32) * (σ0.1 214 ((x1 : Int32).toNatClampNeg))) + x2) : Int32).toNatClampNeg))) hx hb hK hP _ 0 (mg_205 G Z Y σ0) rfl c2 dX12_sumsUp_15 rfl ?_
  refine lv_istore (lv' := [(5, .int (σ0.1 205 (((((6 : Int32) * (σ0.1 214 ((x1 : Int32).toNatClampNeg))) + x2) : Int32).toNatClampNeg))), (0, .ref (G.2.1 200)), (1, .int x1), (2, .int x2), (3, .long x3)]) hx hb dX12_sumsUp_16 hl (by decide) rfl (fun ls hl => ?_)
  refine lv_aload_n hx hb dX12_sumsUp_18 rfl (lv_at hl 1 rfl) ?_
  refine va_get (D := D) (ci := 12) (v := .ref (G.2.1 219)) (C := RX12) (T := TX12) (N := 59) hx hb hts inU_X12 hown hK hP _ (mg_200 G Z Y σ0) rfl 38 (by decide) (hts _ wd_1286) (fun _ h9 => h9) rfl dX12_sumsUp_19 ?_
  refine lv_sipush (v := 201) hx hb dX12_sumsUp_22 (by decide) ?_
  refine lv_iload_n hx hb dX12_sumsUp_25 rfl (lv_at hl 3 rfl) ?_
  refine lv_imul hx hb dX12_sumsUp_26 ?_
  obtain ⟨c3, h⟩ := f_n h
  refine va_laldE (v := (σ0.2.1 219 ((((201 : Int32) * x2) : Int32).toNatClampNeg))) hx hb hK hP _ 1 (mg_219 G Z Y σ0) rfl c3 dX12_sumsUp_27 rfl ?_
  refine lv_aload_n hx hb dX12_sumsUp_28 rfl (lv_at hl 1 rfl) ?_
  refine va_get (D := D) (ci := 12) (v := .ref (G.2.1 219)) (C := RX12) (T := TX12) (N := 59) hx hb hts inU_X12 hown hK hP _ (mg_200 G Z Y σ0) rfl 38 (by decide) (hts _ wd_1286) (fun _ h9 => h9) rfl dX12_sumsUp_29 ?_
  refine lv_sipush (v := 201) hx hb dX12_sumsUp_32 (by decide) ?_
  refine lv_iload_n hx hb dX12_sumsUp_35 rfl (lv_at hl 3 rfl) ?_
  refine lv_imul hx hb dX12_sumsUp_36 ?_
  refine lv_iload hx hb dX12_sumsUp_37 (lv_at hl 0 rfl) ?_
  refine lv_if_ne (tgt := 46) hx hb dX12_sumsUp_39 (by decide) (fun c4 => ?_) (fun c4 => ?_)
  · skip
    have h := f_f c4 h
    refine lv_iconst (v := 1) hx hb dX12_sumsUp_46 (by decide) ?_
    refine lv_iadd hx hb dX12_sumsUp_47 ?_
    obtain ⟨c5, h⟩ := f_n h
    refine va_laldE (v := (σ0.2.1 219 (((((201 : Int32) * x2) + (1 : Int32)) : Int32).toNatClampNeg))) hx hb hK hP _ 1 (mg_219 G Z Y σ0) rfl c5 dX12_sumsUp_48 rfl ?_
    refine lv_ladd hx hb dX12_sumsUp_49 ?_
    refine lv_aload_n hx hb dX12_sumsUp_50 rfl (lv_at hl 1 rfl) ?_
    refine va_get (D := D) (ci := 12) (v := .ref (G.2.1 215)) (C := RX12) (T := TX12) (N := 59) hx hb hts inU_X12 hown hK hP _ (mg_200 G Z Y σ0) rfl 33 (by decide) (hts _ wd_1281) (fun _ h9 => h9) rfl dX12_sumsUp_51 ?_
    refine lv_iload_n hx hb dX12_sumsUp_54 rfl (lv_at hl 2 rfl) ?_
    obtain ⟨c6, h⟩ := f_n h
    refine va_ialdE (v := (σ0.1 215 ((x1 : Int32).toNatClampNeg))) hx hb hK hP _ 0 (mg_215 G Z Y σ0) rfl c6 dX12_sumsUp_55 rfl ?_
    refine lv_i2l (v := ((σ0.1 215 ((x1 : Int32).toNatClampNeg)) : Int32).toInt64) hx hb dX12_sumsUp_56 rfl ?_
    obtain ⟨c7, h⟩ := f_n h
    refine lv_lrem hx hb dX12_sumsUp_57 c7 ?_
    refine lv_lload_n hx hb dX12_sumsUp_58 rfl (lv_at hl 4 rfl) ?_
    refine W.lcmp hx hb dX12_sumsUp_59 ?_
    refine lv_if_ne (tgt := 67) hx hb dX12_sumsUp_60 (by decide) (fun c8 => ?_) (fun c8 => ?_)
    · skip
      have c8 := mt (lg_cmp_eq _ _).mpr c8
      have h := f_f c8 h
      refine lv_iconst (v := 0) hx hb dX12_sumsUp_67 (by decide) ?_
      obtain rfl := Option.some.inj h
      exact W.zret (v := (0 : Int32)) hx hb hr rfl (q_end hK hP hD hS) hS.2.2 dX12_sumsUp_68
    · skip
      have c8 := (lg_cmp_eq _ _).mp c8
      have h := f_t c8 h
      refine lv_iconst (v := 1) hx hb dX12_sumsUp_63 (by decide) ?_
      refine lv_goto (tgt := 68) hx hb dX12_sumsUp_64 (by decide) ?_
      obtain rfl := Option.some.inj h
      exact W.zret (v := (1 : Int32)) hx hb hr rfl (q_end hK hP hD hS) hS.2.2 dX12_sumsUp_68
  · skip
    have h := f_t c4 h
    refine lv_iconst (v := 0) hx hb dX12_sumsUp_42 (by decide) ?_
    refine lv_goto (tgt := 47) hx hb dX12_sumsUp_43 (by decide) ?_
    refine lv_iadd hx hb dX12_sumsUp_47 ?_
    obtain ⟨c9, h⟩ := f_n h
    refine va_laldE (v := (σ0.2.1 219 (((((201 : Int32) * x2) + (0 : Int32)) : Int32).toNatClampNeg))) hx hb hK hP _ 1 (mg_219 G Z Y σ0) rfl c9 dX12_sumsUp_48 rfl ?_
    refine lv_ladd hx hb dX12_sumsUp_49 ?_
    refine lv_aload_n hx hb dX12_sumsUp_50 rfl (lv_at hl 1 rfl) ?_
    refine va_get (D := D) (ci := 12) (v := .ref (G.2.1 215)) (C := RX12) (T := TX12) (N := 59) hx hb hts inU_X12 hown hK hP _ (mg_200 G Z Y σ0) rfl 33 (by decide) (hts _ wd_1281) (fun _ h9 => h9) rfl dX12_sumsUp_51 ?_
    refine lv_iload_n hx hb dX12_sumsUp_54 rfl (lv_at hl 2 rfl) ?_
    obtain ⟨c10, h⟩ := f_n h
    refine va_ialdE (v := (σ0.1 215 ((x1 : Int32).toNatClampNeg))) hx hb hK hP _ 0 (mg_215 G Z Y σ0) rfl c10 dX12_sumsUp_55 rfl ?_
    refine lv_i2l (v := ((σ0.1 215 ((x1 : Int32).toNatClampNeg)) : Int32).toInt64) hx hb dX12_sumsUp_56 rfl ?_
    obtain ⟨c11, h⟩ := f_n h
    refine lv_lrem hx hb dX12_sumsUp_57 c11 ?_
    refine lv_lload_n hx hb dX12_sumsUp_58 rfl (lv_at hl 4 rfl) ?_
    refine W.lcmp hx hb dX12_sumsUp_59 ?_
    refine lv_if_ne (tgt := 67) hx hb dX12_sumsUp_60 (by decide) (fun c12 => ?_) (fun c12 => ?_)
    · skip
      have c12 := mt (lg_cmp_eq _ _).mpr c12
      have h := f_f c12 h
      refine lv_iconst (v := 0) hx hb dX12_sumsUp_67 (by decide) ?_
      obtain rfl := Option.some.inj h
      exact W.zret (v := (0 : Int32)) hx hb hr rfl (q_end hK hP hD hS) hS.2.2 dX12_sumsUp_68
    · skip
      have c12 := (lg_cmp_eq _ _).mp c12
      have h := f_t c12 h
      refine lv_iconst (v := 1) hx hb dX12_sumsUp_63 (by decide) ?_
      refine lv_goto (tgt := 68) hx hb dX12_sumsUp_64 (by decide) ?_
      obtain rfl := Option.some.inj h
      exact W.zret (v := (1 : Int32)) hx hb hr rfl (q_end hK hP hD hS) hS.2.2 dX12_sumsUp_68
abbrev rm_X12_nextClaim : Room := { frames := 2, cells := 0, slots := 0, locals := 64 }
set_option maxRecDepth 100000 in
set_option maxHeartbeats 8000000 in
theorem W_X12_nextClaim_L20 {p : Program} {e : Env} {s : State} {m : MethodId} {args : Array Value} {below : List Frame} {meth : Method} {c : Code} {A : Nat → Prop} (l : Launch) (D : va_G) (G : hG) (Z : hZ) (Y : va_W) (σ0 : hSt) (F : Nat) (x1 : Int32) (x2 : Int32) (y1 : Int32) (y2 : Int32) (y3 : Int32) (res : (Int64 × hSt)) (C0 : Cx p s m args meth c cX12_nextClaim (some .long) RX12 5 D G A) (hA : ∀ q : Nat, s.heap.size ≤ q → A q) (k52 : hSt → Option (Int64 × hSt)) (hk52 : ∀ (σ1 : hSt), k52 σ1 = some res → ∀ (H : Heap) (locs : List Loc) (ls : Array Slot), va_P D vwCl (mW G Z Y σ1) H → va_D A (mW G Z Y σ1) → va_S A s.heap H locs → lv_has ls 5 [(0, .ref (G.2.1 200)), (1, .int y1), (2, .int y2), (3, .int y3)] → W p l e rm_X12_nextClaim s m args below meth c H locs 0 0 (MQ below (Qg (some (.long res.1)) D (tysG G) (mW G Z Y res.2) A) args s 0 0 A) (F0 m 52 ls [])) : ∀ (n : Nat) (σ1 : hSt) (z4 : Int32), f_X12_nextClaim_L20 y1 y2 y3 k52 n σ1 z4 = some res → ∀ (H : Heap) (locs : List Loc) (ls : Array Slot), va_P D vwCl (mW G Z Y σ1) H → va_D A (mW G Z Y σ1) → va_S A s.heap H locs → lv_has ls 5 [(0, .ref (G.2.1 200)), (1, .int y1), (2, .int y2), (3, .int y3), (4, .int z4)] → W p l e rm_X12_nextClaim s m args below meth c H locs 0 0 (MQ below (Qg (some (.long res.1)) D (tysG G) (mW G Z Y res.2) A) args s 0 0 A) (F0 m 20 ls []) := by
  obtain ⟨hx, hb, hr, hml, hown, hts, hlocks, hK, hE⟩ := id C0
  intro n
  induction n with
  | zero =>
    intro σ1 z4 h
    cases h
  | succ n ih =>
    intro σ1 z4 h H locs ls hP hD hS hl
    rw [f_X12_nextClaim_L20] at h
    refine lv_iload hx hb dX12_nextClaim_20 (lv_at hl 4 rfl) ?_
    refine lv_iload_n hx hb dX12_nextClaim_22 rfl (lv_at hl 3 rfl) ?_
    refine lv_icmp_gt (tgt := 52) hx hb dX12_nextClaim_23 (by decide) (fun c3 => ?_) (fun c3 => ?_)
    · skip
      have h := f_t c3 h
      exact hk52 σ1 h _ _ _ hP hD hS (lv_sub hl [0, 1, 2, 3] rfl)
    · skip
      have h := f_f c3 h
      refine lv_aload_n hx hb dX12_nextClaim_26 rfl (lv_at hl 0 rfl) ?_
      refine va_get (D := D) (ci := 12) (v := .ref (G.2.1 210)) (C := RX12) (T := TX12) (N := 59) hx hb hts inU_X12 hown hK hP _ (mg_200 G Z Y σ1) rfl 21 (by decide) (hts _ wd_1269) (fun _ h9 => h9) rfl dX12_nextClaim_27 ?_
      refine lv_iload hx hb dX12_nextClaim_30 (lv_at hl 4 rfl) ?_
      refine lv_aload_n hx hb dX12_nextClaim_32 rfl (lv_at hl 0 rfl) ?_
      refine va_get (D := D) (ci := 12) (v := .ref (G.2.1 219)) (C := RX12) (T := TX12) (N := 59) hx hb hts inU_X12 hown hK hP _ (mg_200 G Z Y σ1) rfl 38 (by decide) (hts _ wd_1286) (fun _ h9 => h9) rfl dX12_nextClaim_33 ?_
      refine lv_sipush (v := 201) hx hb dX12_nextClaim_36 (by decide) ?_
      refine lv_iload_n hx hb dX12_nextClaim_39 rfl (lv_at hl 2 rfl) ?_
      refine lv_imul hx hb dX12_nextClaim_40 ?_
      refine lv_iload hx hb dX12_nextClaim_41 (lv_at hl 4 rfl) ?_
      refine lv_iadd hx hb dX12_nextClaim_43 ?_
      obtain ⟨c4, h⟩ := f_n h
      refine va_laldE (v := (σ1.2.1 219 (((((201 : Int32) * y2) + z4) : Int32).toNatClampNeg))) hx hb hK hP _ 1 (mg_219 G Z Y σ1) rfl c4 dX12_nextClaim_44 rfl ?_
      obtain ⟨c5, h⟩ := f_n h
      refine va_last hx hb hK hP hD hS _ 1 (mg_210 G Z Y σ1) rfl c5 dX12_nextClaim_45 (fun H locs hP hD hS => ?_)
      have hP := wrP (mp_210 G Z Y σ1 _ _) hP
      have hD := wrD (mp_210 G Z Y σ1 _ _) hD
      refine lv_iinc (v := (z4 + 1)) (lv' := [(4, .int (z4 + 1)), (0, .ref (G.2.1 200)), (1, .int y1), (2, .int y2), (3, .int y3)]) hx hb dX12_nextClaim_46 hl (k := 4) rfl rfl (by decide) rfl (fun ls hl => ?_)
      refine lv_goto (tgt := 20) hx hb dX12_nextClaim_49 (by decide) ?_
      exact ih (sJ σ1 210 ((z4 : Int32).toNatClampNeg) (σ1.2.1 219 (((((201 : Int32) * y2) + z4) : Int32).toNatClampNeg))) (z4 + 1) h _ _ _ hP hD hS (lv_sub hl [1, 2, 3, 4, 0] rfl)
set_option maxRecDepth 100000 in
set_option maxHeartbeats 8000000 in
theorem c_X12_nextClaim (l : Launch) (D : va_G) (G : hG) (Z : hZ) (Y : va_W) (σ0 : hSt) (F : Nat) (x1 : Int32) (x2 : Int32) (res : (Int64 × hSt)) (h : f_X12_nextClaim F Z σ0 x1 x2 = some res) : CT l yX12_nextClaim cX12_nextClaim 5 (some .long) rm_X12_nextClaim D G 0 0 [.ref (G.2.1 200), .int x1, .int x2] (mW G Z Y σ0) (mW G Z Y res.2) (some (.long res.1)) := by
  unfold f_X12_nextClaim at h
  refine CT.mk (cc := cX12_nextClaim) (maxL := 5) (ret := (some .long)) (own := RX12) (plainFor_of_name (by decide)) rfl (Nat.le_of_ble_eq_true rfl) ?_
  intro p e s m args below meth c A ls C0 hnm hA hP hD hl
  obtain ⟨hx, hb, hr, hml, hown, hts, hlocks, hK, hE⟩ := id C0
  have hS : va_S A s.heap s.heap [] := va_S.rf
  have hl : lv_has ls 5 [(0, .ref (G.2.1 200)), (1, .int x1), (2, .int x2)] := hl
  refine lv_aload_n hx hb dX12_nextClaim_0 rfl (lv_at hl 0 rfl) ?_
  refine va_get (D := D) (ci := 12) (v := .ref (G.2.1 205)) (C := RX12) (T := TX12) (N := 59) hx hb hts inU_X12 hown hK hP _ (mg_200 G Z Y σ0) rfl 13 (by decide) (hts _ wd_1261) (fun _ h9 => h9) rfl dX12_nextClaim_1 ?_
  refine lv_bipush (v := 6) hx hb dX12_nextClaim_4 (by decide) ?_
  refine lv_aload_n hx hb dX12_nextClaim_6 rfl (lv_at hl 0 rfl) ?_
  refine va_get (D := D) (ci := 12) (v := .ref (G.2.1 214)) (C := RX12) (T := TX12) (N := 59) hx hb hts inU_X12 hown hK hP _ (mg_200 G Z Y σ0) rfl 32 (by decide) (hts _ wd_1280) (fun _ h9 => h9) rfl dX12_nextClaim_7 ?_
  refine lv_iload_n hx hb dX12_nextClaim_10 rfl (lv_at hl 1 rfl) ?_
  obtain ⟨c1, h⟩ := f_n h
  refine va_ialdE (v := (σ0.1 214 ((x1 : Int32).toNatClampNeg))) hx hb hK hP _ 0 (mg_214 G Z Y σ0) rfl c1 dX12_nextClaim_11 rfl ?_
  refine lv_imul hx hb dX12_nextClaim_12 ?_
  refine lv_iload_n hx hb dX12_nextClaim_13 rfl (lv_at hl 2 rfl) ?_
  refine lv_iadd hx hb dX12_nextClaim_14 ?_
  obtain ⟨c2, h⟩ := f_n h
  refine va_ialdE (v := (σ0.1 205 (((((6 : Int32) * (σ0.1 214 ((x1 : Int32).toNatClampNeg))) + x2) : Int32).toNatClampNeg))) hx hb hK hP _ 0 (mg_205 G Z Y σ0) rfl c2 dX12_nextClaim_15 rfl ?_
  refine lv_istore_n (lv' := [(3, .int (σ0.1 205 (((((6 : Int32) * (σ0.1 214 ((x1 : Int32).toNatClampNeg))) + x2) : Int32).toNatClampNeg))), (0, .ref (G.2.1 200)), (1, .int x1), (2, .int x2)]) hx hb dX12_nextClaim_16 rfl hl (by decide) rfl (fun ls hl => ?_)
  refine lv_iconst (v := 0) hx hb dX12_nextClaim_17 (by decide) ?_
  refine lv_istore (lv' := [(4, .int (0 : Int32)), (3, .int (σ0.1 205 (((((6 : Int32) * (σ0.1 214 ((x1 : Int32).toNatClampNeg))) + x2) : Int32).toNatClampNeg))), (0, .ref (G.2.1 200)), (1, .int x1), (2, .int x2)]) hx hb dX12_nextClaim_18 hl (by decide) rfl (fun ls hl => ?_)
  refine W_X12_nextClaim_L20 l D G Z Y σ0 F x1 x2 x1 x2 (σ0.1 205 (((((6 : Int32) * (σ0.1 214 ((x1 : Int32).toNatClampNeg))) + x2) : Int32).toNatClampNeg)) res C0 hA _ ?_ F σ0 (0 : Int32) h _ _ _ hP hD hS (lv_sub hl [2, 3, 4, 1, 0] rfl)
  · intro σ1 h H locs ls hP hD hS hl
    refine lv_aload_n hx hb dX12_nextClaim_52 rfl (lv_at hl 0 rfl) ?_
    refine lv_iload_n hx hb dX12_nextClaim_53 rfl (lv_at hl 3 rfl) ?_
    refine lv_iconst (v := 1) hx hb dX12_nextClaim_54 (by decide) ?_
    refine lv_iadd hx hb dX12_nextClaim_55 ?_
    refine lv_aload_n hx hb dX12_nextClaim_56 rfl (lv_at hl 0 rfl) ?_
    refine va_get (D := D) (ci := 12) (v := .ref (G.2.1 218)) (C := RX12) (T := TX12) (N := 59) hx hb hts inU_X12 hown hK hP _ (mg_200 G Z Y σ1) rfl 37 (by decide) (hts _ wd_1285) (fun _ h9 => h9) rfl dX12_nextClaim_57 ?_
    refine lv_iload_n hx hb dX12_nextClaim_60 rfl (lv_at hl 2 rfl) ?_
    obtain ⟨c6, h⟩ := f_n h
    refine va_laldE (v := (σ1.2.1 218 ((x2 : Int32).toNatClampNeg))) hx hb hK hP _ 1 (mg_218 G Z Y σ1) rfl c6 dX12_nextClaim_61 rfl ?_
    refine lv_aload_n hx hb dX12_nextClaim_62 rfl (lv_at hl 0 rfl) ?_
    refine va_get (D := D) (ci := 12) (v := .ref (G.2.1 215)) (C := RX12) (T := TX12) (N := 59) hx hb hts inU_X12 hown hK hP _ (mg_200 G Z Y σ1) rfl 33 (by decide) (hts _ wd_1281) (fun _ h9 => h9) rfl dX12_nextClaim_63 ?_
    refine lv_iload_n hx hb dX12_nextClaim_66 rfl (lv_at hl 1 rfl) ?_
    obtain ⟨c7, h⟩ := f_n h
    refine va_ialdE (v := (σ1.1 215 ((x1 : Int32).toNatClampNeg))) hx hb hK hP _ 0 (mg_215 G Z Y σ1) rfl c7 dX12_nextClaim_67 rfl ?_
    refine lv_i2l (v := ((σ1.1 215 ((x1 : Int32).toNatClampNeg)) : Int32).toInt64) hx hb dX12_nextClaim_68 rfl ?_
    obtain ⟨q8, hq8, h⟩ := f_b h
    refine cl_V (w := (mW G Z Y σ1)) (w' := (mW G Z Y σ1)) (rv := some (.long q8)) (bytes := cX12_curveAt) (maxL := 14) (ret := (some .long)) (C := RX12) (As := [.int ((σ0.1 205 (((((6 : Int32) * (σ0.1 214 ((x1 : Int32).toNatClampNeg))) + x2) : Int32).toNatClampNeg)) + (1 : Int32)), .long (σ1.2.1 218 ((x2 : Int32).toNatClampNeg)), .long ((σ1.1 215 ((x1 : Int32).toNatClampNeg)) : Int32).toInt64]) (rest := []) (stk := [.long q8]) ⟨hx, hb, hml, hown, hts⟩ hK hE hA hP hD hS (c_X12_curveAt l D G Z Y σ1 F ((σ0.1 205 (((((6 : Int32) * (σ0.1 214 ((x1 : Int32).toNatClampNeg))) + x2) : Int32).toNatClampNeg)) + (1 : Int32)) (σ1.2.1 218 ((x2 : Int32).toNatClampNeg)) (((σ1.1 215 ((x1 : Int32).toNatClampNeg)) : Int32).toInt64) q8 hq8) (cwV 3 hts (gwV wd_1562 wd_1564 wp_63 wd_11 wd_1565) rfl rfl rfl hd_X12_curveAt ⟨Nat.le_of_ble_eq_true rfl, Nat.le_of_ble_eq_true rfl⟩) (mg_200 G Z Y σ1) rfl rfl rfl hl.1 rfl (Nat.le_of_ble_eq_true rfl) dX12_nextClaim_69 ⟨Nat.zero_le _, Nat.zero_le _⟩ rfl (fun H locs hP hD hS => ?_)
    obtain rfl := Option.some.inj h
    exact W.lret (v := q8) hx hb hr (q_end hK hP hD hS) hS.2.2 dX12_nextClaim_72
abbrev rm_X12_mix : Room := { frames := 0, cells := 0, slots := 0, locals := 0 }
set_option maxRecDepth 100000 in
set_option maxHeartbeats 8000000 in
theorem c_X12_mix (l : Launch) (D : va_G) (G : hG) (Z : hZ) (Y : va_W) (σ0 : hSt) (x1 : Int64) (res : (Unit × hSt)) (h : f_X12_mix Z σ0 x1 = some res) : CT l yX12_mix cX12_mix 3 none rm_X12_mix D G 0 0 [.ref (G.2.1 200), .long x1] (mW G Z Y σ0) (mW G Z Y res.2) none := by
  unfold f_X12_mix at h
  refine CT.mk (cc := cX12_mix) (maxL := 3) (ret := none) (own := RX12) (plainFor_of_name (by decide)) rfl (Nat.le_of_ble_eq_true rfl) ?_
  intro p e s m args below meth c A ls C0 hnm hA hP hD hl
  obtain ⟨hx, hb, hr, hml, hown, hts, hlocks, hK, hE⟩ := id C0
  have hS : va_S A s.heap s.heap [] := va_S.rf
  have hl : lv_has ls 3 [(0, .ref (G.2.1 200)), (1, .long x1)] := hl
  refine lv_aload_n hx hb dX12_mix_0 rfl (lv_at hl 0 rfl) ?_
  refine lv_aload_n hx hb dX12_mix_1 rfl (lv_at hl 0 rfl) ?_
  refine va_get (D := D) (ci := 12) (v := .long (σ0.2.1 200 45)) (C := RX12) (T := TX12) (N := 59) hx hb hts inU_X12 hown hK hP _ (mg_200 G Z Y σ0) rfl 45 (by decide) (hts _ wd_1292) (fun _ h9 => h9) rfl dX12_mix_2 ?_
  refine lv_ldc2 (v := 6364136223846793005) hx hb hown (hts _ wd_1677) dX12_mix_5 ?_
  refine lv_lmul hx hb dX12_mix_8 ?_
  refine lv_ldc2 (v := 1442695040888963407) hx hb hown (hts _ wd_1678) dX12_mix_9 ?_
  refine lv_ladd hx hb dX12_mix_12 ?_
  refine lv_lload_n hx hb dX12_mix_13 rfl (lv_at hl 1 rfl) ?_
  refine lv_ladd hx hb dX12_mix_14 ?_
  refine va_put (D := D) (ci := 12) (v := .long ((((σ0.2.1 200 45) * (6364136223846793005 : Int64)) + (1442695040888963407 : Int64)) + x1)) (ty := .long) (C := RX12) (T := TX12) (N := 59) hx hb hts inU_X12 tyX12 tyX12_ok nmX12 hown hK hP hD hS _ (mg_200 G Z Y σ0) rfl 45 (by decide) (hts _ wd_1292) (fun _ h9 => h9) rfl (by decide +kernel) rfl rfl (Nat.le_of_ble_eq_true rfl) dX12_mix_15 (fun H locs hP hD hS => ?_)
  have hP := wrP (mp_200_45 G Z Y σ0 ((((σ0.2.1 200 45) * (6364136223846793005 : Int64)) + (1442695040888963407 : Int64)) + x1)) hP
  have hD := wrD (mp_200_45 G Z Y σ0 ((((σ0.2.1 200 45) * (6364136223846793005 : Int64)) + (1442695040888963407 : Int64)) + x1)) hD
  obtain rfl := Option.some.inj h
  exact W.vret hx hb hr (q_end hK hP hD hS) hS.2.2 dX12_mix_18
abbrev rm_X12_keep : Room := { frames := 1, cells := 0, slots := 0, locals := 30 }
set_option maxRecDepth 100000 in
set_option maxHeartbeats 8000000 in
theorem W_X12_keep_L83 {p : Program} {e : Env} {s : State} {m : MethodId} {args : Array Value} {below : List Frame} {meth : Method} {c : Code} {A : Nat → Prop} (l : Launch) (D : va_G) (G : hG) (Z : hZ) (Y : va_W) (σ0 : hSt) (F : Nat) (x1 : Int32) (x2 : Int32) (y2 : Int32) (res : (Int32 × hSt)) (C0 : Cx p s m args meth c cX12_keep (some .int) RX12 5 D G A) (hA : ∀ q : Nat, s.heap.size ≤ q → A q) (k113 : hSt → Option (Int32 × hSt)) (hk113 : ∀ (σ1 : hSt), k113 σ1 = some res → ∀ (H : Heap) (locs : List Loc) (ls : Array Slot), va_P D vwCl (mW G Z Y σ1) H → va_D A (mW G Z Y σ1) → va_S A s.heap H locs → lv_has ls 5 [(0, .ref (G.2.1 200)), (2, .int y2)] → W p l e rm_X12_keep s m args below meth c H locs 0 0 (MQ below (Qg (some (.int res.1)) D (tysG G) (mW G Z Y res.2) A) args s 0 0 A) (F0 m 113 ls [])) : ∀ (n : Nat) (σ1 : hSt) (z4 : Int32), f_X12_keep_L83 y2 k113 n σ1 z4 = some res → ∀ (H : Heap) (locs : List Loc) (ls : Array Slot), va_P D vwCl (mW G Z Y σ1) H → va_D A (mW G Z Y σ1) → va_S A s.heap H locs → lv_has ls 5 [(0, .ref (G.2.1 200)), (2, .int y2), (4, .int z4)] → W p l e rm_X12_keep s m args below meth c H locs 0 0 (MQ below (Qg (some (.int res.1)) D (tysG G) (mW G Z Y res.2) A) args s 0 0 A) (F0 m 83 ls []) := by
  obtain ⟨hx, hb, hr, hml, hown, hts, hlocks, hK, hE⟩ := id C0
  intro n
  induction n with
  | zero =>
    intro σ1 z4 h
    cases h
  | succ n ih =>
    intro σ1 z4 h H locs ls hP hD hS hl
    rw [f_X12_keep_L83] at h
    refine lv_iload hx hb dX12_keep_83 (lv_at hl 2 rfl) ?_
    refine lv_aload_n hx hb dX12_keep_85 rfl (lv_at hl 0 rfl) ?_
    refine va_get (D := D) (ci := 12) (v := .ref (G.2.1 220)) (C := RX12) (T := TX12) (N := 59) hx hb hts inU_X12 hown hK hP _ (mg_200 G Z Y σ1) rfl 46 (by decide) (hts _ wd_1293) (fun _ h9 => h9) rfl dX12_keep_86 ?_
    refine va_alen (ty := .long) (v := (1206 : Int32)) hx hb hK hP _ 1 (mg_220 G Z Y σ1) rfl rfl dX12_keep_89 ?_
    refine lv_icmp_ge (tgt := 113) hx hb dX12_keep_90 (by decide) (fun c4 => ?_) (fun c4 => ?_)
    · skip
      have h := f_t c4 h
      exact hk113 σ1 h _ _ _ hP hD hS (lv_sub hl [0, 1] rfl)
    · skip
      have h := f_f c4 h
      refine lv_aload_n hx hb dX12_keep_93 rfl (lv_at hl 0 rfl) ?_
      refine va_get (D := D) (ci := 12) (v := .ref (G.2.1 220)) (C := RX12) (T := TX12) (N := 59) hx hb hts inU_X12 hown hK hP _ (mg_200 G Z Y σ1) rfl 46 (by decide) (hts _ wd_1293) (fun _ h9 => h9) rfl dX12_keep_94 ?_
      refine lv_iload hx hb dX12_keep_97 (lv_at hl 2 rfl) ?_
      refine lv_aload_n hx hb dX12_keep_99 rfl (lv_at hl 0 rfl) ?_
      refine va_get (D := D) (ci := 12) (v := .ref (G.2.1 219)) (C := RX12) (T := TX12) (N := 59) hx hb hts inU_X12 hown hK hP _ (mg_200 G Z Y σ1) rfl 38 (by decide) (hts _ wd_1286) (fun _ h9 => h9) rfl dX12_keep_100 ?_
      refine lv_iload hx hb dX12_keep_103 (lv_at hl 2 rfl) ?_
      obtain ⟨c5, h⟩ := f_n h
      refine va_laldE (v := (σ1.2.1 219 ((z4 : Int32).toNatClampNeg))) hx hb hK hP _ 1 (mg_219 G Z Y σ1) rfl c5 dX12_keep_105 rfl ?_
      obtain ⟨c6, h⟩ := f_n h
      refine va_last hx hb hK hP hD hS _ 1 (mg_220 G Z Y σ1) rfl c6 dX12_keep_106 (fun H locs hP hD hS => ?_)
      have hP := wrP (mp_220 G Z Y σ1 _ _) hP
      have hD := wrD (mp_220 G Z Y σ1 _ _) hD
      refine lv_iinc (v := (z4 + 1)) (lv' := [(4, .int (z4 + 1)), (0, .ref (G.2.1 200)), (2, .int y2)]) hx hb dX12_keep_107 hl (k := 2) rfl rfl (by decide) rfl (fun ls hl => ?_)
      refine lv_goto (tgt := 83) hx hb dX12_keep_110 (by decide) ?_
      exact ih (sJ σ1 220 ((z4 : Int32).toNatClampNeg) (σ1.2.1 219 ((z4 : Int32).toNatClampNeg))) (z4 + 1) h _ _ _ hP hD hS (lv_sub hl [1, 2, 0] rfl)
set_option maxRecDepth 100000 in
set_option maxHeartbeats 8000000 in
theorem W_X12_keep_L116 {p : Program} {e : Env} {s : State} {m : MethodId} {args : Array Value} {below : List Frame} {meth : Method} {c : Code} {A : Nat → Prop} (l : Launch) (D : va_G) (G : hG) (Z : hZ) (Y : va_W) (σ0 : hSt) (F : Nat) (x1 : Int32) (x2 : Int32) (y2 : Int32) (res : (Int32 × hSt)) (C0 : Cx p s m args meth c cX12_keep (some .int) RX12 5 D G A) (hA : ∀ q : Nat, s.heap.size ≤ q → A q) : ∀ (n : Nat) (σ1 : hSt) (z4 : Int32), f_X12_keep_L116 y2 n σ1 z4 = some res → ∀ (H : Heap) (locs : List Loc) (ls : Array Slot), va_P D vwCl (mW G Z Y σ1) H → va_D A (mW G Z Y σ1) → va_S A s.heap H locs → lv_has ls 5 [(0, .ref (G.2.1 200)), (2, .int y2), (4, .int z4)] → W p l e rm_X12_keep s m args below meth c H locs 0 0 (MQ below (Qg (some (.int res.1)) D (tysG G) (mW G Z Y res.2) A) args s 0 0 A) (F0 m 116 ls []) := by
  obtain ⟨hx, hb, hr, hml, hown, hts, hlocks, hK, hE⟩ := id C0
  intro n
  induction n with
  | zero =>
    intro σ1 z4 h
    cases h
  | succ n ih =>
    intro σ1 z4 h H locs ls hP hD hS hl
    rw [f_X12_keep_L116] at h
    refine lv_iload hx hb dX12_keep_116 (lv_at hl 2 rfl) ?_
    refine lv_bipush (v := 6) hx hb dX12_keep_118 (by decide) ?_
    refine lv_icmp_ge (tgt := 143) hx hb dX12_keep_120 (by decide) (fun c7 => ?_) (fun c7 => ?_)
    · skip
      have h := f_t c7 h
      refine lv_iload_n hx hb dX12_keep_143 rfl (lv_at hl 1 rfl) ?_
      refine lv_if_eq (tgt := 151) hx hb dX12_keep_144 (by decide) (fun c8 => ?_) (fun c8 => ?_)
      · skip
        have h := f_t c8 h
        refine lv_iconst (v := 0) hx hb dX12_keep_151 (by decide) ?_
        obtain rfl := Option.some.inj h
        exact W.iret (v := (0 : Int32)) hx hb hr (q_end hK hP hD hS) hS.2.2 dX12_keep_152
      · skip
        have h := f_f c8 h
        refine lv_iconst (v := 1) hx hb dX12_keep_147 (by decide) ?_
        refine lv_goto (tgt := 152) hx hb dX12_keep_148 (by decide) ?_
        obtain rfl := Option.some.inj h
        exact W.iret (v := (1 : Int32)) hx hb hr (q_end hK hP hD hS) hS.2.2 dX12_keep_152
    · skip
      have h := f_f c7 h
      refine lv_aload_n hx hb dX12_keep_123 rfl (lv_at hl 0 rfl) ?_
      refine va_get (D := D) (ci := 12) (v := .ref (G.2.1 221)) (C := RX12) (T := TX12) (N := 59) hx hb hts inU_X12 hown hK hP _ (mg_200 G Z Y σ1) rfl 47 (by decide) (hts _ wd_1294) (fun _ h9 => h9) rfl dX12_keep_124 ?_
      refine lv_iload hx hb dX12_keep_127 (lv_at hl 2 rfl) ?_
      refine lv_aload_n hx hb dX12_keep_129 rfl (lv_at hl 0 rfl) ?_
      refine va_get (D := D) (ci := 12) (v := .ref (G.2.1 218)) (C := RX12) (T := TX12) (N := 59) hx hb hts inU_X12 hown hK hP _ (mg_200 G Z Y σ1) rfl 37 (by decide) (hts _ wd_1285) (fun _ h9 => h9) rfl dX12_keep_130 ?_
      refine lv_iload hx hb dX12_keep_133 (lv_at hl 2 rfl) ?_
      obtain ⟨c9, h⟩ := f_n h
      refine va_laldE (v := (σ1.2.1 218 ((z4 : Int32).toNatClampNeg))) hx hb hK hP _ 1 (mg_218 G Z Y σ1) rfl c9 dX12_keep_135 rfl ?_
      obtain ⟨c10, h⟩ := f_n h
      refine va_last hx hb hK hP hD hS _ 1 (mg_221 G Z Y σ1) rfl c10 dX12_keep_136 (fun H locs hP hD hS => ?_)
      have hP := wrP (mp_221 G Z Y σ1 _ _) hP
      have hD := wrD (mp_221 G Z Y σ1 _ _) hD
      refine lv_iinc (v := (z4 + 1)) (lv' := [(4, .int (z4 + 1)), (0, .ref (G.2.1 200)), (2, .int y2)]) hx hb dX12_keep_137 hl (k := 2) rfl rfl (by decide) rfl (fun ls hl => ?_)
      refine lv_goto (tgt := 116) hx hb dX12_keep_140 (by decide) ?_
      exact ih (sJ σ1 221 ((z4 : Int32).toNatClampNeg) (σ1.2.1 218 ((z4 : Int32).toNatClampNeg))) (z4 + 1) h _ _ _ hP hD hS (lv_sub hl [1, 2, 0] rfl)
set_option maxRecDepth 100000 in
set_option maxHeartbeats 8000000 in
theorem c_X12_keep (l : Launch) (D : va_G) (G : hG) (Z : hZ) (Y : va_W) (σ0 : hSt) (F : Nat) (x1 : Int32) (x2 : Int32) (res : (Int32 × hSt)) (h : f_X12_keep F Z σ0 x1 x2 = some res) : CT l yX12_keep cX12_keep 5 (some .int) rm_X12_keep D G 0 0 [.ref (G.2.1 200), .int x1, .int x2] (mW G Z Y σ0) (mW G Z Y res.2) (some (.int res.1)) := by
  unfold f_X12_keep at h
  refine CT.mk (cc := cX12_keep) (maxL := 5) (ret := (some .int)) (own := RX12) (plainFor_of_name (by decide)) rfl (Nat.le_of_ble_eq_true rfl) ?_
  intro p e s m args below meth c A ls C0 hnm hA hP hD hl
  obtain ⟨hx, hb, hr, hml, hown, hts, hlocks, hK, hE⟩ := id C0
  have hS : va_S A s.heap s.heap [] := va_S.rf
  have hl : lv_has ls 5 [(0, .ref (G.2.1 200)), (1, .int x1), (2, .int x2)] := hl
  refine lv_aload_n hx hb dX12_keep_0 rfl (lv_at hl 0 rfl) ?_
  refine lv_iconst (v := 1) hx hb dX12_keep_1 (by decide) ?_
  refine va_put (D := D) (ci := 12) (v := .int (1 : Int32)) (ty := .boolean) (C := RX12) (T := TX12) (N := 59) hx hb hts inU_X12 tyX12 tyX12_ok nmX12 hown hK hP hD hS _ (mg_200 G Z Y σ0) rfl 39 (by decide) (hts _ wd_1287) (fun _ h9 => h9) rfl (by decide +kernel) rfl rfl (Nat.le_of_ble_eq_true rfl) dX12_keep_2 (fun H locs hP hD hS => ?_)
  have hP := wrP (mp_200_39 G Z Y σ0 (1 : Int32)) hP
  have hD := wrD (mp_200_39 G Z Y σ0 (1 : Int32)) hD
  refine lv_aload_n hx hb dX12_keep_5 rfl (lv_at hl 0 rfl) ?_
  refine lv_iload_n hx hb dX12_keep_6 rfl (lv_at hl 1 rfl) ?_
  refine va_put (D := D) (ci := 12) (v := .int x1) (ty := .int) (C := RX12) (T := TX12) (N := 59) hx hb hts inU_X12 tyX12 tyX12_ok nmX12 hown hK hP hD hS _ (mg_200 G Z Y (sI σ0 200 39 (1 : Int32))) rfl 48 (by decide) (hts _ wd_1295) (fun _ h9 => h9) rfl (by decide +kernel) rfl rfl (Nat.le_of_ble_eq_true rfl) dX12_keep_7 (fun H locs hP hD hS => ?_)
  have hP := wrP (mp_200_48 G Z Y (sI σ0 200 39 (1 : Int32)) x1) hP
  have hD := wrD (mp_200_48 G Z Y (sI σ0 200 39 (1 : Int32)) x1) hD
  refine lv_aload_n hx hb dX12_keep_10 rfl (lv_at hl 0 rfl) ?_
  refine lv_aload_n hx hb dX12_keep_11 rfl (lv_at hl 0 rfl) ?_
  refine va_get (D := D) (ci := 12) (v := .int (σ0.1 200 41)) (C := RX12) (T := TX12) (N := 59) hx hb hts inU_X12 hown hK hP _ (mg_200 G Z Y (sI (sI σ0 200 39 (1 : Int32)) 200 48 x1)) rfl 41 (by decide) (hts _ wd_1288) (fun _ h9 => h9) rfl dX12_keep_12 ?_
  refine va_put (D := D) (ci := 12) (v := .int (σ0.1 200 41)) (ty := .int) (C := RX12) (T := TX12) (N := 59) hx hb hts inU_X12 tyX12 tyX12_ok nmX12 hown hK hP hD hS _ (mg_200 G Z Y (sI (sI σ0 200 39 (1 : Int32)) 200 48 x1)) rfl 49 (by decide) (hts _ wd_1296) (fun _ h9 => h9) rfl (by decide +kernel) rfl rfl (Nat.le_of_ble_eq_true rfl) dX12_keep_15 (fun H locs hP hD hS => ?_)
  have hP := wrP (mp_200_49 G Z Y (sI (sI σ0 200 39 (1 : Int32)) 200 48 x1) (σ0.1 200 41)) hP
  have hD := wrD (mp_200_49 G Z Y (sI (sI σ0 200 39 (1 : Int32)) 200 48 x1) (σ0.1 200 41)) hD
  refine lv_aload_n hx hb dX12_keep_18 rfl (lv_at hl 0 rfl) ?_
  refine lv_aload_n hx hb dX12_keep_19 rfl (lv_at hl 0 rfl) ?_
  refine va_get (D := D) (ci := 12) (v := .int (σ0.1 200 42)) (C := RX12) (T := TX12) (N := 59) hx hb hts inU_X12 hown hK hP _ (mg_200 G Z Y (sI (sI (sI σ0 200 39 (1 : Int32)) 200 48 x1) 200 49 (σ0.1 200 41))) rfl 42 (by decide) (hts _ wd_1289) (fun _ h9 => h9) rfl dX12_keep_20 ?_
  refine va_put (D := D) (ci := 12) (v := .int (σ0.1 200 42)) (ty := .int) (C := RX12) (T := TX12) (N := 59) hx hb hts inU_X12 tyX12 tyX12_ok nmX12 hown hK hP hD hS _ (mg_200 G Z Y (sI (sI (sI σ0 200 39 (1 : Int32)) 200 48 x1) 200 49 (σ0.1 200 41))) rfl 50 (by decide) (hts _ wd_1297) (fun _ h9 => h9) rfl (by decide +kernel) rfl rfl (Nat.le_of_ble_eq_true rfl) dX12_keep_23 (fun H locs hP hD hS => ?_)
  have hP := wrP (mp_200_50 G Z Y (sI (sI (sI σ0 200 39 (1 : Int32)) 200 48 x1) 200 49 (σ0.1 200 41)) (σ0.1 200 42)) hP
  have hD := wrD (mp_200_50 G Z Y (sI (sI (sI σ0 200 39 (1 : Int32)) 200 48 x1) 200 49 (σ0.1 200 41)) (σ0.1 200 42)) hD
  refine lv_aload_n hx hb dX12_keep_26 rfl (lv_at hl 0 rfl) ?_
  refine lv_aload_n hx hb dX12_keep_27 rfl (lv_at hl 0 rfl) ?_
  refine va_get (D := D) (ci := 12) (v := .long (σ0.2.1 200 43)) (C := RX12) (T := TX12) (N := 59) hx hb hts inU_X12 hown hK hP _ (mg_200 G Z Y (sI (sI (sI (sI σ0 200 39 (1 : Int32)) 200 48 x1) 200 49 (σ0.1 200 41)) 200 50 (σ0.1 200 42))) rfl 43 (by decide) (hts _ wd_1290) (fun _ h9 => h9) rfl dX12_keep_28 ?_
  refine va_put (D := D) (ci := 12) (v := .long (σ0.2.1 200 43)) (ty := .long) (C := RX12) (T := TX12) (N := 59) hx hb hts inU_X12 tyX12 tyX12_ok nmX12 hown hK hP hD hS _ (mg_200 G Z Y (sI (sI (sI (sI σ0 200 39 (1 : Int32)) 200 48 x1) 200 49 (σ0.1 200 41)) 200 50 (σ0.1 200 42))) rfl 52 (by decide) (hts _ wd_1299) (fun _ h9 => h9) rfl (by decide +kernel) rfl rfl (Nat.le_of_ble_eq_true rfl) dX12_keep_31 (fun H locs hP hD hS => ?_)
  have hP := wrP (mp_200_52 G Z Y (sI (sI (sI (sI σ0 200 39 (1 : Int32)) 200 48 x1) 200 49 (σ0.1 200 41)) 200 50 (σ0.1 200 42)) (σ0.2.1 200 43)) hP
  have hD := wrD (mp_200_52 G Z Y (sI (sI (sI (sI σ0 200 39 (1 : Int32)) 200 48 x1) 200 49 (σ0.1 200 41)) 200 50 (σ0.1 200 42)) (σ0.2.1 200 43)) hD
  refine lv_aload_n hx hb dX12_keep_34 rfl (lv_at hl 0 rfl) ?_
  refine lv_aload_n hx hb dX12_keep_35 rfl (lv_at hl 0 rfl) ?_
  refine va_get (D := D) (ci := 12) (v := .long (σ0.2.1 200 44)) (C := RX12) (T := TX12) (N := 59) hx hb hts inU_X12 hown hK hP _ (mg_200 G Z Y (sJ (sI (sI (sI (sI σ0 200 39 (1 : Int32)) 200 48 x1) 200 49 (σ0.1 200 41)) 200 50 (σ0.1 200 42)) 200 52 (σ0.2.1 200 43))) rfl 44 (by decide) (hts _ wd_1291) (fun _ h9 => h9) rfl dX12_keep_36 ?_
  refine va_put (D := D) (ci := 12) (v := .long (σ0.2.1 200 44)) (ty := .long) (C := RX12) (T := TX12) (N := 59) hx hb hts inU_X12 tyX12 tyX12_ok nmX12 hown hK hP hD hS _ (mg_200 G Z Y (sJ (sI (sI (sI (sI σ0 200 39 (1 : Int32)) 200 48 x1) 200 49 (σ0.1 200 41)) 200 50 (σ0.1 200 42)) 200 52 (σ0.2.1 200 43))) rfl 53 (by decide) (hts _ wd_1300) (fun _ h9 => h9) rfl (by decide +kernel) rfl rfl (Nat.le_of_ble_eq_true rfl) dX12_keep_39 (fun H locs hP hD hS => ?_)
  have hP := wrP (mp_200_53 G Z Y (sJ (sI (sI (sI (sI σ0 200 39 (1 : Int32)) 200 48 x1) 200 49 (σ0.1 200 41)) 200 50 (σ0.1 200 42)) 200 52 (σ0.2.1 200 43)) (σ0.2.1 200 44)) hP
  have hD := wrD (mp_200_53 G Z Y (sJ (sI (sI (sI (sI σ0 200 39 (1 : Int32)) 200 48 x1) 200 49 (σ0.1 200 41)) 200 50 (σ0.1 200 42)) 200 52 (σ0.2.1 200 43)) (σ0.2.1 200 44)) hD
  refine lv_aload_n hx hb dX12_keep_42 rfl (lv_at hl 0 rfl) ?_
  refine va_get (D := D) (ci := 12) (v := .ref (G.2.1 204)) (C := RX12) (T := TX12) (N := 59) hx hb hts inU_X12 hown hK hP _ (mg_200 G Z Y (sJ (sJ (sI (sI (sI (sI σ0 200 39 (1 : Int32)) 200 48 x1) 200 49 (σ0.1 200 41)) 200 50 (σ0.1 200 42)) 200 52 (σ0.2.1 200 43)) 200 53 (σ0.2.1 200 44))) rfl 12 (by decide) (hts _ wd_1260) (fun _ h9 => h9) rfl dX12_keep_43 ?_
  refine lv_aload_n hx hb dX12_keep_46 rfl (lv_at hl 0 rfl) ?_
  refine va_get (D := D) (ci := 12) (v := .ref (G.2.1 214)) (C := RX12) (T := TX12) (N := 59) hx hb hts inU_X12 hown hK hP _ (mg_200 G Z Y (sJ (sJ (sI (sI (sI (sI σ0 200 39 (1 : Int32)) 200 48 x1) 200 49 (σ0.1 200 41)) 200 50 (σ0.1 200 42)) 200 52 (σ0.2.1 200 43)) 200 53 (σ0.2.1 200 44))) rfl 32 (by decide) (hts _ wd_1280) (fun _ h9 => h9) rfl dX12_keep_47 ?_
  refine lv_iload_n hx hb dX12_keep_50 rfl (lv_at hl 1 rfl) ?_
  obtain ⟨c1, h⟩ := f_n h
  refine va_ialdE (v := (σ0.1 214 ((x1 : Int32).toNatClampNeg))) hx hb hK hP _ 0 (mg_214 G Z Y (sJ (sJ (sI (sI (sI (sI σ0 200 39 (1 : Int32)) 200 48 x1) 200 49 (σ0.1 200 41)) 200 50 (σ0.1 200 42)) 200 52 (σ0.2.1 200 43)) 200 53 (σ0.2.1 200 44))) rfl c1 dX12_keep_51 rfl ?_
  obtain ⟨c2, h⟩ := f_n h
  refine va_ialdE (v := (σ0.1 204 (((σ0.1 214 ((x1 : Int32).toNatClampNeg)) : Int32).toNatClampNeg))) hx hb hK hP _ 0 (mg_204 G Z Y (sJ (sJ (sI (sI (sI (sI σ0 200 39 (1 : Int32)) 200 48 x1) 200 49 (σ0.1 200 41)) 200 50 (σ0.1 200 42)) 200 52 (σ0.2.1 200 43)) 200 53 (σ0.2.1 200 44))) rfl c2 dX12_keep_52 rfl ?_
  refine lv_istore_n (lv' := [(3, .int (σ0.1 204 (((σ0.1 214 ((x1 : Int32).toNatClampNeg)) : Int32).toNatClampNeg))), (0, .ref (G.2.1 200)), (1, .int x1), (2, .int x2)]) hx hb dX12_keep_53 rfl hl (by decide) rfl (fun ls hl => ?_)
  refine lv_aload_n hx hb dX12_keep_54 rfl (lv_at hl 1 rfl) ?_
  refine lv_aload_n hx hb dX12_keep_55 rfl (lv_at hl 1 rfl) ?_
  refine va_get (D := D) (ci := 12) (v := .int (σ0.1 200 41)) (C := RX12) (T := TX12) (N := 59) hx hb hts inU_X12 hown hK hP _ (mg_200 G Z Y (sJ (sJ (sI (sI (sI (sI σ0 200 39 (1 : Int32)) 200 48 x1) 200 49 (σ0.1 200 41)) 200 50 (σ0.1 200 42)) 200 52 (σ0.2.1 200 43)) 200 53 (σ0.2.1 200 44))) rfl 41 (by decide) (hts _ wd_1288) (fun _ h9 => h9) rfl dX12_keep_56 ?_
  refine lv_iconst (v := (-1)) hx hb dX12_keep_59 (by decide) ?_
  refine lv_icmp_ne (tgt := 67) hx hb dX12_keep_60 (by decide) (fun c3 => ?_) (fun c3 => ?_)
  · skip
    have h := f_f c3 h
    refine lv_iload_n hx hb dX12_keep_67 rfl (lv_at hl 0 rfl) ?_
    refine lv_aload_n hx hb dX12_keep_68 rfl (lv_at hl 1 rfl) ?_
    refine va_get (D := D) (ci := 12) (v := .int (σ0.1 200 41)) (C := RX12) (T := TX12) (N := 59) hx hb hts inU_X12 hown hK hP _ (mg_200 G Z Y (sJ (sJ (sI (sI (sI (sI σ0 200 39 (1 : Int32)) 200 48 x1) 200 49 (σ0.1 200 41)) 200 50 (σ0.1 200 42)) 200 52 (σ0.2.1 200 43)) 200 53 (σ0.2.1 200 44))) rfl 41 (by decide) (hts _ wd_1288) (fun _ h9 => h9) rfl dX12_keep_69 ?_
    refine lv_iconst (v := 1) hx hb dX12_keep_72 (by decide) ?_
    refine lv_iadd hx hb dX12_keep_73 ?_
    refine va_mmin hx hb (hml.trans hl.1.symm) hown (hts _ wd_1719) (hts _ wd_400) (hts _ wd_12) (hts _ wd_401) (Nat.le_of_ble_eq_true rfl) (Nat.le_of_ble_eq_true rfl) (Nat.zero_le _) (Nat.zero_le _) dX12_keep_74 ?_
    refine va_put (D := D) (ci := 12) (v := .int (if ((σ0.1 200 41) + (1 : Int32)) < (σ0.1 204 (((σ0.1 214 ((x1 : Int32).toNatClampNeg)) : Int32).toNatClampNeg)) then ((σ0.1 200 41) + (1 : Int32)) else (σ0.1 204 (((σ0.1 214 ((x1 : Int32).toNatClampNeg)) : Int32).toNatClampNeg)))) (ty := .int) (C := RX12) (T := TX12) (N := 59) hx hb hts inU_X12 tyX12 tyX12_ok nmX12 hown hK hP hD hS _ (mg_200 G Z Y (sJ (sJ (sI (sI (sI (sI σ0 200 39 (1 : Int32)) 200 48 x1) 200 49 (σ0.1 200 41)) 200 50 (σ0.1 200 42)) 200 52 (σ0.2.1 200 43)) 200 53 (σ0.2.1 200 44))) rfl 51 (by decide) (hts _ wd_1298) (fun _ h9 => h9) rfl (by decide +kernel) rfl rfl (Nat.le_of_ble_eq_true rfl) dX12_keep_77 (fun H locs hP hD hS => ?_)
    have hP := wrP (mp_200_51 G Z Y (sJ (sJ (sI (sI (sI (sI σ0 200 39 (1 : Int32)) 200 48 x1) 200 49 (σ0.1 200 41)) 200 50 (σ0.1 200 42)) 200 52 (σ0.2.1 200 43)) 200 53 (σ0.2.1 200 44)) (if ((σ0.1 200 41) + (1 : Int32)) < (σ0.1 204 (((σ0.1 214 ((x1 : Int32).toNatClampNeg)) : Int32).toNatClampNeg)) then ((σ0.1 200 41) + (1 : Int32)) else (σ0.1 204 (((σ0.1 214 ((x1 : Int32).toNatClampNeg)) : Int32).toNatClampNeg)))) hP
    have hD := wrD (mp_200_51 G Z Y (sJ (sJ (sI (sI (sI (sI σ0 200 39 (1 : Int32)) 200 48 x1) 200 49 (σ0.1 200 41)) 200 50 (σ0.1 200 42)) 200 52 (σ0.2.1 200 43)) 200 53 (σ0.2.1 200 44)) (if ((σ0.1 200 41) + (1 : Int32)) < (σ0.1 204 (((σ0.1 214 ((x1 : Int32).toNatClampNeg)) : Int32).toNatClampNeg)) then ((σ0.1 200 41) + (1 : Int32)) else (σ0.1 204 (((σ0.1 214 ((x1 : Int32).toNatClampNeg)) : Int32).toNatClampNeg)))) hD
    refine lv_iconst (v := 0) hx hb dX12_keep_80 (by decide) ?_
    refine lv_istore (lv' := [(4, .int (0 : Int32)), (3, .int (σ0.1 204 (((σ0.1 214 ((x1 : Int32).toNatClampNeg)) : Int32).toNatClampNeg))), (0, .ref (G.2.1 200)), (1, .int x1), (2, .int x2)]) hx hb dX12_keep_81 hl (by decide) rfl (fun ls hl => ?_)
    refine W_X12_keep_L83 l D G Z Y σ0 F x1 x2 x2 res C0 hA _ ?_ F (sI (sJ (sJ (sI (sI (sI (sI σ0 200 39 (1 : Int32)) 200 48 x1) 200 49 (σ0.1 200 41)) 200 50 (σ0.1 200 42)) 200 52 (σ0.2.1 200 43)) 200 53 (σ0.2.1 200 44)) 200 51 (if ((σ0.1 200 41) + (1 : Int32)) < (σ0.1 204 (((σ0.1 214 ((x1 : Int32).toNatClampNeg)) : Int32).toNatClampNeg)) then ((σ0.1 200 41) + (1 : Int32)) else (σ0.1 204 (((σ0.1 214 ((x1 : Int32).toNatClampNeg)) : Int32).toNatClampNeg)))) (0 : Int32) h _ _ _ hP hD hS (lv_sub hl [2, 4, 0] rfl)
    · intro σ1 h H locs ls hP hD hS hl
      refine lv_iconst (v := 0) hx hb dX12_keep_113 (by decide) ?_
      refine lv_istore (lv' := [(4, .int (0 : Int32)), (0, .ref (G.2.1 200)), (2, .int x2)]) hx hb dX12_keep_114 hl (by decide) rfl (fun ls hl => ?_)
      refine W_X12_keep_L116 l D G Z Y σ0 F x1 x2 x2 res C0 hA F σ1 (0 : Int32) h _ _ _ hP hD hS (lv_sub hl [1, 2, 0] rfl)
  · skip
    have h := f_t c3 h
    refine lv_iload_n hx hb dX12_keep_63 rfl (lv_at hl 0 rfl) ?_
    refine lv_goto (tgt := 77) hx hb dX12_keep_64 (by decide) ?_
    refine va_put (D := D) (ci := 12) (v := .int (σ0.1 204 (((σ0.1 214 ((x1 : Int32).toNatClampNeg)) : Int32).toNatClampNeg))) (ty := .int) (C := RX12) (T := TX12) (N := 59) hx hb hts inU_X12 tyX12 tyX12_ok nmX12 hown hK hP hD hS _ (mg_200 G Z Y (sJ (sJ (sI (sI (sI (sI σ0 200 39 (1 : Int32)) 200 48 x1) 200 49 (σ0.1 200 41)) 200 50 (σ0.1 200 42)) 200 52 (σ0.2.1 200 43)) 200 53 (σ0.2.1 200 44))) rfl 51 (by decide) (hts _ wd_1298) (fun _ h9 => h9) rfl (by decide +kernel) rfl rfl (Nat.le_of_ble_eq_true rfl) dX12_keep_77 (fun H locs hP hD hS => ?_)
    have hP := wrP (mp_200_51 G Z Y (sJ (sJ (sI (sI (sI (sI σ0 200 39 (1 : Int32)) 200 48 x1) 200 49 (σ0.1 200 41)) 200 50 (σ0.1 200 42)) 200 52 (σ0.2.1 200 43)) 200 53 (σ0.2.1 200 44)) (σ0.1 204 (((σ0.1 214 ((x1 : Int32).toNatClampNeg)) : Int32).toNatClampNeg))) hP
    have hD := wrD (mp_200_51 G Z Y (sJ (sJ (sI (sI (sI (sI σ0 200 39 (1 : Int32)) 200 48 x1) 200 49 (σ0.1 200 41)) 200 50 (σ0.1 200 42)) 200 52 (σ0.2.1 200 43)) 200 53 (σ0.2.1 200 44)) (σ0.1 204 (((σ0.1 214 ((x1 : Int32).toNatClampNeg)) : Int32).toNatClampNeg))) hD
    refine lv_iconst (v := 0) hx hb dX12_keep_80 (by decide) ?_
    refine lv_istore (lv' := [(4, .int (0 : Int32)), (3, .int (σ0.1 204 (((σ0.1 214 ((x1 : Int32).toNatClampNeg)) : Int32).toNatClampNeg))), (0, .ref (G.2.1 200)), (1, .int x1), (2, .int x2)]) hx hb dX12_keep_81 hl (by decide) rfl (fun ls hl => ?_)
    refine W_X12_keep_L83 l D G Z Y σ0 F x1 x2 x2 res C0 hA _ ?_ F (sI (sJ (sJ (sI (sI (sI (sI σ0 200 39 (1 : Int32)) 200 48 x1) 200 49 (σ0.1 200 41)) 200 50 (σ0.1 200 42)) 200 52 (σ0.2.1 200 43)) 200 53 (σ0.2.1 200 44)) 200 51 (σ0.1 204 (((σ0.1 214 ((x1 : Int32).toNatClampNeg)) : Int32).toNatClampNeg))) (0 : Int32) h _ _ _ hP hD hS (lv_sub hl [2, 4, 0] rfl)
    · intro σ1 h H locs ls hP hD hS hl
      refine lv_iconst (v := 0) hx hb dX12_keep_113 (by decide) ?_
      refine lv_istore (lv' := [(4, .int (0 : Int32)), (0, .ref (G.2.1 200)), (2, .int x2)]) hx hb dX12_keep_114 hl (by decide) rfl (fun ls hl => ?_)
      refine W_X12_keep_L116 l D G Z Y σ0 F x1 x2 x2 res C0 hA F σ1 (0 : Int32) h _ _ _ hP hD hS (lv_sub hl [1, 2, 0] rfl)
abbrev rm_X12_isAsked : Room := { frames := 1, cells := 0, slots := 0, locals := 25 }
set_option maxRecDepth 100000 in
set_option maxHeartbeats 8000000 in
theorem c_X12_isAsked (l : Launch) (D : va_G) (G : hG) (Z : hZ) (Y : va_W) (σ0 : hSt) (x1 : Int32) (x2 : Int32) (res : (Int32 × hSt)) (h : f_X12_isAsked Z σ0 x1 x2 = some res) : CT l yX12_isAsked cX12_isAsked 3 (some .boolean) rm_X12_isAsked D G 0 0 [.ref (G.2.1 200), .int x1, .int x2] (mW G Z Y σ0) (mW G Z Y res.2) (some (.int res.1)) := by
  unfold f_X12_isAsked at h
  refine CT.mk (cc := cX12_isAsked) (maxL := 3) (ret := (some .boolean)) (own := RX12) (plainFor_of_name (by decide)) rfl (Nat.le_of_ble_eq_true rfl) ?_
  intro p e s m args below meth c A ls C0 hnm hA hP hD hl
  obtain ⟨hx, hb, hr, hml, hown, hts, hlocks, hK, hE⟩ := id C0
  have hS : va_S A s.heap s.heap [] := va_S.rf
  have hl : lv_has ls 3 [(0, .ref (G.2.1 200)), (1, .int x1), (2, .int x2)] := hl
  refine lv_aload_n hx hb dX12_isAsked_0 rfl (lv_at hl 0 rfl) ?_
  refine lv_iconst (v := 0) hx hb dX12_isAsked_1 (by decide) ?_
  refine va_put (D := D) (ci := 12) (v := .int (0 : Int32)) (ty := .int) (C := RX12) (T := TX12) (N := 59) hx hb hts inU_X12 tyX12 tyX12_ok nmX12 hown hK hP hD hS _ (mg_200 G Z Y σ0) rfl 0 (by decide) (hts _ wd_1248) (fun _ h9 => h9) rfl (by decide +kernel) rfl rfl (Nat.le_of_ble_eq_true rfl) dX12_isAsked_2 (fun H locs hP hD hS => ?_)
  have hP := wrP (mp_200_0 G Z Y σ0 (0 : Int32)) hP
  have hD := wrD (mp_200_0 G Z Y σ0 (0 : Int32)) hD
  refine lv_aload_n hx hb dX12_isAsked_5 rfl (lv_at hl 0 rfl) ?_
  refine lv_iload_n hx hb dX12_isAsked_6 rfl (lv_at hl 1 rfl) ?_
  obtain ⟨q1, hq1, h⟩ := f_b h
  refine cl_V (w := (mW G Z Y (sI σ0 200 0 (0 : Int32)))) (w' := (mW G Z Y (sI σ0 200 0 (0 : Int32)))) (rv := some (.int q1)) (bytes := cX12_isTalk) (maxL := 2) (ret := (some .boolean)) (C := RX12) (As := [.int x1]) (rest := []) (stk := [.int q1]) ⟨hx, hb, hml, hown, hts⟩ hK hE hA hP hD hS (c_X12_isTalk l D G Z Y (sI σ0 200 0 (0 : Int32)) x1 q1 hq1) (cwV 1 hts (gwV wd_1652 wd_1654 wp_76 wd_11 wd_1655) rfl rfl rfl hd_X12_isTalk ⟨Nat.le_of_ble_eq_true rfl, Nat.le_of_ble_eq_true rfl⟩) (mg_200 G Z Y (sI σ0 200 0 (0 : Int32))) rfl rfl rfl hl.1 rfl (Nat.le_of_ble_eq_true rfl) dX12_isAsked_7 ⟨Nat.zero_le _, Nat.zero_le _⟩ rfl (fun H locs hP hD hS => ?_)
  refine lv_if_eq (tgt := 29) hx hb dX12_isAsked_10 (by decide) (fun c2 => ?_) (fun c2 => ?_)
  · skip
    have h := f_t c2 h
    refine lv_iconst (v := 0) hx hb dX12_isAsked_29 (by decide) ?_
    obtain rfl := Option.some.inj h
    exact W.zret (v := (0 : Int32)) hx hb hr rfl (q_end hK hP hD hS) hS.2.2 dX12_isAsked_30
  · skip
    have h := f_f c2 h
    refine lv_iload_n hx hb dX12_isAsked_13 rfl (lv_at hl 2 rfl) ?_
    refine lv_i2l (v := (x2 : Int32).toInt64) hx hb dX12_isAsked_14 rfl ?_
    refine lv_lconst (v := 0) hx hb dX12_isAsked_15 (by decide) ?_
    refine lv_ldc2 (v := 1000000) hx hb hown (hts _ wd_1656) dX12_isAsked_16 ?_
    obtain ⟨q3, hq3, h⟩ := f_b h
    refine cl_S (w := (mW G Z Y (sI σ0 200 0 (0 : Int32)))) (w' := (mW G Z Y (sI σ0 200 0 (0 : Int32)))) (rv := some (.int q3)) (bytes := cX12_isIn) (maxL := 6) (ret := (some .boolean)) (As := [.long (x2 : Int32).toInt64, .long (0 : Int64), .long (1000000 : Int64)]) (rest := []) (stk := [.int q3]) ⟨hx, hb, hml, hown, hts⟩ hK hE hA hP hD hS (c_X12_isIn l D G (mW G Z Y (sI σ0 200 0 (0 : Int32))) ((x2 : Int32).toInt64) (0 : Int64) (1000000 : Int64) q3 hq3) (mkS hts wd_1498 wd_1499 wd_11 wd_1500 rfl rfl hd_X12_isIn ⟨Nat.le_of_ble_eq_true rfl, Nat.le_of_ble_eq_true rfl⟩) rfl hl.1 rfl (Nat.le_of_ble_eq_true rfl) dX12_isAsked_19 ⟨Nat.zero_le _, Nat.zero_le _⟩ rfl (fun H locs hP hD hS => ?_)
    refine lv_if_eq (tgt := 29) hx hb dX12_isAsked_22 (by decide) (fun c4 => ?_) (fun c4 => ?_)
    · skip
      have h := f_t c4 h
      refine lv_iconst (v := 0) hx hb dX12_isAsked_29 (by decide) ?_
      obtain rfl := Option.some.inj h
      exact W.zret (v := (0 : Int32)) hx hb hr rfl (q_end hK hP hD hS) hS.2.2 dX12_isAsked_30
    · skip
      have h := f_f c4 h
      refine lv_iconst (v := 1) hx hb dX12_isAsked_25 (by decide) ?_
      refine lv_goto (tgt := 30) hx hb dX12_isAsked_26 (by decide) ?_
      obtain rfl := Option.some.inj h
      exact W.zret (v := (1 : Int32)) hx hb hr rfl (q_end hK hP hD hS) hS.2.2 dX12_isAsked_30
abbrev rm_X12_latest : Room := { frames := 0, cells := 0, slots := 0, locals := 0 }
set_option maxRecDepth 100000 in
set_option maxHeartbeats 8000000 in
theorem c_X12_latest (l : Launch) (D : va_G) (G : hG) (Z : hZ) (Y : va_W) (σ0 : hSt) (x1 : Int32) (res : (Int32 × hSt)) (h : f_X12_latest Z σ0 x1 = some res) : CT l yX12_latest cX12_latest 2 (some .int) rm_X12_latest D G 0 0 [.ref (G.2.1 200), .int x1] (mW G Z Y σ0) (mW G Z Y res.2) (some (.int res.1)) := by
  unfold f_X12_latest at h
  refine CT.mk (cc := cX12_latest) (maxL := 2) (ret := (some .int)) (own := RX12) (plainFor_of_name (by decide)) rfl (Nat.le_of_ble_eq_true rfl) ?_
  intro p e s m args below meth c A ls C0 hnm hA hP hD hl
  obtain ⟨hx, hb, hr, hml, hown, hts, hlocks, hK, hE⟩ := id C0
  have hS : va_S A s.heap s.heap [] := va_S.rf
  have hl : lv_has ls 2 [(0, .ref (G.2.1 200)), (1, .int x1)] := hl
  refine lv_aload_n hx hb dX12_latest_0 rfl (lv_at hl 0 rfl) ?_
  refine lv_iconst (v := 0) hx hb dX12_latest_1 (by decide) ?_
  refine va_put (D := D) (ci := 12) (v := .int (0 : Int32)) (ty := .int) (C := RX12) (T := TX12) (N := 59) hx hb hts inU_X12 tyX12 tyX12_ok nmX12 hown hK hP hD hS _ (mg_200 G Z Y σ0) rfl 0 (by decide) (hts _ wd_1248) (fun _ h9 => h9) rfl (by decide +kernel) rfl rfl (Nat.le_of_ble_eq_true rfl) dX12_latest_2 (fun H locs hP hD hS => ?_)
  have hP := wrP (mp_200_0 G Z Y σ0 (0 : Int32)) hP
  have hD := wrD (mp_200_0 G Z Y σ0 (0 : Int32)) hD
  refine lv_aload_n hx hb dX12_latest_5 rfl (lv_at hl 0 rfl) ?_
  refine va_get (D := D) (ci := 12) (v := .int (σ0.1 200 39)) (C := RX12) (T := TX12) (N := 59) hx hb hts inU_X12 hown hK hP _ (mg_200 G Z Y (sI σ0 200 0 (0 : Int32))) rfl 39 (by decide) (hts _ wd_1287) (fun _ h9 => h9) rfl dX12_latest_6 ?_
  refine lv_if_ne (tgt := 14) hx hb dX12_latest_9 (by decide) (fun c1 => ?_) (fun c1 => ?_)
  · skip
    have h := f_f c1 h
    refine lv_iload_n hx hb dX12_latest_14 rfl (lv_at hl 1 rfl) ?_
    by_cases c2 : x1 = 0
    · have h := f_t c2 h
      refine lv_tableIn (off := 29) (tgt := 44) hx hb dX12_latest_15 (by rw [c2]; decide) (by rw [c2]; decide) (by rw [c2]; rfl) (by decide) ?_
      refine lv_aload_n hx hb dX12_latest_44 rfl (lv_at hl 0 rfl) ?_
      refine va_get (D := D) (ci := 12) (v := .long (σ0.2.1 200 52)) (C := RX12) (T := TX12) (N := 59) hx hb hts inU_X12 hown hK hP _ (mg_200 G Z Y (sI σ0 200 0 (0 : Int32))) rfl 52 (by decide) (hts _ wd_1299) (fun _ h9 => h9) rfl dX12_latest_45 ?_
      refine lv_l2i (v := ((σ0.2.1 200 52) : Int64).toInt32) hx hb dX12_latest_48 rfl ?_
      obtain rfl := Option.some.inj h
      exact W.iret (v := ((σ0.2.1 200 52) : Int64).toInt32) hx hb hr (q_end hK hP hD hS) hS.2.2 dX12_latest_49
    have h := f_f c2 h
    by_cases c3 : x1 = 1
    · have h := f_t c3 h
      refine lv_tableIn (off := 35) (tgt := 50) hx hb dX12_latest_15 (by rw [c3]; decide) (by rw [c3]; decide) (by rw [c3]; rfl) (by decide) ?_
      refine lv_aload_n hx hb dX12_latest_50 rfl (lv_at hl 0 rfl) ?_
      refine va_get (D := D) (ci := 12) (v := .int (σ0.1 200 49)) (C := RX12) (T := TX12) (N := 59) hx hb hts inU_X12 hown hK hP _ (mg_200 G Z Y (sI σ0 200 0 (0 : Int32))) rfl 49 (by decide) (hts _ wd_1296) (fun _ h9 => h9) rfl dX12_latest_51 ?_
      obtain rfl := Option.some.inj h
      exact W.iret (v := (σ0.1 200 49)) hx hb hr (q_end hK hP hD hS) hS.2.2 dX12_latest_54
    have h := f_f c3 h
    by_cases c4 : x1 = 2
    · have h := f_t c4 h
      refine lv_tableIn (off := 40) (tgt := 55) hx hb dX12_latest_15 (by rw [c4]; decide) (by rw [c4]; decide) (by rw [c4]; rfl) (by decide) ?_
      refine lv_aload_n hx hb dX12_latest_55 rfl (lv_at hl 0 rfl) ?_
      refine va_get (D := D) (ci := 12) (v := .long (σ0.2.1 200 53)) (C := RX12) (T := TX12) (N := 59) hx hb hts inU_X12 hown hK hP _ (mg_200 G Z Y (sI σ0 200 0 (0 : Int32))) rfl 53 (by decide) (hts _ wd_1300) (fun _ h9 => h9) rfl dX12_latest_56 ?_
      refine lv_l2i (v := ((σ0.2.1 200 53) : Int64).toInt32) hx hb dX12_latest_59 rfl ?_
      obtain rfl := Option.some.inj h
      exact W.iret (v := ((σ0.2.1 200 53) : Int64).toInt32) hx hb hr (q_end hK hP hD hS) hS.2.2 dX12_latest_60
    have h := f_f c4 h
    by_cases c5 : x1 = 3
    · have h := f_t c5 h
      refine lv_tableIn (off := 46) (tgt := 61) hx hb dX12_latest_15 (by rw [c5]; decide) (by rw [c5]; decide) (by rw [c5]; rfl) (by decide) ?_
      refine lv_aload_n hx hb dX12_latest_61 rfl (lv_at hl 0 rfl) ?_
      refine va_get (D := D) (ci := 12) (v := .int (σ0.1 200 50)) (C := RX12) (T := TX12) (N := 59) hx hb hts inU_X12 hown hK hP _ (mg_200 G Z Y (sI σ0 200 0 (0 : Int32))) rfl 50 (by decide) (hts _ wd_1297) (fun _ h9 => h9) rfl dX12_latest_62 ?_
      obtain rfl := Option.some.inj h
      exact W.iret (v := (σ0.1 200 50)) hx hb hr (q_end hK hP hD hS) hS.2.2 dX12_latest_65
    have h := f_f c5 h
    have hne0 := i32ne (z := 0) (by decide) c2
    have hne1 := i32ne (z := 1) (by decide) c3
    have hne2 := i32ne (z := 2) (by decide) c4
    have hne3 := i32ne (z := 3) (by decide) c5
    refine lv_tableOut (tgt := 66) hx hb dX12_latest_15 (by omega) (by decide) ?_
    refine lv_iconst (v := (-1)) hx hb dX12_latest_66 (by decide) ?_
    obtain rfl := Option.some.inj h
    exact W.iret (v := (-1 : Int32)) hx hb hr (q_end hK hP hD hS) hS.2.2 dX12_latest_67
  · skip
    have h := f_t c1 h
    refine lv_iconst (v := (-1)) hx hb dX12_latest_12 (by decide) ?_
    obtain rfl := Option.some.inj h
    exact W.iret (v := (-1 : Int32)) hx hb hr (q_end hK hP hD hS) hS.2.2 dX12_latest_13
abbrev rm_X12_value : Room := { frames := 1, cells := 0, slots := 0, locals := 30 }
set_option maxRecDepth 100000 in
set_option maxHeartbeats 8000000 in
theorem c_X12_value (l : Launch) (D : va_G) (G : hG) (Z : hZ) (Y : va_W) (σ0 : hSt) (x1 : Int32) (x2 : Int32) (res : (Int32 × hSt)) (h : f_X12_value Z σ0 x1 x2 = some res) : CT l yX12_value cX12_value 3 (some .int) rm_X12_value D G 0 0 [.ref (G.2.1 200), .int x1, .int x2] (mW G Z Y σ0) (mW G Z Y res.2) (some (.int res.1)) := by
  unfold f_X12_value at h
  refine CT.mk (cc := cX12_value) (maxL := 3) (ret := (some .int)) (own := RX12) (plainFor_of_name (by decide)) rfl (Nat.le_of_ble_eq_true rfl) ?_
  intro p e s m args below meth c A ls C0 hnm hA hP hD hl
  obtain ⟨hx, hb, hr, hml, hown, hts, hlocks, hK, hE⟩ := id C0
  have hS : va_S A s.heap s.heap [] := va_S.rf
  have hl : lv_has ls 3 [(0, .ref (G.2.1 200)), (1, .int x1), (2, .int x2)] := hl
  refine lv_aload_n hx hb dX12_value_0 rfl (lv_at hl 0 rfl) ?_
  refine lv_aload_n hx hb dX12_value_1 rfl (lv_at hl 0 rfl) ?_
  refine va_get (D := D) (ci := 12) (v := .int (σ0.1 200 39)) (C := RX12) (T := TX12) (N := 59) hx hb hts inU_X12 hown hK hP _ (mg_200 G Z Y σ0) rfl 39 (by decide) (hts _ wd_1287) (fun _ h9 => h9) rfl dX12_value_2 ?_
  refine lv_if_eq (tgt := 65) hx hb dX12_value_5 (by decide) (fun c1 => ?_) (fun c1 => ?_)
  · skip
    have h := f_t c1 h
    refine lv_iconst (v := 1) hx hb dX12_value_65 (by decide) ?_
    refine va_put (D := D) (ci := 12) (v := .int (1 : Int32)) (ty := .int) (C := RX12) (T := TX12) (N := 59) hx hb hts inU_X12 tyX12 tyX12_ok nmX12 hown hK hP hD hS _ (mg_200 G Z Y σ0) rfl 0 (by decide) (hts _ wd_1248) (fun _ h9 => h9) rfl (by decide +kernel) rfl rfl (Nat.le_of_ble_eq_true rfl) dX12_value_66 (fun H locs hP hD hS => ?_)
    have hP := wrP (mp_200_0 G Z Y σ0 (1 : Int32)) hP
    have hD := wrD (mp_200_0 G Z Y σ0 (1 : Int32)) hD
    refine lv_aload_n hx hb dX12_value_69 rfl (lv_at hl 0 rfl) ?_
    refine va_get (D := D) (ci := 12) (v := .int (1 : Int32)) (C := RX12) (T := TX12) (N := 59) hx hb hts inU_X12 hown hK hP _ (mg_200 G Z Y (sI σ0 200 0 (1 : Int32))) rfl 0 (by decide) (hts _ wd_1248) (fun _ h9 => h9) rfl dX12_value_70 ?_
    refine lv_if_le (tgt := 80) hx hb dX12_value_73 (by decide) (fun c2 => ?_) (fun c2 => ?_)
    · skip
      have h := f_t c2 h
      refine lv_aload_n hx hb dX12_value_80 rfl (lv_at hl 0 rfl) ?_
      refine va_get (D := D) (ci := 12) (v := .ref (G.2.1 220)) (C := RX12) (T := TX12) (N := 59) hx hb hts inU_X12 hown hK hP _ (mg_200 G Z Y (sI σ0 200 0 (1 : Int32))) rfl 46 (by decide) (hts _ wd_1293) (fun _ h9 => h9) rfl dX12_value_81 ?_
      refine lv_sipush (v := 201) hx hb dX12_value_84 (by decide) ?_
      refine lv_iload_n hx hb dX12_value_87 rfl (lv_at hl 1 rfl) ?_
      refine lv_imul hx hb dX12_value_88 ?_
      refine lv_iload_n hx hb dX12_value_89 rfl (lv_at hl 2 rfl) ?_
      refine lv_iadd hx hb dX12_value_90 ?_
      obtain ⟨c3, h⟩ := f_n h
      refine va_laldE (v := (σ0.2.1 220 (((((201 : Int32) * x1) + x2) : Int32).toNatClampNeg))) hx hb hK hP _ 1 (mg_220 G Z Y (sI σ0 200 0 (1 : Int32))) rfl c3 dX12_value_91 rfl ?_
      refine lv_l2i (v := ((σ0.2.1 220 (((((201 : Int32) * x1) + x2) : Int32).toNatClampNeg)) : Int64).toInt32) hx hb dX12_value_92 rfl ?_
      obtain rfl := Option.some.inj h
      exact W.iret (v := ((σ0.2.1 220 (((((201 : Int32) * x1) + x2) : Int32).toNatClampNeg)) : Int64).toInt32) hx hb hr (q_end hK hP hD hS) hS.2.2 dX12_value_93
    · skip
      have h := f_f c2 h
      refine lv_iconst (v := 0) hx hb dX12_value_76 (by decide) ?_
      refine lv_goto (tgt := 93) hx hb dX12_value_77 (by decide) ?_
      obtain rfl := Option.some.inj h
      exact W.iret (v := (0 : Int32)) hx hb hr (q_end hK hP hD hS) hS.2.2 dX12_value_93
  · skip
    have h := f_f c1 h
    refine lv_iload_n hx hb dX12_value_8 rfl (lv_at hl 1 rfl) ?_
    refine lv_i2l (v := (x1 : Int32).toInt64) hx hb dX12_value_9 rfl ?_
    refine lv_lconst (v := 0) hx hb dX12_value_10 (by decide) ?_
    refine lv_aload_n hx hb dX12_value_11 rfl (lv_at hl 0 rfl) ?_
    refine va_get (D := D) (ci := 12) (v := .int (σ0.1 200 51)) (C := RX12) (T := TX12) (N := 59) hx hb hts inU_X12 hown hK hP _ (mg_200 G Z Y σ0) rfl 51 (by decide) (hts _ wd_1298) (fun _ h9 => h9) rfl dX12_value_12 ?_
    refine lv_iconst (v := 1) hx hb dX12_value_15 (by decide) ?_
    refine lv_isub hx hb dX12_value_16 ?_
    refine lv_i2l (v := (((σ0.1 200 51) - (1 : Int32)) : Int32).toInt64) hx hb dX12_value_17 rfl ?_
    obtain ⟨q4, hq4, h⟩ := f_b h
    refine cl_S (w := (mW G Z Y σ0)) (w' := (mW G Z Y σ0)) (rv := some (.int q4)) (bytes := cX12_isIn) (maxL := 6) (ret := (some .boolean)) (As := [.long (x1 : Int32).toInt64, .long (0 : Int64), .long (((σ0.1 200 51) - (1 : Int32)) : Int32).toInt64]) (rest := [.ref (G.2.1 200)]) (stk := [.int q4, .ref (G.2.1 200)]) ⟨hx, hb, hml, hown, hts⟩ hK hE hA hP hD hS (c_X12_isIn l D G (mW G Z Y σ0) ((x1 : Int32).toInt64) (0 : Int64) ((((σ0.1 200 51) - (1 : Int32)) : Int32).toInt64) q4 hq4) (mkS hts wd_1498 wd_1499 wd_11 wd_1500 rfl rfl hd_X12_isIn ⟨Nat.le_of_ble_eq_true rfl, Nat.le_of_ble_eq_true rfl⟩) rfl hl.1 rfl (Nat.le_of_ble_eq_true rfl) dX12_value_18 ⟨Nat.zero_le _, Nat.zero_le _⟩ rfl (fun H locs hP hD hS => ?_)
    refine lv_if_eq (tgt := 65) hx hb dX12_value_21 (by decide) (fun c5 => ?_) (fun c5 => ?_)
    · skip
      have h := f_t c5 h
      refine lv_iconst (v := 1) hx hb dX12_value_65 (by decide) ?_
      refine va_put (D := D) (ci := 12) (v := .int (1 : Int32)) (ty := .int) (C := RX12) (T := TX12) (N := 59) hx hb hts inU_X12 tyX12 tyX12_ok nmX12 hown hK hP hD hS _ (mg_200 G Z Y σ0) rfl 0 (by decide) (hts _ wd_1248) (fun _ h9 => h9) rfl (by decide +kernel) rfl rfl (Nat.le_of_ble_eq_true rfl) dX12_value_66 (fun H locs hP hD hS => ?_)
      have hP := wrP (mp_200_0 G Z Y σ0 (1 : Int32)) hP
      have hD := wrD (mp_200_0 G Z Y σ0 (1 : Int32)) hD
      refine lv_aload_n hx hb dX12_value_69 rfl (lv_at hl 0 rfl) ?_
      refine va_get (D := D) (ci := 12) (v := .int (1 : Int32)) (C := RX12) (T := TX12) (N := 59) hx hb hts inU_X12 hown hK hP _ (mg_200 G Z Y (sI σ0 200 0 (1 : Int32))) rfl 0 (by decide) (hts _ wd_1248) (fun _ h9 => h9) rfl dX12_value_70 ?_
      refine lv_if_le (tgt := 80) hx hb dX12_value_73 (by decide) (fun c6 => ?_) (fun c6 => ?_)
      · skip
        have h := f_t c6 h
        refine lv_aload_n hx hb dX12_value_80 rfl (lv_at hl 0 rfl) ?_
        refine va_get (D := D) (ci := 12) (v := .ref (G.2.1 220)) (C := RX12) (T := TX12) (N := 59) hx hb hts inU_X12 hown hK hP _ (mg_200 G Z Y (sI σ0 200 0 (1 : Int32))) rfl 46 (by decide) (hts _ wd_1293) (fun _ h9 => h9) rfl dX12_value_81 ?_
        refine lv_sipush (v := 201) hx hb dX12_value_84 (by decide) ?_
        refine lv_iload_n hx hb dX12_value_87 rfl (lv_at hl 1 rfl) ?_
        refine lv_imul hx hb dX12_value_88 ?_
        refine lv_iload_n hx hb dX12_value_89 rfl (lv_at hl 2 rfl) ?_
        refine lv_iadd hx hb dX12_value_90 ?_
        obtain ⟨c7, h⟩ := f_n h
        refine va_laldE (v := (σ0.2.1 220 (((((201 : Int32) * x1) + x2) : Int32).toNatClampNeg))) hx hb hK hP _ 1 (mg_220 G Z Y (sI σ0 200 0 (1 : Int32))) rfl c7 dX12_value_91 rfl ?_
        refine lv_l2i (v := ((σ0.2.1 220 (((((201 : Int32) * x1) + x2) : Int32).toNatClampNeg)) : Int64).toInt32) hx hb dX12_value_92 rfl ?_
        obtain rfl := Option.some.inj h
        exact W.iret (v := ((σ0.2.1 220 (((((201 : Int32) * x1) + x2) : Int32).toNatClampNeg)) : Int64).toInt32) hx hb hr (q_end hK hP hD hS) hS.2.2 dX12_value_93
      · skip
        have h := f_f c6 h
        refine lv_iconst (v := 0) hx hb dX12_value_76 (by decide) ?_
        refine lv_goto (tgt := 93) hx hb dX12_value_77 (by decide) ?_
        obtain rfl := Option.some.inj h
        exact W.iret (v := (0 : Int32)) hx hb hr (q_end hK hP hD hS) hS.2.2 dX12_value_93
    · skip
      have h := f_f c5 h
      refine lv_iload_n hx hb dX12_value_24 rfl (lv_at hl 2 rfl) ?_
      refine lv_i2l (v := (x2 : Int32).toInt64) hx hb dX12_value_25 rfl ?_
      refine lv_lconst (v := 0) hx hb dX12_value_26 (by decide) ?_
      refine lv_aload_n hx hb dX12_value_27 rfl (lv_at hl 0 rfl) ?_
      refine va_get (D := D) (ci := 12) (v := .ref (G.2.1 205)) (C := RX12) (T := TX12) (N := 59) hx hb hts inU_X12 hown hK hP _ (mg_200 G Z Y σ0) rfl 13 (by decide) (hts _ wd_1261) (fun _ h9 => h9) rfl dX12_value_28 ?_
      refine lv_bipush (v := 6) hx hb dX12_value_31 (by decide) ?_
      refine lv_aload_n hx hb dX12_value_33 rfl (lv_at hl 0 rfl) ?_
      refine va_get (D := D) (ci := 12) (v := .ref (G.2.1 214)) (C := RX12) (T := TX12) (N := 59) hx hb hts inU_X12 hown hK hP _ (mg_200 G Z Y σ0) rfl 32 (by decide) (hts _ wd_1280) (fun _ h9 => h9) rfl dX12_value_34 ?_
      refine lv_aload_n hx hb dX12_value_37 rfl (lv_at hl 0 rfl) ?_
      refine va_get (D := D) (ci := 12) (v := .int (σ0.1 200 48)) (C := RX12) (T := TX12) (N := 59) hx hb hts inU_X12 hown hK hP _ (mg_200 G Z Y σ0) rfl 48 (by decide) (hts _ wd_1295) (fun _ h9 => h9) rfl dX12_value_38 ?_
      obtain ⟨c8, h⟩ := f_n h
      refine va_ialdE (v := (σ0.1 214 (((σ0.1 200 48) : Int32).toNatClampNeg))) hx hb hK hP _ 0 (mg_214 G Z Y σ0) rfl c8 dX12_value_41 rfl ?_
      refine lv_imul hx hb dX12_value_42 ?_
      refine lv_iconst (v := 0) hx hb dX12_value_43 (by decide) ?_
      refine lv_iload_n hx hb dX12_value_44 rfl (lv_at hl 1 rfl) ?_
      refine lv_iconst (v := 5) hx hb dX12_value_45 (by decide) ?_
      refine va_mmin hx hb (hml.trans hl.1.symm) hown (hts _ wd_1719) (hts _ wd_400) (hts _ wd_12) (hts _ wd_401) (Nat.le_of_ble_eq_true rfl) (Nat.le_of_ble_eq_true rfl) (Nat.zero_le _) (Nat.zero_le _) dX12_value_46 ?_
      refine va_mmax hx hb (hml.trans hl.1.symm) hown (hts _ wd_1476) (hts _ wd_328) (hts _ wd_12) (hts _ wd_329) (Nat.le_of_ble_eq_true rfl) (Nat.le_of_ble_eq_true rfl) (Nat.zero_le _) (Nat.zero_le _) dX12_value_49 ?_
      refine lv_iadd hx hb dX12_value_52 ?_
      obtain ⟨c9, h⟩ := f_n h
      refine va_ialdE (v := (σ0.1 205 (((((6 : Int32) * (σ0.1 214 (((σ0.1 200 48) : Int32).toNatClampNeg))) + (if (0 : Int32) < (if (5 : Int32) < x1 then (5 : Int32) else x1) then (if (5 : Int32) < x1 then (5 : Int32) else x1) else (0 : Int32))) : Int32).toNatClampNeg))) hx hb hK hP _ 0 (mg_205 G Z Y σ0) rfl c9 dX12_value_53 rfl ?_
      refine lv_i2l (v := ((σ0.1 205 (((((6 : Int32) * (σ0.1 214 (((σ0.1 200 48) : Int32).toNatClampNeg))) + (if (0 : Int32) < (if (5 : Int32) < x1 then (5 : Int32) else x1) then (if (5 : Int32) < x1 then (5 : Int32) else x1) else (0 : Int32))) : Int32).toNatClampNeg)) : Int32).toInt64) hx hb dX12_value_54 rfl ?_
      obtain ⟨q10, hq10, h⟩ := f_b h
      refine cl_S (w := (mW G Z Y σ0)) (w' := (mW G Z Y σ0)) (rv := some (.int q10)) (bytes := cX12_isIn) (maxL := 6) (ret := (some .boolean)) (As := [.long (x2 : Int32).toInt64, .long (0 : Int64), .long ((σ0.1 205 (((((6 : Int32) * (σ0.1 214 (((σ0.1 200 48) : Int32).toNatClampNeg))) + (if (0 : Int32) < (if (5 : Int32) < x1 then (5 : Int32) else x1) then (if (5 : Int32) < x1 then (5 : Int32) else x1) else (0 : Int32))) : Int32).toNatClampNeg)) : Int32).toInt64]) (rest := [.ref (G.2.1 200)]) (stk := [.int q10, .ref (G.2.1 200)]) ⟨hx, hb, hml, hown, hts⟩ hK hE hA hP hD hS (c_X12_isIn l D G (mW G Z Y σ0) ((x2 : Int32).toInt64) (0 : Int64) (((σ0.1 205 (((((6 : Int32) * (σ0.1 214 (((σ0.1 200 48) : Int32).toNatClampNeg))) + (if (0 : Int32) < (if (5 : Int32) < x1 then (5 : Int32) else x1) then (if (5 : Int32) < x1 then (5 : Int32) else x1) else (0 : Int32))) : Int32).toNatClampNeg)) : Int32).toInt64) q10 hq10) (mkS hts wd_1498 wd_1499 wd_11 wd_1500 rfl rfl hd_X12_isIn ⟨Nat.le_of_ble_eq_true rfl, Nat.le_of_ble_eq_true rfl⟩) rfl hl.1 rfl (Nat.le_of_ble_eq_true rfl) dX12_value_55 ⟨Nat.zero_le _, Nat.zero_le _⟩ rfl (fun H locs hP hD hS => ?_)
      refine lv_if_eq (tgt := 65) hx hb dX12_value_58 (by decide) (fun c11 => ?_) (fun c11 => ?_)
      · skip
        have h := f_t c11 h
        refine lv_iconst (v := 1) hx hb dX12_value_65 (by decide) ?_
        refine va_put (D := D) (ci := 12) (v := .int (1 : Int32)) (ty := .int) (C := RX12) (T := TX12) (N := 59) hx hb hts inU_X12 tyX12 tyX12_ok nmX12 hown hK hP hD hS _ (mg_200 G Z Y σ0) rfl 0 (by decide) (hts _ wd_1248) (fun _ h9 => h9) rfl (by decide +kernel) rfl rfl (Nat.le_of_ble_eq_true rfl) dX12_value_66 (fun H locs hP hD hS => ?_)
        have hP := wrP (mp_200_0 G Z Y σ0 (1 : Int32)) hP
        have hD := wrD (mp_200_0 G Z Y σ0 (1 : Int32)) hD
        refine lv_aload_n hx hb dX12_value_69 rfl (lv_at hl 0 rfl) ?_
        refine va_get (D := D) (ci := 12) (v := .int (1 : Int32)) (C := RX12) (T := TX12) (N := 59) hx hb hts inU_X12 hown hK hP _ (mg_200 G Z Y (sI σ0 200 0 (1 : Int32))) rfl 0 (by decide) (hts _ wd_1248) (fun _ h9 => h9) rfl dX12_value_70 ?_
        refine lv_if_le (tgt := 80) hx hb dX12_value_73 (by decide) (fun c12 => ?_) (fun c12 => ?_)
        · skip
          have h := f_t c12 h
          refine lv_aload_n hx hb dX12_value_80 rfl (lv_at hl 0 rfl) ?_
          refine va_get (D := D) (ci := 12) (v := .ref (G.2.1 220)) (C := RX12) (T := TX12) (N := 59) hx hb hts inU_X12 hown hK hP _ (mg_200 G Z Y (sI σ0 200 0 (1 : Int32))) rfl 46 (by decide) (hts _ wd_1293) (fun _ h9 => h9) rfl dX12_value_81 ?_
          refine lv_sipush (v := 201) hx hb dX12_value_84 (by decide) ?_
          refine lv_iload_n hx hb dX12_value_87 rfl (lv_at hl 1 rfl) ?_
          refine lv_imul hx hb dX12_value_88 ?_
          refine lv_iload_n hx hb dX12_value_89 rfl (lv_at hl 2 rfl) ?_
          refine lv_iadd hx hb dX12_value_90 ?_
          obtain ⟨c13, h⟩ := f_n h
          refine va_laldE (v := (σ0.2.1 220 (((((201 : Int32) * x1) + x2) : Int32).toNatClampNeg))) hx hb hK hP _ 1 (mg_220 G Z Y (sI σ0 200 0 (1 : Int32))) rfl c13 dX12_value_91 rfl ?_
          refine lv_l2i (v := ((σ0.2.1 220 (((((201 : Int32) * x1) + x2) : Int32).toNatClampNeg)) : Int64).toInt32) hx hb dX12_value_92 rfl ?_
          obtain rfl := Option.some.inj h
          exact W.iret (v := ((σ0.2.1 220 (((((201 : Int32) * x1) + x2) : Int32).toNatClampNeg)) : Int64).toInt32) hx hb hr (q_end hK hP hD hS) hS.2.2 dX12_value_93
        · skip
          have h := f_f c12 h
          refine lv_iconst (v := 0) hx hb dX12_value_76 (by decide) ?_
          refine lv_goto (tgt := 93) hx hb dX12_value_77 (by decide) ?_
          obtain rfl := Option.some.inj h
          exact W.iret (v := (0 : Int32)) hx hb hr (q_end hK hP hD hS) hS.2.2 dX12_value_93
      · skip
        have h := f_f c11 h
        refine lv_iconst (v := 0) hx hb dX12_value_61 (by decide) ?_
        refine lv_goto (tgt := 66) hx hb dX12_value_62 (by decide) ?_
        refine va_put (D := D) (ci := 12) (v := .int (0 : Int32)) (ty := .int) (C := RX12) (T := TX12) (N := 59) hx hb hts inU_X12 tyX12 tyX12_ok nmX12 hown hK hP hD hS _ (mg_200 G Z Y σ0) rfl 0 (by decide) (hts _ wd_1248) (fun _ h9 => h9) rfl (by decide +kernel) rfl rfl (Nat.le_of_ble_eq_true rfl) dX12_value_66 (fun H locs hP hD hS => ?_)
        have hP := wrP (mp_200_0 G Z Y σ0 (0 : Int32)) hP
        have hD := wrD (mp_200_0 G Z Y σ0 (0 : Int32)) hD
        refine lv_aload_n hx hb dX12_value_69 rfl (lv_at hl 0 rfl) ?_
        refine va_get (D := D) (ci := 12) (v := .int (0 : Int32)) (C := RX12) (T := TX12) (N := 59) hx hb hts inU_X12 hown hK hP _ (mg_200 G Z Y (sI σ0 200 0 (0 : Int32))) rfl 0 (by decide) (hts _ wd_1248) (fun _ h9 => h9) rfl dX12_value_70 ?_
        refine lv_if_le (tgt := 80) hx hb dX12_value_73 (by decide) (fun c14 => ?_) (fun c14 => ?_)
        · skip
          have h := f_t c14 h
          refine lv_aload_n hx hb dX12_value_80 rfl (lv_at hl 0 rfl) ?_
          refine va_get (D := D) (ci := 12) (v := .ref (G.2.1 220)) (C := RX12) (T := TX12) (N := 59) hx hb hts inU_X12 hown hK hP _ (mg_200 G Z Y (sI σ0 200 0 (0 : Int32))) rfl 46 (by decide) (hts _ wd_1293) (fun _ h9 => h9) rfl dX12_value_81 ?_
          refine lv_sipush (v := 201) hx hb dX12_value_84 (by decide) ?_
          refine lv_iload_n hx hb dX12_value_87 rfl (lv_at hl 1 rfl) ?_
          refine lv_imul hx hb dX12_value_88 ?_
          refine lv_iload_n hx hb dX12_value_89 rfl (lv_at hl 2 rfl) ?_
          refine lv_iadd hx hb dX12_value_90 ?_
          obtain ⟨c15, h⟩ := f_n h
          refine va_laldE (v := (σ0.2.1 220 (((((201 : Int32) * x1) + x2) : Int32).toNatClampNeg))) hx hb hK hP _ 1 (mg_220 G Z Y (sI σ0 200 0 (0 : Int32))) rfl c15 dX12_value_91 rfl ?_
          refine lv_l2i (v := ((σ0.2.1 220 (((((201 : Int32) * x1) + x2) : Int32).toNatClampNeg)) : Int64).toInt32) hx hb dX12_value_92 rfl ?_
          obtain rfl := Option.some.inj h
          exact W.iret (v := ((σ0.2.1 220 (((((201 : Int32) * x1) + x2) : Int32).toNatClampNeg)) : Int64).toInt32) hx hb hr (q_end hK hP hD hS) hS.2.2 dX12_value_93
        · skip
          have h := f_f c14 h
          refine lv_iconst (v := 0) hx hb dX12_value_76 (by decide) ?_
          refine lv_goto (tgt := 93) hx hb dX12_value_77 (by decide) ?_
          obtain rfl := Option.some.inj h
          exact W.iret (v := (0 : Int32)) hx hb hr (q_end hK hP hD hS) hS.2.2 dX12_value_93
abbrev rm_X12_draw : Room := { frames := 1, cells := 0, slots := 0, locals := 25 }
set_option maxRecDepth 100000 in
set_option maxHeartbeats 8000000 in
theorem c_X12_draw (l : Launch) (D : va_G) (G : hG) (Z : hZ) (Y : va_W) (σ0 : hSt) (x1 : Int32) (res : (Int32 × hSt)) (h : f_X12_draw Z σ0 x1 = some res) : CT l yX12_draw cX12_draw 2 (some .int) rm_X12_draw D G 0 0 [.ref (G.2.1 200), .int x1] (mW G Z Y σ0) (mW G Z Y res.2) (some (.int res.1)) := by
  unfold f_X12_draw at h
  refine CT.mk (cc := cX12_draw) (maxL := 2) (ret := (some .int)) (own := RX12) (plainFor_of_name (by decide)) rfl (Nat.le_of_ble_eq_true rfl) ?_
  intro p e s m args below meth c A ls C0 hnm hA hP hD hl
  obtain ⟨hx, hb, hr, hml, hown, hts, hlocks, hK, hE⟩ := id C0
  have hS : va_S A s.heap s.heap [] := va_S.rf
  have hl : lv_has ls 2 [(0, .ref (G.2.1 200)), (1, .int x1)] := hl
  refine lv_aload_n hx hb dX12_draw_0 rfl (lv_at hl 0 rfl) ?_
  refine lv_iconst (v := 0) hx hb dX12_draw_1 (by decide) ?_
  refine va_put (D := D) (ci := 12) (v := .int (0 : Int32)) (ty := .int) (C := RX12) (T := TX12) (N := 59) hx hb hts inU_X12 tyX12 tyX12_ok nmX12 hown hK hP hD hS _ (mg_200 G Z Y σ0) rfl 0 (by decide) (hts _ wd_1248) (fun _ h9 => h9) rfl (by decide +kernel) rfl rfl (Nat.le_of_ble_eq_true rfl) dX12_draw_2 (fun H locs hP hD hS => ?_)
  have hP := wrP (mp_200_0 G Z Y σ0 (0 : Int32)) hP
  have hD := wrD (mp_200_0 G Z Y σ0 (0 : Int32)) hD
  refine lv_aload_n hx hb dX12_draw_5 rfl (lv_at hl 0 rfl) ?_
  refine va_get (D := D) (ci := 12) (v := .int (σ0.1 200 39)) (C := RX12) (T := TX12) (N := 59) hx hb hts inU_X12 hown hK hP _ (mg_200 G Z Y (sI σ0 200 0 (0 : Int32))) rfl 39 (by decide) (hts _ wd_1287) (fun _ h9 => h9) rfl dX12_draw_6 ?_
  refine lv_if_eq (tgt := 38) hx hb dX12_draw_9 (by decide) (fun c1 => ?_) (fun c1 => ?_)
  · skip
    have h := f_t c1 h
    refine lv_iconst (v := (-1)) hx hb dX12_draw_38 (by decide) ?_
    obtain rfl := Option.some.inj h
    exact W.iret (v := (-1 : Int32)) hx hb hr (q_end hK hP hD hS) hS.2.2 dX12_draw_39
  · skip
    have h := f_f c1 h
    refine lv_iload_n hx hb dX12_draw_12 rfl (lv_at hl 1 rfl) ?_
    refine lv_i2l (v := (x1 : Int32).toInt64) hx hb dX12_draw_13 rfl ?_
    refine lv_lconst (v := 0) hx hb dX12_draw_14 (by decide) ?_
    refine lv_aload_n hx hb dX12_draw_15 rfl (lv_at hl 0 rfl) ?_
    refine va_get (D := D) (ci := 12) (v := .int (σ0.1 200 50)) (C := RX12) (T := TX12) (N := 59) hx hb hts inU_X12 hown hK hP _ (mg_200 G Z Y (sI σ0 200 0 (0 : Int32))) rfl 50 (by decide) (hts _ wd_1297) (fun _ h9 => h9) rfl dX12_draw_16 ?_
    refine lv_iconst (v := 1) hx hb dX12_draw_19 (by decide) ?_
    refine lv_isub hx hb dX12_draw_20 ?_
    refine lv_i2l (v := (((σ0.1 200 50) - (1 : Int32)) : Int32).toInt64) hx hb dX12_draw_21 rfl ?_
    obtain ⟨q2, hq2, h⟩ := f_b h
    refine cl_S (w := (mW G Z Y (sI σ0 200 0 (0 : Int32)))) (w' := (mW G Z Y (sI σ0 200 0 (0 : Int32)))) (rv := some (.int q2)) (bytes := cX12_isIn) (maxL := 6) (ret := (some .boolean)) (As := [.long (x1 : Int32).toInt64, .long (0 : Int64), .long (((σ0.1 200 50) - (1 : Int32)) : Int32).toInt64]) (rest := []) (stk := [.int q2]) ⟨hx, hb, hml, hown, hts⟩ hK hE hA hP hD hS (c_X12_isIn l D G (mW G Z Y (sI σ0 200 0 (0 : Int32))) ((x1 : Int32).toInt64) (0 : Int64) ((((σ0.1 200 50) - (1 : Int32)) : Int32).toInt64) q2 hq2) (mkS hts wd_1498 wd_1499 wd_11 wd_1500 rfl rfl hd_X12_isIn ⟨Nat.le_of_ble_eq_true rfl, Nat.le_of_ble_eq_true rfl⟩) rfl hl.1 rfl (Nat.le_of_ble_eq_true rfl) dX12_draw_22 ⟨Nat.zero_le _, Nat.zero_le _⟩ rfl (fun H locs hP hD hS => ?_)
    refine lv_if_eq (tgt := 38) hx hb dX12_draw_25 (by decide) (fun c3 => ?_) (fun c3 => ?_)
    · skip
      have h := f_t c3 h
      refine lv_iconst (v := (-1)) hx hb dX12_draw_38 (by decide) ?_
      obtain rfl := Option.some.inj h
      exact W.iret (v := (-1 : Int32)) hx hb hr (q_end hK hP hD hS) hS.2.2 dX12_draw_39
    · skip
      have h := f_f c3 h
      refine lv_aload_n hx hb dX12_draw_28 rfl (lv_at hl 0 rfl) ?_
      refine va_get (D := D) (ci := 12) (v := .ref (G.2.1 221)) (C := RX12) (T := TX12) (N := 59) hx hb hts inU_X12 hown hK hP _ (mg_200 G Z Y (sI σ0 200 0 (0 : Int32))) rfl 47 (by decide) (hts _ wd_1294) (fun _ h9 => h9) rfl dX12_draw_29 ?_
      refine lv_iload_n hx hb dX12_draw_32 rfl (lv_at hl 1 rfl) ?_
      obtain ⟨c4, h⟩ := f_n h
      refine va_laldE (v := (σ0.2.1 221 ((x1 : Int32).toNatClampNeg))) hx hb hK hP _ 1 (mg_221 G Z Y (sI σ0 200 0 (0 : Int32))) rfl c4 dX12_draw_33 rfl ?_
      refine lv_l2i (v := ((σ0.2.1 221 ((x1 : Int32).toNatClampNeg)) : Int64).toInt32) hx hb dX12_draw_34 rfl ?_
      refine lv_goto (tgt := 39) hx hb dX12_draw_35 (by decide) ?_
      obtain rfl := Option.some.inj h
      exact W.iret (v := ((σ0.2.1 221 ((x1 : Int32).toNatClampNeg)) : Int64).toInt32) hx hb hr (q_end hK hP hD hS) hS.2.2 dX12_draw_39
abbrev rm_X12_common : Room := { frames := 0, cells := 0, slots := 0, locals := 0 }
set_option maxRecDepth 100000 in
set_option maxHeartbeats 8000000 in
theorem W_X12_common_L6 {p : Program} {e : Env} {s : State} {m : MethodId} {args : Array Value} {below : List Frame} {meth : Method} {c : Code} {A : Nat → Prop} (l : Launch) (D : va_G) (G : hG) (w : va_W) (F : Nat) (x0 : Int64) (x2 : Int64) (res : Int64) (C0 : Cx p s m args meth c cX12_common (some .long) RX12 10 D G A) (hA : ∀ q : Nat, s.heap.size ≤ q → A q) : ∀ (n : Nat) (z4 : Int64) (z6 : Int64), f_X12_common_L6 n z4 z6 = some res → ∀ (H : Heap) (locs : List Loc) (ls : Array Slot), va_P D vwCl w H → va_D A w → va_S A s.heap H locs → lv_has ls 10 [(4, .long z4), (6, .long z6)] → W p l e rm_X12_common s m args below meth c H locs 0 0 (MQ below (Qg (some (.long res)) D (tysG G) w A) args s 0 0 A) (F0 m 6 ls []) := by
  obtain ⟨hx, hb, hr, hml, hown, hts, hlocks, hK, hE⟩ := id C0
  intro n
  induction n with
  | zero =>
    intro z4 z6 h
    cases h
  | succ n ih =>
    intro z4 z6 h H locs ls hP hD hS hl
    rw [f_X12_common_L6] at h
    refine lv_lload hx hb dX12_common_6 (lv_at hl 1 rfl) ?_
    refine lv_lconst (v := 0) hx hb dX12_common_8 (by decide) ?_
    refine W.lcmp hx hb dX12_common_9 ?_
    refine lv_if_eq (tgt := 31) hx hb dX12_common_10 (by decide) (fun c1 => ?_) (fun c1 => ?_)
    · skip
      have c1 := (lg_cmp_eq _ _).mp c1
      have h := f_t c1 h
      refine lv_lload hx hb dX12_common_31 (lv_at hl 0 rfl) ?_
      obtain rfl := Option.some.inj h
      exact W.lret (v := z4) hx hb hr (q_end hK hP hD hS) hS.2.2 dX12_common_33
    · skip
      have c1 := mt (lg_cmp_eq _ _).mpr c1
      have h := f_f c1 h
      refine lv_lload hx hb dX12_common_13 (lv_at hl 0 rfl) ?_
      refine lv_lload hx hb dX12_common_15 (lv_at hl 1 rfl) ?_
      obtain ⟨c2, h⟩ := f_n h
      refine lv_lrem hx hb dX12_common_17 c2 ?_
      refine lv_lstore (lv' := [(8, .long (z4 - z4 / z6 * z6)), (4, .long z4), (6, .long z6)]) hx hb dX12_common_18 hl (by decide) rfl (fun ls hl => ?_)
      refine lv_lload hx hb dX12_common_20 (lv_at hl 2 rfl) ?_
      refine lv_lstore (lv' := [(4, .long z6), (8, .long (z4 - z4 / z6 * z6)), (6, .long z6)]) hx hb dX12_common_22 hl (by decide) rfl (fun ls hl => ?_)
      refine lv_lload hx hb dX12_common_24 (lv_at hl 1 rfl) ?_
      refine lv_lstore (lv' := [(6, .long (z4 - z4 / z6 * z6)), (4, .long z6), (8, .long (z4 - z4 / z6 * z6))]) hx hb dX12_common_26 hl (by decide) rfl (fun ls hl => ?_)
      refine lv_goto (tgt := 6) hx hb dX12_common_28 (by decide) ?_
      exact ih z6 (z4 - z4 / z6 * z6) h _ _ _ hP hD hS (lv_sub hl [1, 0] rfl)
set_option maxRecDepth 100000 in
set_option maxHeartbeats 8000000 in
theorem c_X12_common (l : Launch) (D : va_G) (G : hG) (w : va_W) (F : Nat) (x0 : Int64) (x2 : Int64) (res : Int64) (h : f_X12_common F x0 x2 = some res) : CT l yX12_common cX12_common 10 (some .long) rm_X12_common D G 0 0 [.long x0, .long x2] w w (some (.long res)) := by
  unfold f_X12_common at h
  refine CT.mk (cc := cX12_common) (maxL := 10) (ret := (some .long)) (own := RX12) (plainFor_of_name (by decide)) rfl (Nat.le_of_ble_eq_true rfl) ?_
  intro p e s m args below meth c A ls C0 hnm hA hP hD hl
  obtain ⟨hx, hb, hr, hml, hown, hts, hlocks, hK, hE⟩ := id C0
  have hS : va_S A s.heap s.heap [] := va_S.rf
  have hl : lv_has ls 10 [(0, .long x0), (2, .long x2)] := hl
  refine lv_lload_n hx hb dX12_common_0 rfl (lv_at hl 0 rfl) ?_
  refine lv_lstore (lv' := [(4, .long x0), (0, .long x0), (2, .long x2)]) hx hb dX12_common_1 hl (by decide) rfl (fun ls hl => ?_)
  refine lv_lload_n hx hb dX12_common_3 rfl (lv_at hl 2 rfl) ?_
  refine lv_lstore (lv' := [(6, .long x2), (4, .long x0), (0, .long x0), (2, .long x2)]) hx hb dX12_common_4 hl (by decide) rfl (fun ls hl => ?_)
  refine W_X12_common_L6 l D G w F x0 x2 res C0 hA F x0 x2 h _ _ _ hP hD hS (lv_sub hl [1, 0] rfl)
abbrev rm_X12_fraction : Room := { frames := 1, cells := 0, slots := 0, locals := 29 }
set_option maxRecDepth 100000 in
set_option maxHeartbeats 8000000 in
theorem c_X12_fraction (l : Launch) (D : va_G) (G : hG) (w : va_W) (F : Nat) (x0 : Int64) (x2 : Int64) (x4 : Int32) (res : Int64) (h : f_X12_fraction F x0 x2 x4 = some res) : CT l yX12_fraction cX12_fraction 7 (some .long) rm_X12_fraction D G 0 0 [.long x0, .long x2, .int x4] w w (some (.long res)) := by
  unfold f_X12_fraction at h
  refine CT.mk (cc := cX12_fraction) (maxL := 7) (ret := (some .long)) (own := RX12) (plainFor_of_name (by decide)) rfl (Nat.le_of_ble_eq_true rfl) ?_
  intro p e s m args below meth c A ls C0 hnm hA hP hD hl
  obtain ⟨hx, hb, hr, hml, hown, hts, hlocks, hK, hE⟩ := id C0
  have hS : va_S A s.heap s.heap [] := va_S.rf
  have hl : lv_has ls 7 [(0, .long x0), (2, .long x2), (4, .int x4)] := hl
  refine lv_lload_n hx hb dX12_fraction_0 rfl (lv_at hl 1 rfl) ?_
  refine lv_lload_n hx hb dX12_fraction_1 rfl (lv_at hl 0 rfl) ?_
  obtain ⟨q1, hq1, h⟩ := f_b h
  refine cl_S (w := w) (w' := w) (rv := some (.long q1)) (bytes := cX12_common) (maxL := 10) (ret := (some .long)) (As := [.long x2, .long x0]) (rest := []) (stk := [.long q1]) ⟨hx, hb, hml, hown, hts⟩ hK hE hA hP hD hS (c_X12_common l D G w F x2 x0 q1 hq1) (mkS hts wd_1775 wd_1776 wd_11 wd_1777 rfl rfl hd_X12_common ⟨Nat.le_of_ble_eq_true rfl, Nat.le_of_ble_eq_true rfl⟩) rfl hl.1 rfl (Nat.le_of_ble_eq_true rfl) dX12_fraction_2 ⟨Nat.zero_le _, Nat.zero_le _⟩ rfl (fun H locs hP hD hS => ?_)
  refine lv_lstore (lv' := [(5, .long q1), (0, .long x0), (2, .long x2), (4, .int x4)]) hx hb dX12_fraction_5 hl (by decide) rfl (fun ls hl => ?_)
  refine lv_iload hx hb dX12_fraction_7 (lv_at hl 3 rfl) ?_
  refine lv_if_ne (tgt := 16) hx hb dX12_fraction_9 (by decide) (fun c2 => ?_) (fun c2 => ?_)
  · skip
    have h := f_f c2 h
    refine lv_lload_n hx hb dX12_fraction_16 rfl (lv_at hl 2 rfl) ?_
    refine lv_lload hx hb dX12_fraction_17 (lv_at hl 0 rfl) ?_
    obtain ⟨c3, h⟩ := f_n h
    refine lv_ldiv hx hb dX12_fraction_19 c3 ?_
    obtain rfl := Option.some.inj h
    exact W.lret (v := (x2 / q1)) hx hb hr (q_end hK hP hD hS) hS.2.2 dX12_fraction_20
  · skip
    have h := f_t c2 h
    refine lv_lload_n hx hb dX12_fraction_12 rfl (lv_at hl 1 rfl) ?_
    refine lv_goto (tgt := 17) hx hb dX12_fraction_13 (by decide) ?_
    refine lv_lload hx hb dX12_fraction_17 (lv_at hl 0 rfl) ?_
    obtain ⟨c4, h⟩ := f_n h
    refine lv_ldiv hx hb dX12_fraction_19 c4 ?_
    obtain rfl := Option.some.inj h
    exact W.lret (v := (x0 / q1)) hx hb hr (q_end hK hP hD hS) hS.2.2 dX12_fraction_20
def rmG_Mw (d : Nat) : Room := { frames := 3 + d, cells := 0, slots := 0, locals := 80 + d * 26 }
set_option maxRecDepth 100000 in
set_option maxHeartbeats 8000000 in
theorem o_X12_isWon (l : Launch) (D : va_G) (G : hG) (Z : hZ) (Y : va_W) (F : Nat) (d : Nat) (u_X12_isWon : (hSt → Int32 → Int32 → Int32 → Int32 → Option (Int32 × hSt))) (hu_X12_isWon : ∀ (σ0 : hSt) (x1 : Int32) (x2 : Int32) (x3 : Int32) (x4 : Int32) (res : (Int32 × hSt)), u_X12_isWon σ0 x1 x2 x3 x4 = some res → CT l yX12_isWon cX12_isWon 7 (some .boolean) (rmG_Mw d) D G 0 0 [.ref (G.2.1 200), .int x1, .int x2, .int x3, .int x4] (mW G Z Y σ0) (mW G Z Y res.2) (some (.int res.1))) (σ0 : hSt) (x1 : Int32) (x2 : Int32) (x3 : Int32) (x4 : Int32) (res : (Int32 × hSt)) (h : b_X12_isWon F Z u_X12_isWon σ0 x1 x2 x3 x4 = some res) : CT l yX12_isWon cX12_isWon 7 (some .boolean) (rmG_Mw (d + 1)) D G 0 0 [.ref (G.2.1 200), .int x1, .int x2, .int x3, .int x4] (mW G Z Y σ0) (mW G Z Y res.2) (some (.int res.1)) := by
  unfold b_X12_isWon at h
  refine CT.mk (cc := cX12_isWon) (maxL := 7) (ret := (some .boolean)) (own := RX12) (plainFor_of_name (by decide)) rfl (Nat.le_of_ble_eq_true rfl) ?_
  intro p e s m args below meth c A ls C0 hnm hA hP hD hl
  obtain ⟨hx, hb, hr, hml, hown, hts, hlocks, hK, hE⟩ := id C0
  have hS : va_S A s.heap s.heap [] := va_S.rf
  have hl : lv_has ls 7 [(0, .ref (G.2.1 200)), (1, .int x1), (2, .int x2), (3, .int x3), (4, .int x4)] := hl
  refine lv_iload_n hx hb dX12_isWon_0 rfl (lv_at hl 3 rfl) ?_
  refine lv_aload_n hx hb dX12_isWon_1 rfl (lv_at hl 0 rfl) ?_
  refine va_get (D := D) (ci := 12) (v := .ref (G.2.1 204)) (C := RX12) (T := TX12) (N := 59) hx hb hts inU_X12 hown hK hP _ (mg_200 G Z Y σ0) rfl 12 (by decide) (hts _ wd_1260) (fun _ h9 => h9) rfl dX12_isWon_2 ?_
  refine lv_iload_n hx hb dX12_isWon_5 rfl (lv_at hl 1 rfl) ?_
  obtain ⟨c1, h⟩ := f_n h
  refine va_ialdE (v := (σ0.1 204 ((x1 : Int32).toNatClampNeg))) hx hb hK hP _ 0 (mg_204 G Z Y σ0) rfl c1 dX12_isWon_6 rfl ?_
  refine lv_icmp_ne (tgt := 18) hx hb dX12_isWon_7 (by decide) (fun c2 => ?_) (fun c2 => ?_)
  · skip
    have h := f_f c2 h
    refine lv_aload_n hx hb dX12_isWon_18 rfl (lv_at hl 0 rfl) ?_
    refine lv_iload_n hx hb dX12_isWon_19 rfl (lv_at hl 1 rfl) ?_
    refine lv_iload_n hx hb dX12_isWon_20 rfl (lv_at hl 2 rfl) ?_
    refine lv_iload_n hx hb dX12_isWon_21 rfl (lv_at hl 3 rfl) ?_
    refine lv_iconst (v := 1) hx hb dX12_isWon_22 (by decide) ?_
    refine lv_iadd hx hb dX12_isWon_23 ?_
    refine lv_iload hx hb dX12_isWon_24 (lv_at hl 4 rfl) ?_
    obtain ⟨q3, hq3, h⟩ := f_b h
    refine cl_V (w := (mW G Z Y σ0)) (w' := (mW G Z Y q3.2)) (rv := some (.int q3.1)) (bytes := cX12_isWon) (maxL := 7) (ret := (some .boolean)) (C := RX12) (As := [.int x1, .int x2, .int (x3 + (1 : Int32)), .int x4]) (rest := []) (stk := [.int q3.1]) ⟨hx, hb, hml, hown, hts⟩ hK hE hA hP hD hS (hu_X12_isWon σ0 x1 x2 (x3 + (1 : Int32)) x4 q3 hq3) (cwV 4 hts (gwV wd_1794 wd_1796 wp_96 wd_11 wd_1797) rfl rfl rfl hd_X12_isWon ⟨by show 3 + d + 1 ≤ 3 + (d + 1); omega, by show 8 + (7 + 11) + (80 + d * 26) ≤ 80 + (d + 1) * 26; omega⟩) (mg_200 G Z Y σ0) rfl rfl rfl hl.1 rfl (Nat.le_of_ble_eq_true rfl) dX12_isWon_26 ⟨Nat.zero_le _, Nat.zero_le _⟩ rfl (fun H locs hP hD hS => ?_)
    refine lv_istore (lv' := [(5, .int q3.1), (0, .ref (G.2.1 200)), (1, .int x1), (2, .int x2), (3, .int x3), (4, .int x4)]) hx hb dX12_isWon_29 hl (by decide) rfl (fun ls hl => ?_)
    refine lv_aload_n hx hb dX12_isWon_31 rfl (lv_at hl 1 rfl) ?_
    refine lv_iload_n hx hb dX12_isWon_32 rfl (lv_at hl 2 rfl) ?_
    refine lv_iload_n hx hb dX12_isWon_33 rfl (lv_at hl 3 rfl) ?_
    refine lv_iload_n hx hb dX12_isWon_34 rfl (lv_at hl 4 rfl) ?_
    refine lv_iconst (v := 1) hx hb dX12_isWon_35 (by decide) ?_
    refine lv_iadd hx hb dX12_isWon_36 ?_
    refine lv_iload hx hb dX12_isWon_37 (lv_at hl 5 rfl) ?_
    refine lv_iconst (v := 1) hx hb dX12_isWon_39 (by decide) ?_
    refine lv_iload_n hx hb dX12_isWon_40 rfl (lv_at hl 4 rfl) ?_
    refine lv_ishl hx hb dX12_isWon_41 ?_
    refine lv_ior hx hb dX12_isWon_42 ?_
    obtain ⟨q4, hq4, h⟩ := f_b h
    refine cl_V (w := (mW G Z Y q3.2)) (w' := (mW G Z Y q4.2)) (rv := some (.int q4.1)) (bytes := cX12_isWon) (maxL := 7) (ret := (some .boolean)) (C := RX12) (As := [.int x1, .int x2, .int (x3 + (1 : Int32)), .int (x4 ||| ((1 : Int32) <<< (x3 &&& 31)))]) (rest := []) (stk := [.int q4.1]) ⟨hx, hb, hml, hown, hts⟩ hK hE hA hP hD hS (hu_X12_isWon q3.2 x1 x2 (x3 + (1 : Int32)) (x4 ||| ((1 : Int32) <<< (x3 &&& 31))) q4 hq4) (cwV 4 hts (gwV wd_1794 wd_1796 wp_96 wd_11 wd_1797) rfl rfl rfl hd_X12_isWon ⟨by show 3 + d + 1 ≤ 3 + (d + 1); omega, by show 8 + (7 + 11) + (80 + d * 26) ≤ 80 + (d + 1) * 26; omega⟩) (mg_200 G Z Y q3.2) rfl rfl rfl hl.1 rfl (Nat.le_of_ble_eq_true rfl) dX12_isWon_43 ⟨Nat.zero_le _, Nat.zero_le _⟩ rfl (fun H locs hP hD hS => ?_)
    refine lv_istore (lv' := [(6, .int q4.1), (5, .int q3.1), (0, .ref (G.2.1 200)), (1, .int x1), (2, .int x2), (3, .int x3), (4, .int x4)]) hx hb dX12_isWon_46 hl (by decide) rfl (fun ls hl => ?_)
    refine lv_iload_n hx hb dX12_isWon_48 rfl (lv_at hl 4 rfl) ?_
    refine lv_iload_n hx hb dX12_isWon_49 rfl (lv_at hl 5 rfl) ?_
    refine lv_ishr hx hb dX12_isWon_50 ?_
    refine lv_iconst (v := 1) hx hb dX12_isWon_51 (by decide) ?_
    refine lv_iand hx hb dX12_isWon_52 ?_
    refine lv_iconst (v := 1) hx hb dX12_isWon_53 (by decide) ?_
    refine lv_icmp_ne (tgt := 75) hx hb dX12_isWon_54 (by decide) (fun c5 => ?_) (fun c5 => ?_)
    · skip
      have h := f_f c5 h
      refine lv_iload hx hb dX12_isWon_75 (lv_at hl 1 rfl) ?_
      refine lv_if_ne (tgt := 85) hx hb dX12_isWon_77 (by decide) (fun c6 => ?_) (fun c6 => ?_)
      · skip
        have h := f_f c6 h
        refine lv_iconst (v := 1) hx hb dX12_isWon_85 (by decide) ?_
        refine lv_goto (tgt := 90) hx hb dX12_isWon_86 (by decide) ?_
        obtain rfl := Option.some.inj h
        exact W.zret (v := (1 : Int32)) hx hb hr rfl (q_end hK hP hD hS) hS.2.2 dX12_isWon_90
      · skip
        have h := f_t c6 h
        refine lv_iload hx hb dX12_isWon_80 (lv_at hl 0 rfl) ?_
        refine lv_if_eq (tgt := 89) hx hb dX12_isWon_82 (by decide) (fun c7 => ?_) (fun c7 => ?_)
        · skip
          have h := f_t c7 h
          refine lv_iconst (v := 0) hx hb dX12_isWon_89 (by decide) ?_
          obtain rfl := Option.some.inj h
          exact W.zret (v := (0 : Int32)) hx hb hr rfl (q_end hK hP hD hS) hS.2.2 dX12_isWon_90
        · skip
          have h := f_f c7 h
          refine lv_iconst (v := 1) hx hb dX12_isWon_85 (by decide) ?_
          refine lv_goto (tgt := 90) hx hb dX12_isWon_86 (by decide) ?_
          obtain rfl := Option.some.inj h
          exact W.zret (v := (1 : Int32)) hx hb hr rfl (q_end hK hP hD hS) hS.2.2 dX12_isWon_90
    · skip
      have h := f_t c5 h
      refine lv_iload hx hb dX12_isWon_57 (lv_at hl 1 rfl) ?_
      refine lv_if_eq (tgt := 71) hx hb dX12_isWon_59 (by decide) (fun c8 => ?_) (fun c8 => ?_)
      · skip
        have h := f_t c8 h
        refine lv_iconst (v := 0) hx hb dX12_isWon_71 (by decide) ?_
        refine lv_goto (tgt := 90) hx hb dX12_isWon_72 (by decide) ?_
        obtain rfl := Option.some.inj h
        exact W.zret (v := (0 : Int32)) hx hb hr rfl (q_end hK hP hD hS) hS.2.2 dX12_isWon_90
      · skip
        have h := f_f c8 h
        refine lv_iload hx hb dX12_isWon_62 (lv_at hl 0 rfl) ?_
        refine lv_if_eq (tgt := 71) hx hb dX12_isWon_64 (by decide) (fun c9 => ?_) (fun c9 => ?_)
        · skip
          have h := f_t c9 h
          refine lv_iconst (v := 0) hx hb dX12_isWon_71 (by decide) ?_
          refine lv_goto (tgt := 90) hx hb dX12_isWon_72 (by decide) ?_
          obtain rfl := Option.some.inj h
          exact W.zret (v := (0 : Int32)) hx hb hr rfl (q_end hK hP hD hS) hS.2.2 dX12_isWon_90
        · skip
          have h := f_f c9 h
          refine lv_iconst (v := 1) hx hb dX12_isWon_67 (by decide) ?_
          refine lv_goto (tgt := 90) hx hb dX12_isWon_68 (by decide) ?_
          obtain rfl := Option.some.inj h
          exact W.zret (v := (1 : Int32)) hx hb hr rfl (q_end hK hP hD hS) hS.2.2 dX12_isWon_90
  · skip
    have h := f_t c2 h
    refine lv_aload_n hx hb dX12_isWon_10 rfl (lv_at hl 0 rfl) ?_
    refine lv_iload_n hx hb dX12_isWon_11 rfl (lv_at hl 1 rfl) ?_
    refine lv_iload hx hb dX12_isWon_12 (lv_at hl 4 rfl) ?_
    obtain ⟨q10, hq10, h⟩ := f_b h
    refine cl_V (w := (mW G Z Y σ0)) (w' := (mW G Z Y q10.2)) (rv := some (.int q10.1)) (bytes := cX12_isTrue) (maxL := 4) (ret := (some .boolean)) (C := RX12) (As := [.int x1, .int x4]) (rest := []) (stk := [.int q10.1]) ⟨hx, hb, hml, hown, hts⟩ hK hE hA hP hD hS (c_X12_isTrue l D G Z Y σ0 F x1 x4 q10 hq10) (cwV 2 hts (gwV wd_1522 wd_1524 wp_61 wd_11 wd_1525) rfl rfl rfl hd_X12_isTrue ⟨by show 2 + 1 ≤ 3 + (d + 1); omega, by show 8 + (4 + 11) + 57 ≤ 80 + (d + 1) * 26; omega⟩) (mg_200 G Z Y σ0) rfl rfl rfl hl.1 rfl (Nat.le_of_ble_eq_true rfl) dX12_isWon_14 ⟨Nat.zero_le _, Nat.zero_le _⟩ rfl (fun H locs hP hD hS => ?_)
    obtain ⟨c11, h⟩ := f_c h
    obtain rfl := Option.some.inj h
    exact W.zret (v := q10.1) hx hb hr (bn c11) (q_end hK hP hD hS) hS.2.2 dX12_isWon_17
set_option maxRecDepth 100000 in
set_option maxHeartbeats 8000000 in
theorem c_G_Mw (l : Launch) (D : va_G) (G : hG) (Z : hZ) (Y : va_W) (F : Nat) : ∀ d : Nat, (∀ (σ0 : hSt) (x1 : Int32) (x2 : Int32) (x3 : Int32) (x4 : Int32) (res : (Int32 × hSt)), (G_Mw F Z d) σ0 x1 x2 x3 x4 = some res → CT l yX12_isWon cX12_isWon 7 (some .boolean) (rmG_Mw d) D G 0 0 [.ref (G.2.1 200), .int x1, .int x2, .int x3, .int x4] (mW G Z Y σ0) (mW G Z Y res.2) (some (.int res.1))) := by
  intro d
  induction d with
  | zero =>
    exact fun σ0 x1 x2 x3 x4 res h => by
        have h1 : (none : Option (Int32 × hSt)) = some res := h
        cases h1
  | succ d ih =>
    have i_X12_isWon := ih
    exact fun σ0 x1 x2 x3 x4 res h => o_X12_isWon l D G Z Y F d _ i_X12_isWon σ0 x1 x2 x3 x4 res h
abbrev rm_X12_isWon : Room := rmG_Mw 8
theorem c_X12_isWon (l : Launch) (D : va_G) (G : hG) (Z : hZ) (Y : va_W) (σ0 : hSt) (F : Nat) (x1 : Int32) (x2 : Int32) (x3 : Int32) (x4 : Int32) (res : (Int32 × hSt)) (h : f_X12_isWon F Z σ0 x1 x2 x3 x4 = some res) : CT l yX12_isWon cX12_isWon 7 (some .boolean) rm_X12_isWon D G 0 0 [.ref (G.2.1 200), .int x1, .int x2, .int x3, .int x4] (mW G Z Y σ0) (mW G Z Y res.2) (some (.int res.1)) := (c_G_Mw l D G Z Y F 8) σ0 x1 x2 x3 x4 res h
abbrev rm_X12_won : Room := { frames := 12, cells := 0, slots := 0, locals := 314 }
set_option maxRecDepth 100000 in
set_option maxHeartbeats 8000000 in
theorem c_X12_won (l : Launch) (D : va_G) (G : hG) (Z : hZ) (Y : va_W) (σ0 : hSt) (F : Nat) (x1 : Int32) (x2 : Int32) (res : (Int32 × hSt)) (h : f_X12_won F Z σ0 x1 x2 = some res) : CT l yX12_won cX12_won 3 (some .int) rm_X12_won D G 0 0 [.ref (G.2.1 200), .int x1, .int x2] (mW G Z Y σ0) (mW G Z Y res.2) (some (.int res.1)) := by
  unfold f_X12_won at h
  refine CT.mk (cc := cX12_won) (maxL := 3) (ret := (some .int)) (own := RX12) (plainFor_of_name (by decide)) rfl (Nat.le_of_ble_eq_true rfl) ?_
  intro p e s m args below meth c A ls C0 hnm hA hP hD hl
  obtain ⟨hx, hb, hr, hml, hown, hts, hlocks, hK, hE⟩ := id C0
  have hS : va_S A s.heap s.heap [] := va_S.rf
  have hl : lv_has ls 3 [(0, .ref (G.2.1 200)), (1, .int x1), (2, .int x2)] := hl
  refine lv_aload_n hx hb dX12_won_0 rfl (lv_at hl 0 rfl) ?_
  refine lv_iconst (v := 0) hx hb dX12_won_1 (by decide) ?_
  refine va_put (D := D) (ci := 12) (v := .int (0 : Int32)) (ty := .int) (C := RX12) (T := TX12) (N := 59) hx hb hts inU_X12 tyX12 tyX12_ok nmX12 hown hK hP hD hS _ (mg_200 G Z Y σ0) rfl 0 (by decide) (hts _ wd_1248) (fun _ h9 => h9) rfl (by decide +kernel) rfl rfl (Nat.le_of_ble_eq_true rfl) dX12_won_2 (fun H locs hP hD hS => ?_)
  have hP := wrP (mp_200_0 G Z Y σ0 (0 : Int32)) hP
  have hD := wrD (mp_200_0 G Z Y σ0 (0 : Int32)) hD
  refine lv_aload_n hx hb dX12_won_5 rfl (lv_at hl 0 rfl) ?_
  refine lv_iload_n hx hb dX12_won_6 rfl (lv_at hl 1 rfl) ?_
  obtain ⟨q1, hq1, h⟩ := f_b h
  refine cl_V (w := (mW G Z Y (sI σ0 200 0 (0 : Int32)))) (w' := (mW G Z Y (sI σ0 200 0 (0 : Int32)))) (rv := some (.int q1)) (bytes := cX12_isSaying) (maxL := 2) (ret := (some .boolean)) (C := RX12) (As := [.int x1]) (rest := []) (stk := [.int q1]) ⟨hx, hb, hml, hown, hts⟩ hK hE hA hP hD hS (c_X12_isSaying l D G Z Y (sI σ0 200 0 (0 : Int32)) x1 q1 hq1) (cwV 1 hts (gwV wd_1493 wd_1495 wp_57 wd_11 wd_1496) rfl rfl rfl hd_X12_isSaying ⟨Nat.le_of_ble_eq_true rfl, Nat.le_of_ble_eq_true rfl⟩) (mg_200 G Z Y (sI σ0 200 0 (0 : Int32))) rfl rfl rfl hl.1 rfl (Nat.le_of_ble_eq_true rfl) dX12_won_7 ⟨Nat.zero_le _, Nat.zero_le _⟩ rfl (fun H locs hP hD hS => ?_)
  refine lv_if_eq (tgt := 25) hx hb dX12_won_10 (by decide) (fun c2 => ?_) (fun c2 => ?_)
  · skip
    have h := f_t c2 h
    refine lv_iconst (v := (-1)) hx hb dX12_won_25 (by decide) ?_
    refine lv_goto (tgt := 45) hx hb dX12_won_26 (by decide) ?_
    obtain rfl := Option.some.inj h
    exact W.iret (v := (-1 : Int32)) hx hb hr (q_end hK hP hD hS) hS.2.2 dX12_won_45
  · skip
    have h := f_f c2 h
    refine lv_iload_n hx hb dX12_won_13 rfl (lv_at hl 2 rfl) ?_
    refine lv_i2l (v := (x2 : Int32).toInt64) hx hb dX12_won_14 rfl ?_
    refine lv_lconst (v := 0) hx hb dX12_won_15 (by decide) ?_
    refine lv_ldc2 (v := 63) hx hb hown (hts _ wd_1521) dX12_won_16 ?_
    obtain ⟨q3, hq3, h⟩ := f_b h
    refine cl_S (w := (mW G Z Y (sI σ0 200 0 (0 : Int32)))) (w' := (mW G Z Y (sI σ0 200 0 (0 : Int32)))) (rv := some (.int q3)) (bytes := cX12_isIn) (maxL := 6) (ret := (some .boolean)) (As := [.long (x2 : Int32).toInt64, .long (0 : Int64), .long (63 : Int64)]) (rest := []) (stk := [.int q3]) ⟨hx, hb, hml, hown, hts⟩ hK hE hA hP hD hS (c_X12_isIn l D G (mW G Z Y (sI σ0 200 0 (0 : Int32))) ((x2 : Int32).toInt64) (0 : Int64) (63 : Int64) q3 hq3) (mkS hts wd_1498 wd_1499 wd_11 wd_1500 rfl rfl hd_X12_isIn ⟨Nat.le_of_ble_eq_true rfl, Nat.le_of_ble_eq_true rfl⟩) rfl hl.1 rfl (Nat.le_of_ble_eq_true rfl) dX12_won_19 ⟨Nat.zero_le _, Nat.zero_le _⟩ rfl (fun H locs hP hD hS => ?_)
    refine lv_if_ne (tgt := 29) hx hb dX12_won_22 (by decide) (fun c4 => ?_) (fun c4 => ?_)
    · skip
      have h := f_f c4 h
      refine lv_aload_n hx hb dX12_won_29 rfl (lv_at hl 0 rfl) ?_
      refine lv_iload_n hx hb dX12_won_30 rfl (lv_at hl 1 rfl) ?_
      refine lv_iload_n hx hb dX12_won_31 rfl (lv_at hl 2 rfl) ?_
      refine lv_iconst (v := 0) hx hb dX12_won_32 (by decide) ?_
      refine lv_iconst (v := 0) hx hb dX12_won_33 (by decide) ?_
      obtain ⟨q5, hq5, h⟩ := f_b h
      refine cl_V (w := (mW G Z Y (sI σ0 200 0 (0 : Int32)))) (w' := (mW G Z Y q5.2)) (rv := some (.int q5.1)) (bytes := cX12_isWon) (maxL := 7) (ret := (some .boolean)) (C := RX12) (As := [.int x1, .int x2, .int (0 : Int32), .int (0 : Int32)]) (rest := []) (stk := [.int q5.1]) ⟨hx, hb, hml, hown, hts⟩ hK hE hA hP hD hS (c_X12_isWon l D G Z Y (sI σ0 200 0 (0 : Int32)) F x1 x2 (0 : Int32) (0 : Int32) q5 hq5) (cwV 4 hts (gwV wd_1794 wd_1796 wp_96 wd_11 wd_1797) rfl rfl rfl hd_X12_isWon ⟨Nat.le_of_ble_eq_true rfl, Nat.le_of_ble_eq_true rfl⟩) (mg_200 G Z Y (sI σ0 200 0 (0 : Int32))) rfl rfl rfl hl.1 rfl (Nat.le_of_ble_eq_true rfl) dX12_won_34 ⟨Nat.zero_le _, Nat.zero_le _⟩ rfl (fun H locs hP hD hS => ?_)
      refine lv_if_eq (tgt := 44) hx hb dX12_won_37 (by decide) (fun c6 => ?_) (fun c6 => ?_)
      · skip
        have h := f_t c6 h
        refine lv_iconst (v := 0) hx hb dX12_won_44 (by decide) ?_
        obtain rfl := Option.some.inj h
        exact W.iret (v := (0 : Int32)) hx hb hr (q_end hK hP hD hS) hS.2.2 dX12_won_45
      · skip
        have h := f_f c6 h
        refine lv_iconst (v := 1) hx hb dX12_won_40 (by decide) ?_
        refine lv_goto (tgt := 45) hx hb dX12_won_41 (by decide) ?_
        obtain rfl := Option.some.inj h
        exact W.iret (v := (1 : Int32)) hx hb hr (q_end hK hP hD hS) hS.2.2 dX12_won_45
    · skip
      have h := f_t c4 h
      refine lv_iconst (v := (-1)) hx hb dX12_won_25 (by decide) ?_
      refine lv_goto (tgt := 45) hx hb dX12_won_26 (by decide) ?_
      obtain rfl := Option.some.inj h
      exact W.iret (v := (-1 : Int32)) hx hb hr (q_end hK hP hD hS) hS.2.2 dX12_won_45
def rmG_Mf (d : Nat) : Room := { frames := 2 + d, cells := 0, slots := 0, locals := 57 + d * 31 }
set_option maxRecDepth 100000 in
set_option maxHeartbeats 8000000 in
theorem o_X12_folded (l : Launch) (D : va_G) (G : hG) (Z : hZ) (Y : va_W) (F : Nat) (d : Nat) (u_X12_folded : (hSt → Int32 → Int32 → Int32 → Int64 → Option (Int64 × hSt))) (hu_X12_folded : ∀ (σ0 : hSt) (x1 : Int32) (x2 : Int32) (x3 : Int32) (x4 : Int64) (res : (Int64 × hSt)), u_X12_folded σ0 x1 x2 x3 x4 = some res → CT l yX12_folded cX12_folded 12 (some .long) (rmG_Mf d) D G 0 0 [.ref (G.2.1 200), .int x1, .int x2, .int x3, .long x4] (mW G Z Y σ0) (mW G Z Y res.2) (some (.long res.1))) (σ0 : hSt) (x1 : Int32) (x2 : Int32) (x3 : Int32) (x4 : Int64) (res : (Int64 × hSt)) (h : b_X12_folded F Z u_X12_folded σ0 x1 x2 x3 x4 = some res) : CT l yX12_folded cX12_folded 12 (some .long) (rmG_Mf (d + 1)) D G 0 0 [.ref (G.2.1 200), .int x1, .int x2, .int x3, .long x4] (mW G Z Y σ0) (mW G Z Y res.2) (some (.long res.1)) := by
  unfold b_X12_folded at h
  refine CT.mk (cc := cX12_folded) (maxL := 12) (ret := (some .long)) (own := RX12) (plainFor_of_name (by decide)) rfl (Nat.le_of_ble_eq_true rfl) ?_
  intro p e s m args below meth c A ls C0 hnm hA hP hD hl
  obtain ⟨hx, hb, hr, hml, hown, hts, hlocks, hK, hE⟩ := id C0
  have hS : va_S A s.heap s.heap [] := va_S.rf
  have hl : lv_has ls 12 [(0, .ref (G.2.1 200)), (1, .int x1), (2, .int x2), (3, .int x3), (4, .long x4)] := hl
  refine lv_iload_n hx hb dX12_folded_0 rfl (lv_at hl 3 rfl) ?_
  refine lv_aload_n hx hb dX12_folded_1 rfl (lv_at hl 0 rfl) ?_
  refine va_get (D := D) (ci := 12) (v := .ref (G.2.1 204)) (C := RX12) (T := TX12) (N := 59) hx hb hts inU_X12 hown hK hP _ (mg_200 G Z Y σ0) rfl 12 (by decide) (hts _ wd_1260) (fun _ h9 => h9) rfl dX12_folded_2 ?_
  refine lv_iload_n hx hb dX12_folded_5 rfl (lv_at hl 1 rfl) ?_
  obtain ⟨c1, h⟩ := f_n h
  refine va_ialdE (v := (σ0.1 204 ((x1 : Int32).toNatClampNeg))) hx hb hK hP _ 0 (mg_204 G Z Y σ0) rfl c1 dX12_folded_6 rfl ?_
  refine lv_icmp_lt (tgt := 18) hx hb dX12_folded_7 (by decide) (fun c2 => ?_) (fun c2 => ?_)
  · skip
    have h := f_t c2 h
    refine lv_aload_n hx hb dX12_folded_18 rfl (lv_at hl 0 rfl) ?_
    refine va_get (D := D) (ci := 12) (v := .ref (G.2.1 208)) (C := RX12) (T := TX12) (N := 59) hx hb hts inU_X12 hown hK hP _ (mg_200 G Z Y σ0) rfl 18 (by decide) (hts _ wd_1266) (fun _ h9 => h9) rfl dX12_folded_19 ?_
    refine lv_iload_n hx hb dX12_folded_22 rfl (lv_at hl 3 rfl) ?_
    refine lv_lconst (v := 0) hx hb dX12_folded_23 (by decide) ?_
    obtain ⟨c3, h⟩ := f_n h
    refine va_last hx hb hK hP hD hS _ 1 (mg_208 G Z Y σ0) rfl c3 dX12_folded_24 (fun H locs hP hD hS => ?_)
    have hP := wrP (mp_208 G Z Y σ0 _ _) hP
    have hD := wrD (mp_208 G Z Y σ0 _ _) hD
    refine lv_aload_n hx hb dX12_folded_25 rfl (lv_at hl 0 rfl) ?_
    refine lv_iload_n hx hb dX12_folded_26 rfl (lv_at hl 1 rfl) ?_
    refine lv_iload_n hx hb dX12_folded_27 rfl (lv_at hl 2 rfl) ?_
    refine lv_iload_n hx hb dX12_folded_28 rfl (lv_at hl 3 rfl) ?_
    refine lv_iconst (v := 1) hx hb dX12_folded_29 (by decide) ?_
    refine lv_iadd hx hb dX12_folded_30 ?_
    refine lv_lload hx hb dX12_folded_31 (lv_at hl 4 rfl) ?_
    obtain ⟨q4, hq4, h⟩ := f_b h
    refine cl_V (w := (mW G Z Y (sJ σ0 208 ((x3 : Int32).toNatClampNeg) (0 : Int64)))) (w' := (mW G Z Y q4.2)) (rv := some (.long q4.1)) (bytes := cX12_folded) (maxL := 12) (ret := (some .long)) (C := RX12) (As := [.int x1, .int x2, .int (x3 + (1 : Int32)), .long x4]) (rest := []) (stk := [.long q4.1]) ⟨hx, hb, hml, hown, hts⟩ hK hE hA hP hD hS (hu_X12_folded (sJ σ0 208 ((x3 : Int32).toNatClampNeg) (0 : Int64)) x1 x2 (x3 + (1 : Int32)) x4 q4 hq4) (cwV 4 hts (gwV wd_1802 wd_1804 wp_97 wd_11 wd_1805) rfl rfl rfl hd_X12_folded ⟨by show 2 + d + 1 ≤ 2 + (d + 1); omega, by show 8 + (12 + 11) + (57 + d * 31) ≤ 57 + (d + 1) * 31; omega⟩) (mg_200 G Z Y (sJ σ0 208 ((x3 : Int32).toNatClampNeg) (0 : Int64))) rfl rfl rfl hl.1 rfl (Nat.le_of_ble_eq_true rfl) dX12_folded_33 ⟨Nat.zero_le _, Nat.zero_le _⟩ rfl (fun H locs hP hD hS => ?_)
    refine lv_lstore (lv' := [(6, .long q4.1), (0, .ref (G.2.1 200)), (1, .int x1), (2, .int x2), (3, .int x3), (4, .long x4)]) hx hb dX12_folded_36 hl (by decide) rfl (fun ls hl => ?_)
    refine lv_aload_n hx hb dX12_folded_38 rfl (lv_at hl 1 rfl) ?_
    refine va_get (D := D) (ci := 12) (v := .ref (G.2.1 208)) (C := RX12) (T := TX12) (N := 59) hx hb hts inU_X12 hown hK hP _ (mg_200 G Z Y q4.2) rfl 18 (by decide) (hts _ wd_1266) (fun _ h9 => h9) rfl dX12_folded_39 ?_
    refine lv_iload_n hx hb dX12_folded_42 rfl (lv_at hl 4 rfl) ?_
    refine lv_lconst (v := 1) hx hb dX12_folded_43 (by decide) ?_
    obtain ⟨c5, h⟩ := f_n h
    refine va_last hx hb hK hP hD hS _ 1 (mg_208 G Z Y q4.2) rfl c5 dX12_folded_44 (fun H locs hP hD hS => ?_)
    have hP := wrP (mp_208 G Z Y q4.2 _ _) hP
    have hD := wrD (mp_208 G Z Y q4.2 _ _) hD
    refine lv_aload_n hx hb dX12_folded_45 rfl (lv_at hl 1 rfl) ?_
    refine lv_iload_n hx hb dX12_folded_46 rfl (lv_at hl 2 rfl) ?_
    refine lv_iload_n hx hb dX12_folded_47 rfl (lv_at hl 3 rfl) ?_
    refine lv_iload_n hx hb dX12_folded_48 rfl (lv_at hl 4 rfl) ?_
    refine lv_iconst (v := 1) hx hb dX12_folded_49 (by decide) ?_
    refine lv_iadd hx hb dX12_folded_50 ?_
    refine lv_lload hx hb dX12_folded_51 (lv_at hl 5 rfl) ?_
    obtain ⟨q6, hq6, h⟩ := f_b h
    refine cl_V (w := (mW G Z Y (sJ q4.2 208 ((x3 : Int32).toNatClampNeg) (1 : Int64)))) (w' := (mW G Z Y q6.2)) (rv := some (.long q6.1)) (bytes := cX12_folded) (maxL := 12) (ret := (some .long)) (C := RX12) (As := [.int x1, .int x2, .int (x3 + (1 : Int32)), .long x4]) (rest := []) (stk := [.long q6.1]) ⟨hx, hb, hml, hown, hts⟩ hK hE hA hP hD hS (hu_X12_folded (sJ q4.2 208 ((x3 : Int32).toNatClampNeg) (1 : Int64)) x1 x2 (x3 + (1 : Int32)) x4 q6 hq6) (cwV 4 hts (gwV wd_1802 wd_1804 wp_97 wd_11 wd_1805) rfl rfl rfl hd_X12_folded ⟨by show 2 + d + 1 ≤ 2 + (d + 1); omega, by show 8 + (12 + 11) + (57 + d * 31) ≤ 57 + (d + 1) * 31; omega⟩) (mg_200 G Z Y (sJ q4.2 208 ((x3 : Int32).toNatClampNeg) (1 : Int64))) rfl rfl rfl hl.1 rfl (Nat.le_of_ble_eq_true rfl) dX12_folded_53 ⟨Nat.zero_le _, Nat.zero_le _⟩ rfl (fun H locs hP hD hS => ?_)
    refine lv_lstore (lv' := [(8, .long q6.1), (6, .long q4.1), (0, .ref (G.2.1 200)), (1, .int x1), (2, .int x2), (3, .int x3), (4, .long x4)]) hx hb dX12_folded_56 hl (by decide) rfl (fun ls hl => ?_)
    refine lv_lload hx hb dX12_folded_58 (lv_at hl 1 rfl) ?_
    refine lv_lload hx hb dX12_folded_60 (lv_at hl 0 rfl) ?_
    refine lv_lmul hx hb dX12_folded_62 ?_
    refine lv_lload hx hb dX12_folded_63 (lv_at hl 6 rfl) ?_
    obtain ⟨c7, h⟩ := f_n h
    refine lv_lrem hx hb dX12_folded_65 c7 ?_
    refine lv_lstore (lv' := [(10, .long ((q4.1 * q6.1) - (q4.1 * q6.1) / x4 * x4)), (8, .long q6.1), (6, .long q4.1), (0, .ref (G.2.1 200)), (1, .int x1), (2, .int x2), (3, .int x3), (4, .long x4)]) hx hb dX12_folded_66 hl (by decide) rfl (fun ls hl => ?_)
    refine lv_iload_n hx hb dX12_folded_68 rfl (lv_at hl 5 rfl) ?_
    refine lv_iload_n hx hb dX12_folded_69 rfl (lv_at hl 6 rfl) ?_
    refine lv_ishr hx hb dX12_folded_70 ?_
    refine lv_iconst (v := 1) hx hb dX12_folded_71 (by decide) ?_
    refine lv_iand hx hb dX12_folded_72 ?_
    refine lv_iconst (v := 1) hx hb dX12_folded_73 (by decide) ?_
    refine lv_icmp_ne (tgt := 82) hx hb dX12_folded_74 (by decide) (fun c8 => ?_) (fun c8 => ?_)
    · skip
      have h := f_f c8 h
      refine lv_lload hx hb dX12_folded_82 (lv_at hl 2 rfl) ?_
      refine lv_lload hx hb dX12_folded_84 (lv_at hl 1 rfl) ?_
      refine lv_ladd hx hb dX12_folded_86 ?_
      refine lv_lload hx hb dX12_folded_87 (lv_at hl 0 rfl) ?_
      refine lv_lsub hx hb dX12_folded_89 ?_
      refine lv_lload hx hb dX12_folded_90 (lv_at hl 7 rfl) ?_
      obtain ⟨q9, hq9, h⟩ := f_b h
      refine cl_S (w := (mW G Z Y q6.2)) (w' := (mW G Z Y q6.2)) (rv := some (.long q9)) (bytes := cX12_rest) (maxL := 6) (ret := (some .long)) (As := [.long ((q4.1 + q6.1) - ((q4.1 * q6.1) - (q4.1 * q6.1) / x4 * x4)), .long x4]) (rest := []) (stk := [.long q9]) ⟨hx, hb, hml, hown, hts⟩ hK hE hA hP hD hS (c_X12_rest l D G (mW G Z Y q6.2) ((q4.1 + q6.1) - ((q4.1 * q6.1) - (q4.1 * q6.1) / x4 * x4)) x4 q9 hq9) (mkS hts wd_1514 wd_1515 wd_11 wd_1516 rfl rfl hd_X12_rest ⟨by show 0 + 1 ≤ 2 + (d + 1); omega, by show 8 + (6 + 11) + 0 ≤ 57 + (d + 1) * 31; omega⟩) rfl hl.1 rfl (Nat.le_of_ble_eq_true rfl) dX12_folded_92 ⟨Nat.zero_le _, Nat.zero_le _⟩ rfl (fun H locs hP hD hS => ?_)
      obtain rfl := Option.some.inj h
      exact W.lret (v := q9) hx hb hr (q_end hK hP hD hS) hS.2.2 dX12_folded_95
    · skip
      have h := f_t c8 h
      refine lv_lload hx hb dX12_folded_77 (lv_at hl 0 rfl) ?_
      refine lv_goto (tgt := 95) hx hb dX12_folded_79 (by decide) ?_
      obtain rfl := Option.some.inj h
      exact W.lret (v := ((q4.1 * q6.1) - (q4.1 * q6.1) / x4 * x4)) hx hb hr (q_end hK hP hD hS) hS.2.2 dX12_folded_95
  · skip
    have h := f_f c2 h
    refine lv_aload_n hx hb dX12_folded_10 rfl (lv_at hl 0 rfl) ?_
    refine lv_iload_n hx hb dX12_folded_11 rfl (lv_at hl 1 rfl) ?_
    refine lv_lload hx hb dX12_folded_12 (lv_at hl 4 rfl) ?_
    obtain ⟨q10, hq10, h⟩ := f_b h
    refine cl_V (w := (mW G Z Y σ0)) (w' := (mW G Z Y q10.2)) (rv := some (.long q10.1)) (bytes := cX12_worthAt) (maxL := 13) (ret := (some .long)) (C := RX12) (As := [.int x1, .long x4]) (rest := []) (stk := [.long q10.1]) ⟨hx, hb, hml, hown, hts⟩ hK hE hA hP hD hS (c_X12_worthAt l D G Z Y σ0 F x1 x4 q10 hq10) (cwV 2 hts (gwV wd_1510 wd_1512 wp_60 wd_11 wd_1513) rfl rfl rfl hd_X12_worthAt ⟨by show 1 + 1 ≤ 2 + (d + 1); omega, by show 8 + (13 + 11) + 25 ≤ 57 + (d + 1) * 31; omega⟩) (mg_200 G Z Y σ0) rfl rfl rfl hl.1 rfl (Nat.le_of_ble_eq_true rfl) dX12_folded_14 ⟨Nat.zero_le _, Nat.zero_le _⟩ rfl (fun H locs hP hD hS => ?_)
    obtain rfl := Option.some.inj h
    exact W.lret (v := q10.1) hx hb hr (q_end hK hP hD hS) hS.2.2 dX12_folded_17
set_option maxRecDepth 100000 in
set_option maxHeartbeats 8000000 in
theorem c_G_Mf (l : Launch) (D : va_G) (G : hG) (Z : hZ) (Y : va_W) (F : Nat) : ∀ d : Nat, (∀ (σ0 : hSt) (x1 : Int32) (x2 : Int32) (x3 : Int32) (x4 : Int64) (res : (Int64 × hSt)), (G_Mf F Z d) σ0 x1 x2 x3 x4 = some res → CT l yX12_folded cX12_folded 12 (some .long) (rmG_Mf d) D G 0 0 [.ref (G.2.1 200), .int x1, .int x2, .int x3, .long x4] (mW G Z Y σ0) (mW G Z Y res.2) (some (.long res.1))) := by
  intro d
  induction d with
  | zero =>
    exact fun σ0 x1 x2 x3 x4 res h => by
        have h1 : (none : Option (Int64 × hSt)) = some res := h
        cases h1
  | succ d ih =>
    have i_X12_folded := ih
    exact fun σ0 x1 x2 x3 x4 res h => o_X12_folded l D G Z Y F d _ i_X12_folded σ0 x1 x2 x3 x4 res h
abbrev rm_X12_folded : Room := rmG_Mf 8
theorem c_X12_folded (l : Launch) (D : va_G) (G : hG) (Z : hZ) (Y : va_W) (σ0 : hSt) (F : Nat) (x1 : Int32) (x2 : Int32) (x3 : Int32) (x4 : Int64) (res : (Int64 × hSt)) (h : f_X12_folded F Z σ0 x1 x2 x3 x4 = some res) : CT l yX12_folded cX12_folded 12 (some .long) rm_X12_folded D G 0 0 [.ref (G.2.1 200), .int x1, .int x2, .int x3, .long x4] (mW G Z Y σ0) (mW G Z Y res.2) (some (.long res.1)) := (c_G_Mf l D G Z Y F 8) σ0 x1 x2 x3 x4 res h
abbrev rm_X12_game : Room := { frames := 11, cells := 0, slots := 0, locals := 336 }
set_option maxRecDepth 100000 in
set_option maxHeartbeats 8000000 in
theorem c_X12_game (l : Launch) (D : va_G) (G : hG) (Z : hZ) (Y : va_W) (σ0 : hSt) (F : Nat) (x1 : Int32) (x2 : Int32) (x3 : Int32) (res : (Int32 × hSt)) (h : f_X12_game F Z σ0 x1 x2 x3 = some res) : CT l yX12_game cX12_game 4 (some .int) rm_X12_game D G 0 0 [.ref (G.2.1 200), .int x1, .int x2, .int x3] (mW G Z Y σ0) (mW G Z Y res.2) (some (.int res.1)) := by
  unfold f_X12_game at h
  refine CT.mk (cc := cX12_game) (maxL := 4) (ret := (some .int)) (own := RX12) (plainFor_of_name (by decide)) rfl (Nat.le_of_ble_eq_true rfl) ?_
  intro p e s m args below meth c A ls C0 hnm hA hP hD hl
  obtain ⟨hx, hb, hr, hml, hown, hts, hlocks, hK, hE⟩ := id C0
  have hS : va_S A s.heap s.heap [] := va_S.rf
  have hl : lv_has ls 4 [(0, .ref (G.2.1 200)), (1, .int x1), (2, .int x2), (3, .int x3)] := hl
  refine lv_aload_n hx hb dX12_game_0 rfl (lv_at hl 0 rfl) ?_
  refine lv_iconst (v := 0) hx hb dX12_game_1 (by decide) ?_
  refine va_put (D := D) (ci := 12) (v := .int (0 : Int32)) (ty := .int) (C := RX12) (T := TX12) (N := 59) hx hb hts inU_X12 tyX12 tyX12_ok nmX12 hown hK hP hD hS _ (mg_200 G Z Y σ0) rfl 0 (by decide) (hts _ wd_1248) (fun _ h9 => h9) rfl (by decide +kernel) rfl rfl (Nat.le_of_ble_eq_true rfl) dX12_game_2 (fun H locs hP hD hS => ?_)
  have hP := wrP (mp_200_0 G Z Y σ0 (0 : Int32)) hP
  have hD := wrD (mp_200_0 G Z Y σ0 (0 : Int32)) hD
  refine lv_aload_n hx hb dX12_game_5 rfl (lv_at hl 0 rfl) ?_
  refine lv_iload_n hx hb dX12_game_6 rfl (lv_at hl 1 rfl) ?_
  obtain ⟨q1, hq1, h⟩ := f_b h
  refine cl_V (w := (mW G Z Y (sI σ0 200 0 (0 : Int32)))) (w' := (mW G Z Y (sI σ0 200 0 (0 : Int32)))) (rv := some (.int q1)) (bytes := cX12_isSaying) (maxL := 2) (ret := (some .boolean)) (C := RX12) (As := [.int x1]) (rest := []) (stk := [.int q1]) ⟨hx, hb, hml, hown, hts⟩ hK hE hA hP hD hS (c_X12_isSaying l D G Z Y (sI σ0 200 0 (0 : Int32)) x1 q1 hq1) (cwV 1 hts (gwV wd_1493 wd_1495 wp_57 wd_11 wd_1496) rfl rfl rfl hd_X12_isSaying ⟨Nat.le_of_ble_eq_true rfl, Nat.le_of_ble_eq_true rfl⟩) (mg_200 G Z Y (sI σ0 200 0 (0 : Int32))) rfl rfl rfl hl.1 rfl (Nat.le_of_ble_eq_true rfl) dX12_game_7 ⟨Nat.zero_le _, Nat.zero_le _⟩ rfl (fun H locs hP hD hS => ?_)
  refine lv_if_eq (tgt := 32) hx hb dX12_game_10 (by decide) (fun c2 => ?_) (fun c2 => ?_)
  · skip
    have h := f_t c2 h
    refine lv_iconst (v := (-1)) hx hb dX12_game_32 (by decide) ?_
    obtain rfl := Option.some.inj h
    exact W.iret (v := (-1 : Int32)) hx hb hr (q_end hK hP hD hS) hS.2.2 dX12_game_33
  · skip
    have h := f_f c2 h
    refine lv_iload_n hx hb dX12_game_13 rfl (lv_at hl 2 rfl) ?_
    refine lv_i2l (v := (x2 : Int32).toInt64) hx hb dX12_game_14 rfl ?_
    refine lv_lconst (v := 0) hx hb dX12_game_15 (by decide) ?_
    refine lv_ldc2 (v := 63) hx hb hown (hts _ wd_1521) dX12_game_16 ?_
    obtain ⟨q3, hq3, h⟩ := f_b h
    refine cl_S (w := (mW G Z Y (sI σ0 200 0 (0 : Int32)))) (w' := (mW G Z Y (sI σ0 200 0 (0 : Int32)))) (rv := some (.int q3)) (bytes := cX12_isIn) (maxL := 6) (ret := (some .boolean)) (As := [.long (x2 : Int32).toInt64, .long (0 : Int64), .long (63 : Int64)]) (rest := []) (stk := [.int q3]) ⟨hx, hb, hml, hown, hts⟩ hK hE hA hP hD hS (c_X12_isIn l D G (mW G Z Y (sI σ0 200 0 (0 : Int32))) ((x2 : Int32).toInt64) (0 : Int64) (63 : Int64) q3 hq3) (mkS hts wd_1498 wd_1499 wd_11 wd_1500 rfl rfl hd_X12_isIn ⟨Nat.le_of_ble_eq_true rfl, Nat.le_of_ble_eq_true rfl⟩) rfl hl.1 rfl (Nat.le_of_ble_eq_true rfl) dX12_game_19 ⟨Nat.zero_le _, Nat.zero_le _⟩ rfl (fun H locs hP hD hS => ?_)
    refine lv_if_eq (tgt := 32) hx hb dX12_game_22 (by decide) (fun c4 => ?_) (fun c4 => ?_)
    · skip
      have h := f_t c4 h
      refine lv_iconst (v := (-1)) hx hb dX12_game_32 (by decide) ?_
      obtain rfl := Option.some.inj h
      exact W.iret (v := (-1 : Int32)) hx hb hr (q_end hK hP hD hS) hS.2.2 dX12_game_33
    · skip
      have h := f_f c4 h
      refine lv_iload_n hx hb dX12_game_25 rfl (lv_at hl 3 rfl) ?_
      obtain ⟨q5, hq5, h⟩ := f_b h
      refine cl_S (w := (mW G Z Y (sI σ0 200 0 (0 : Int32)))) (w' := (mW G Z Y (sI σ0 200 0 (0 : Int32)))) (rv := some (.int q5)) (bytes := cX12_isRing) (maxL := 1) (ret := (some .boolean)) (As := [.int x3]) (rest := []) (stk := [.int q5]) ⟨hx, hb, hml, hown, hts⟩ hK hE hA hP hD hS (c_X12_isRing l D G (mW G Z Y (sI σ0 200 0 (0 : Int32))) F x3 q5 hq5) (mkS hts wd_1546 wd_1547 wd_11 wd_1548 rfl rfl hd_X12_isRing ⟨Nat.le_of_ble_eq_true rfl, Nat.le_of_ble_eq_true rfl⟩) rfl hl.1 rfl (Nat.le_of_ble_eq_true rfl) dX12_game_26 ⟨Nat.zero_le _, Nat.zero_le _⟩ rfl (fun H locs hP hD hS => ?_)
      refine lv_if_ne (tgt := 34) hx hb dX12_game_29 (by decide) (fun c6 => ?_) (fun c6 => ?_)
      · skip
        have h := f_f c6 h
        refine lv_aload_n hx hb dX12_game_34 rfl (lv_at hl 0 rfl) ?_
        refine lv_iload_n hx hb dX12_game_35 rfl (lv_at hl 3 rfl) ?_
        obtain ⟨q7, hq7, h⟩ := f_b h
        refine cl_V (w := (mW G Z Y (sI σ0 200 0 (0 : Int32)))) (w' := (mW G Z Y q7.2)) (rv := none) (bytes := cX12_layPoint) (maxL := 3) (ret := none) (C := RX12) (As := [.int x3]) (rest := []) (stk := []) ⟨hx, hb, hml, hown, hts⟩ hK hE hA hP hD hS (c_X12_layPoint l D G Z Y (sI σ0 200 0 (0 : Int32)) F x3 q7 hq7) (cwV 1 hts (gwV wd_1550 wd_1552 wp_62 wd_11 wd_1553) rfl rfl rfl hd_X12_layPoint ⟨Nat.le_of_ble_eq_true rfl, Nat.le_of_ble_eq_true rfl⟩) (mg_200 G Z Y (sI σ0 200 0 (0 : Int32))) rfl rfl rfl hl.1 rfl (Nat.le_of_ble_eq_true rfl) dX12_game_36 ⟨Nat.zero_le _, Nat.zero_le _⟩ rfl (fun H locs hP hD hS => ?_)
        refine lv_aload_n hx hb dX12_game_39 rfl (lv_at hl 0 rfl) ?_
        refine lv_iload_n hx hb dX12_game_40 rfl (lv_at hl 1 rfl) ?_
        refine lv_iload_n hx hb dX12_game_41 rfl (lv_at hl 2 rfl) ?_
        refine lv_aload_n hx hb dX12_game_42 rfl (lv_at hl 0 rfl) ?_
        refine va_get (D := D) (ci := 12) (v := .int (q7.2.1 200 20)) (C := RX12) (T := TX12) (N := 59) hx hb hts inU_X12 hown hK hP _ (mg_200 G Z Y q7.2) rfl 20 (by decide) (hts _ wd_1268) (fun _ h9 => h9) rfl dX12_game_43 ?_
        refine lv_iload_n hx hb dX12_game_46 rfl (lv_at hl 3 rfl) ?_
        refine lv_i2l (v := (x3 : Int32).toInt64) hx hb dX12_game_47 rfl ?_
        obtain ⟨q8, hq8, h⟩ := f_b h
        refine cl_V (w := (mW G Z Y q7.2)) (w' := (mW G Z Y q8.2)) (rv := some (.long q8.1)) (bytes := cX12_folded) (maxL := 12) (ret := (some .long)) (C := RX12) (As := [.int x1, .int x2, .int (q7.2.1 200 20), .long (x3 : Int32).toInt64]) (rest := []) (stk := [.long q8.1]) ⟨hx, hb, hml, hown, hts⟩ hK hE hA hP hD hS (c_X12_folded l D G Z Y q7.2 F x1 x2 (q7.2.1 200 20) ((x3 : Int32).toInt64) q8 hq8) (cwV 4 hts (gwV wd_1802 wd_1804 wp_97 wd_11 wd_1805) rfl rfl rfl hd_X12_folded ⟨Nat.le_of_ble_eq_true rfl, Nat.le_of_ble_eq_true rfl⟩) (mg_200 G Z Y q7.2) rfl rfl rfl hl.1 rfl (Nat.le_of_ble_eq_true rfl) dX12_game_48 ⟨Nat.zero_le _, Nat.zero_le _⟩ rfl (fun H locs hP hD hS => ?_)
        refine lv_l2i (v := (q8.1 : Int64).toInt32) hx hb dX12_game_51 rfl ?_
        obtain rfl := Option.some.inj h
        exact W.iret (v := (q8.1 : Int64).toInt32) hx hb hr (q_end hK hP hD hS) hS.2.2 dX12_game_52
      · skip
        have h := f_t c6 h
        refine lv_iconst (v := (-1)) hx hb dX12_game_32 (by decide) ?_
        obtain rfl := Option.some.inj h
        exact W.iret (v := (-1 : Int32)) hx hb hr (q_end hK hP hD hS) hS.2.2 dX12_game_33
abbrev rm_X12_steep : Room := { frames := 1, cells := 0, slots := 0, locals := 30 }
set_option maxRecDepth 100000 in
set_option maxHeartbeats 8000000 in
theorem W_X12_steep_L71 {p : Program} {e : Env} {s : State} {m : MethodId} {args : Array Value} {below : List Frame} {meth : Method} {c : Code} {A : Nat → Prop} (l : Launch) (D : va_G) (G : hG) (Z : hZ) (Y : va_W) (σ0 : hSt) (F : Nat) (x1 : Int32) (x2 : Int32) (x3 : Int32) (x4 : Int32) (σ1 : hSt) (y1 : Int32) (y4 : Int32) (res : (Int32 × hSt)) (C0 : Cx p s m args meth c cX12_steep (some .int) RX12 7 D G A) (hA : ∀ q : Nat, s.heap.size ≤ q → A q) : ∀ (n : Nat) (z5 : Int32) (z6 : Int32), f_X12_steep_L71 σ1 y1 y4 n z5 z6 = some res → ∀ (H : Heap) (locs : List Loc) (ls : Array Slot), va_P D vwCl (mW G Z Y σ1) H → va_D A (mW G Z Y σ1) → va_S A s.heap H locs → lv_has ls 7 [(0, .ref (G.2.1 200)), (1, .int y1), (4, .int y4), (5, .int z5), (6, .int z6)] → W p l e rm_X12_steep s m args below meth c H locs 0 0 (MQ below (Qg (some (.int res.1)) D (tysG G) (mW G Z Y res.2) A) args s 0 0 A) (F0 m 71 ls []) := by
  obtain ⟨hx, hb, hr, hml, hown, hts, hlocks, hK, hE⟩ := id C0
  intro n
  induction n with
  | zero =>
    intro z5 z6 h
    cases h
  | succ n ih =>
    intro z5 z6 h H locs ls hP hD hS hl
    rw [f_X12_steep_L71] at h
    refine lv_iload hx hb dX12_steep_71 (lv_at hl 4 rfl) ?_
    refine lv_aload_n hx hb dX12_steep_73 rfl (lv_at hl 0 rfl) ?_
    refine va_get (D := D) (ci := 12) (v := .ref (G.2.1 204)) (C := RX12) (T := TX12) (N := 59) hx hb hts inU_X12 hown hK hP _ (mg_200 G Z Y σ1) rfl 12 (by decide) (hts _ wd_1260) (fun _ h9 => h9) rfl dX12_steep_74 ?_
    refine lv_iload_n hx hb dX12_steep_77 rfl (lv_at hl 1 rfl) ?_
    obtain ⟨c10, h⟩ := f_n h
    refine va_ialdE (v := (σ1.1 204 ((y1 : Int32).toNatClampNeg))) hx hb hK hP _ 0 (mg_204 G Z Y σ1) rfl c10 dX12_steep_78 rfl ?_
    refine lv_icmp_ge (tgt := 112) hx hb dX12_steep_79 (by decide) (fun c11 => ?_) (fun c11 => ?_)
    · skip
      have h := f_t c11 h
      refine lv_iload hx hb dX12_steep_112 (lv_at hl 3 rfl) ?_
      obtain rfl := Option.some.inj h
      exact W.iret (v := z5) hx hb hr (q_end hK hP hD hS) hS.2.2 dX12_steep_114
    · skip
      have h := f_f c11 h
      refine lv_iload hx hb dX12_steep_82 (lv_at hl 2 rfl) ?_
      refine lv_if_ne (tgt := 94) hx hb dX12_steep_84 (by decide) (fun c12 => ?_) (fun c12 => ?_)
      · skip
        have h := f_f c12 h
        refine lv_iload hx hb dX12_steep_94 (lv_at hl 3 rfl) ?_
        refine lv_if_ne (tgt := 103) hx hb dX12_steep_96 (by decide) (fun c13 => ?_) (fun c13 => ?_)
        · skip
          have h := f_f c13 h
          refine lv_iconst (v := 2) hx hb dX12_steep_103 (by decide) ?_
          refine lv_istore (lv' := [(5, .int (2 : Int32)), (0, .ref (G.2.1 200)), (1, .int y1), (4, .int y4), (6, .int z6)]) hx hb dX12_steep_104 hl (by decide) rfl (fun ls hl => ?_)
          refine lv_iinc (v := (z6 + 1)) (lv' := [(6, .int (z6 + 1)), (5, .int (2 : Int32)), (0, .ref (G.2.1 200)), (1, .int y1), (4, .int y4)]) hx hb dX12_steep_106 hl (k := 4) rfl rfl (by decide) rfl (fun ls hl => ?_)
          refine lv_goto (tgt := 71) hx hb dX12_steep_109 (by decide) ?_
          exact ih (2 : Int32) (z6 + 1) h _ _ _ hP hD hS (lv_sub hl [2, 3, 4, 1, 0] rfl)
        · skip
          have h := f_t c13 h
          refine lv_iconst (v := 0) hx hb dX12_steep_99 (by decide) ?_
          refine lv_goto (tgt := 104) hx hb dX12_steep_100 (by decide) ?_
          refine lv_istore (lv' := [(5, .int (0 : Int32)), (0, .ref (G.2.1 200)), (1, .int y1), (4, .int y4), (6, .int z6)]) hx hb dX12_steep_104 hl (by decide) rfl (fun ls hl => ?_)
          refine lv_iinc (v := (z6 + 1)) (lv' := [(6, .int (z6 + 1)), (5, .int (0 : Int32)), (0, .ref (G.2.1 200)), (1, .int y1), (4, .int y4)]) hx hb dX12_steep_106 hl (k := 4) rfl rfl (by decide) rfl (fun ls hl => ?_)
          refine lv_goto (tgt := 71) hx hb dX12_steep_109 (by decide) ?_
          exact ih (0 : Int32) (z6 + 1) h _ _ _ hP hD hS (lv_sub hl [2, 3, 4, 1, 0] rfl)
      · skip
        have h := f_t c12 h
        refine lv_iconst (v := 2) hx hb dX12_steep_87 (by decide) ?_
        refine lv_iload hx hb dX12_steep_88 (lv_at hl 3 rfl) ?_
        refine lv_imul hx hb dX12_steep_90 ?_
        refine lv_goto (tgt := 104) hx hb dX12_steep_91 (by decide) ?_
        refine lv_istore (lv' := [(5, .int ((2 : Int32) * z5)), (0, .ref (G.2.1 200)), (1, .int y1), (4, .int y4), (6, .int z6)]) hx hb dX12_steep_104 hl (by decide) rfl (fun ls hl => ?_)
        refine lv_iinc (v := (z6 + 1)) (lv' := [(6, .int (z6 + 1)), (5, .int ((2 : Int32) * z5)), (0, .ref (G.2.1 200)), (1, .int y1), (4, .int y4)]) hx hb dX12_steep_106 hl (k := 4) rfl rfl (by decide) rfl (fun ls hl => ?_)
        refine lv_goto (tgt := 71) hx hb dX12_steep_109 (by decide) ?_
        exact ih ((2 : Int32) * z5) (z6 + 1) h _ _ _ hP hD hS (lv_sub hl [2, 3, 4, 1, 0] rfl)
set_option maxRecDepth 100000 in
set_option maxHeartbeats 8000000 in
theorem c_X12_steep (l : Launch) (D : va_G) (G : hG) (Z : hZ) (Y : va_W) (σ0 : hSt) (F : Nat) (x1 : Int32) (x2 : Int32) (x3 : Int32) (x4 : Int32) (res : (Int32 × hSt)) (h : f_X12_steep F Z σ0 x1 x2 x3 x4 = some res) : CT l yX12_steep cX12_steep 7 (some .int) rm_X12_steep D G 0 0 [.ref (G.2.1 200), .int x1, .int x2, .int x3, .int x4] (mW G Z Y σ0) (mW G Z Y res.2) (some (.int res.1)) := by
  unfold f_X12_steep at h
  refine CT.mk (cc := cX12_steep) (maxL := 7) (ret := (some .int)) (own := RX12) (plainFor_of_name (by decide)) rfl (Nat.le_of_ble_eq_true rfl) ?_
  intro p e s m args below meth c A ls C0 hnm hA hP hD hl
  obtain ⟨hx, hb, hr, hml, hown, hts, hlocks, hK, hE⟩ := id C0
  have hS : va_S A s.heap s.heap [] := va_S.rf
  have hl : lv_has ls 7 [(0, .ref (G.2.1 200)), (1, .int x1), (2, .int x2), (3, .int x3), (4, .int x4)] := hl
  refine lv_aload_n hx hb dX12_steep_0 rfl (lv_at hl 0 rfl) ?_
  refine lv_iconst (v := 0) hx hb dX12_steep_1 (by decide) ?_
  refine va_put (D := D) (ci := 12) (v := .int (0 : Int32)) (ty := .int) (C := RX12) (T := TX12) (N := 59) hx hb hts inU_X12 tyX12 tyX12_ok nmX12 hown hK hP hD hS _ (mg_200 G Z Y σ0) rfl 0 (by decide) (hts _ wd_1248) (fun _ h9 => h9) rfl (by decide +kernel) rfl rfl (Nat.le_of_ble_eq_true rfl) dX12_steep_2 (fun H locs hP hD hS => ?_)
  have hP := wrP (mp_200_0 G Z Y σ0 (0 : Int32)) hP
  have hD := wrD (mp_200_0 G Z Y σ0 (0 : Int32)) hD
  refine lv_aload_n hx hb dX12_steep_5 rfl (lv_at hl 0 rfl) ?_
  refine lv_iload_n hx hb dX12_steep_6 rfl (lv_at hl 1 rfl) ?_
  obtain ⟨q1, hq1, h⟩ := f_b h
  refine cl_V (w := (mW G Z Y (sI σ0 200 0 (0 : Int32)))) (w' := (mW G Z Y (sI σ0 200 0 (0 : Int32)))) (rv := some (.int q1)) (bytes := cX12_isSaying) (maxL := 2) (ret := (some .boolean)) (C := RX12) (As := [.int x1]) (rest := []) (stk := [.int q1]) ⟨hx, hb, hml, hown, hts⟩ hK hE hA hP hD hS (c_X12_isSaying l D G Z Y (sI σ0 200 0 (0 : Int32)) x1 q1 hq1) (cwV 1 hts (gwV wd_1493 wd_1495 wp_57 wd_11 wd_1496) rfl rfl rfl hd_X12_isSaying ⟨Nat.le_of_ble_eq_true rfl, Nat.le_of_ble_eq_true rfl⟩) (mg_200 G Z Y (sI σ0 200 0 (0 : Int32))) rfl rfl rfl hl.1 rfl (Nat.le_of_ble_eq_true rfl) dX12_steep_7 ⟨Nat.zero_le _, Nat.zero_le _⟩ rfl (fun H locs hP hD hS => ?_)
  refine lv_if_eq (tgt := 47) hx hb dX12_steep_10 (by decide) (fun c2 => ?_) (fun c2 => ?_)
  · skip
    have h := f_t c2 h
    refine lv_iconst (v := (-1)) hx hb dX12_steep_47 (by decide) ?_
    obtain rfl := Option.some.inj h
    exact W.iret (v := (-1 : Int32)) hx hb hr (q_end hK hP hD hS) hS.2.2 dX12_steep_48
  · skip
    have h := f_f c2 h
    refine lv_iload_n hx hb dX12_steep_13 rfl (lv_at hl 2 rfl) ?_
    refine lv_i2l (v := (x2 : Int32).toInt64) hx hb dX12_steep_14 rfl ?_
    refine lv_lconst (v := 0) hx hb dX12_steep_15 (by decide) ?_
    refine lv_aload_n hx hb dX12_steep_16 rfl (lv_at hl 0 rfl) ?_
    refine va_get (D := D) (ci := 12) (v := .ref (G.2.1 204)) (C := RX12) (T := TX12) (N := 59) hx hb hts inU_X12 hown hK hP _ (mg_200 G Z Y (sI σ0 200 0 (0 : Int32))) rfl 12 (by decide) (hts _ wd_1260) (fun _ h9 => h9) rfl dX12_steep_17 ?_
    refine lv_iload_n hx hb dX12_steep_20 rfl (lv_at hl 1 rfl) ?_
    obtain ⟨c3, h⟩ := f_n h
    refine va_ialdE (v := (σ0.1 204 ((x1 : Int32).toNatClampNeg))) hx hb hK hP _ 0 (mg_204 G Z Y (sI σ0 200 0 (0 : Int32))) rfl c3 dX12_steep_21 rfl ?_
    refine lv_iconst (v := 1) hx hb dX12_steep_22 (by decide) ?_
    refine lv_isub hx hb dX12_steep_23 ?_
    refine lv_i2l (v := (((σ0.1 204 ((x1 : Int32).toNatClampNeg)) - (1 : Int32)) : Int32).toInt64) hx hb dX12_steep_24 rfl ?_
    obtain ⟨q4, hq4, h⟩ := f_b h
    refine cl_S (w := (mW G Z Y (sI σ0 200 0 (0 : Int32)))) (w' := (mW G Z Y (sI σ0 200 0 (0 : Int32)))) (rv := some (.int q4)) (bytes := cX12_isIn) (maxL := 6) (ret := (some .boolean)) (As := [.long (x2 : Int32).toInt64, .long (0 : Int64), .long (((σ0.1 204 ((x1 : Int32).toNatClampNeg)) - (1 : Int32)) : Int32).toInt64]) (rest := []) (stk := [.int q4]) ⟨hx, hb, hml, hown, hts⟩ hK hE hA hP hD hS (c_X12_isIn l D G (mW G Z Y (sI σ0 200 0 (0 : Int32))) ((x2 : Int32).toInt64) (0 : Int64) ((((σ0.1 204 ((x1 : Int32).toNatClampNeg)) - (1 : Int32)) : Int32).toInt64) q4 hq4) (mkS hts wd_1498 wd_1499 wd_11 wd_1500 rfl rfl hd_X12_isIn ⟨Nat.le_of_ble_eq_true rfl, Nat.le_of_ble_eq_true rfl⟩) rfl hl.1 rfl (Nat.le_of_ble_eq_true rfl) dX12_steep_25 ⟨Nat.zero_le _, Nat.zero_le _⟩ rfl (fun H locs hP hD hS => ?_)
    refine lv_if_eq (tgt := 47) hx hb dX12_steep_28 (by decide) (fun c5 => ?_) (fun c5 => ?_)
    · skip
      have h := f_t c5 h
      refine lv_iconst (v := (-1)) hx hb dX12_steep_47 (by decide) ?_
      obtain rfl := Option.some.inj h
      exact W.iret (v := (-1 : Int32)) hx hb hr (q_end hK hP hD hS) hS.2.2 dX12_steep_48
    · skip
      have h := f_f c5 h
      refine lv_iload_n hx hb dX12_steep_31 rfl (lv_at hl 3 rfl) ?_
      refine lv_i2l (v := (x3 : Int32).toInt64) hx hb dX12_steep_32 rfl ?_
      refine lv_lconst (v := 0) hx hb dX12_steep_33 (by decide) ?_
      refine lv_aload_n hx hb dX12_steep_34 rfl (lv_at hl 0 rfl) ?_
      refine va_get (D := D) (ci := 12) (v := .ref (G.2.1 204)) (C := RX12) (T := TX12) (N := 59) hx hb hts inU_X12 hown hK hP _ (mg_200 G Z Y (sI σ0 200 0 (0 : Int32))) rfl 12 (by decide) (hts _ wd_1260) (fun _ h9 => h9) rfl dX12_steep_35 ?_
      refine lv_iload_n hx hb dX12_steep_38 rfl (lv_at hl 1 rfl) ?_
      obtain ⟨c6, h⟩ := f_n h
      refine va_ialdE (v := (σ0.1 204 ((x1 : Int32).toNatClampNeg))) hx hb hK hP _ 0 (mg_204 G Z Y (sI σ0 200 0 (0 : Int32))) rfl c6 dX12_steep_39 rfl ?_
      refine lv_i2l (v := ((σ0.1 204 ((x1 : Int32).toNatClampNeg)) : Int32).toInt64) hx hb dX12_steep_40 rfl ?_
      obtain ⟨q7, hq7, h⟩ := f_b h
      refine cl_S (w := (mW G Z Y (sI σ0 200 0 (0 : Int32)))) (w' := (mW G Z Y (sI σ0 200 0 (0 : Int32)))) (rv := some (.int q7)) (bytes := cX12_isIn) (maxL := 6) (ret := (some .boolean)) (As := [.long (x3 : Int32).toInt64, .long (0 : Int64), .long ((σ0.1 204 ((x1 : Int32).toNatClampNeg)) : Int32).toInt64]) (rest := []) (stk := [.int q7]) ⟨hx, hb, hml, hown, hts⟩ hK hE hA hP hD hS (c_X12_isIn l D G (mW G Z Y (sI σ0 200 0 (0 : Int32))) ((x3 : Int32).toInt64) (0 : Int64) (((σ0.1 204 ((x1 : Int32).toNatClampNeg)) : Int32).toInt64) q7 hq7) (mkS hts wd_1498 wd_1499 wd_11 wd_1500 rfl rfl hd_X12_isIn ⟨Nat.le_of_ble_eq_true rfl, Nat.le_of_ble_eq_true rfl⟩) rfl hl.1 rfl (Nat.le_of_ble_eq_true rfl) dX12_steep_41 ⟨Nat.zero_le _, Nat.zero_le _⟩ rfl (fun H locs hP hD hS => ?_)
      refine lv_if_ne (tgt := 49) hx hb dX12_steep_44 (by decide) (fun c8 => ?_) (fun c8 => ?_)
      · skip
        have h := f_f c8 h
        refine lv_aload_n hx hb dX12_steep_49 rfl (lv_at hl 0 rfl) ?_
        refine va_get (D := D) (ci := 12) (v := .ref (G.2.1 205)) (C := RX12) (T := TX12) (N := 59) hx hb hts inU_X12 hown hK hP _ (mg_200 G Z Y (sI σ0 200 0 (0 : Int32))) rfl 13 (by decide) (hts _ wd_1261) (fun _ h9 => h9) rfl dX12_steep_50 ?_
        refine lv_bipush (v := 6) hx hb dX12_steep_53 (by decide) ?_
        refine lv_iload_n hx hb dX12_steep_55 rfl (lv_at hl 1 rfl) ?_
        refine lv_imul hx hb dX12_steep_56 ?_
        refine lv_iload_n hx hb dX12_steep_57 rfl (lv_at hl 2 rfl) ?_
        refine lv_iadd hx hb dX12_steep_58 ?_
        obtain ⟨c9, h⟩ := f_n h
        refine va_ialdE (v := (σ0.1 205 (((((6 : Int32) * x1) + x2) : Int32).toNatClampNeg))) hx hb hK hP _ 0 (mg_205 G Z Y (sI σ0 200 0 (0 : Int32))) rfl c9 dX12_steep_59 rfl ?_
        refine lv_istore (lv' := [(5, .int (σ0.1 205 (((((6 : Int32) * x1) + x2) : Int32).toNatClampNeg))), (0, .ref (G.2.1 200)), (1, .int x1), (2, .int x2), (3, .int x3), (4, .int x4)]) hx hb dX12_steep_60 hl (by decide) rfl (fun ls hl => ?_)
        refine lv_iload_n hx hb dX12_steep_62 rfl (lv_at hl 3 rfl) ?_
        refine lv_iconst (v := 1) hx hb dX12_steep_63 (by decide) ?_
        refine lv_iadd hx hb dX12_steep_64 ?_
        refine lv_iload_n hx hb dX12_steep_65 rfl (lv_at hl 4 rfl) ?_
        refine va_mmax hx hb (hml.trans hl.1.symm) hown (hts _ wd_1476) (hts _ wd_328) (hts _ wd_12) (hts _ wd_329) (Nat.le_of_ble_eq_true rfl) (Nat.le_of_ble_eq_true rfl) (Nat.zero_le _) (Nat.zero_le _) dX12_steep_66 ?_
        refine lv_istore (lv' := [(6, .int (if (x2 + (1 : Int32)) < x3 then x3 else (x2 + (1 : Int32)))), (5, .int (σ0.1 205 (((((6 : Int32) * x1) + x2) : Int32).toNatClampNeg))), (0, .ref (G.2.1 200)), (1, .int x1), (2, .int x2), (3, .int x3), (4, .int x4)]) hx hb dX12_steep_69 hl (by decide) rfl (fun ls hl => ?_)
        refine W_X12_steep_L71 l D G Z Y σ0 F x1 x2 x3 x4 (sI σ0 200 0 (0 : Int32)) x1 x4 res C0 hA F (σ0.1 205 (((((6 : Int32) * x1) + x2) : Int32).toNatClampNeg)) (if (x2 + (1 : Int32)) < x3 then x3 else (x2 + (1 : Int32))) h _ _ _ hP hD hS (lv_sub hl [2, 3, 6, 1, 0] rfl)
      · skip
        have h := f_t c8 h
        refine lv_iconst (v := (-1)) hx hb dX12_steep_47 (by decide) ?_
        obtain rfl := Option.some.inj h
        exact W.iret (v := (-1 : Int32)) hx hb hr (q_end hK hP hD hS) hS.2.2 dX12_steep_48
abbrev rm_X12_isNet : Room := { frames := 0, cells := 0, slots := 0, locals := 0 }
set_option maxRecDepth 100000 in
set_option maxHeartbeats 8000000 in
theorem c_X12_isNet (l : Launch) (D : va_G) (G : hG) (Z : hZ) (Y : va_W) (σ0 : hSt) (x1 : Int32) (res : Int32) (h : f_X12_isNet Z σ0 x1 = some res) : CT l yX12_isNet cX12_isNet 2 (some .boolean) rm_X12_isNet D G 0 0 [.ref (G.2.1 200), .int x1] (mW G Z Y σ0) (mW G Z Y σ0) (some (.int res)) := by
  unfold f_X12_isNet at h
  refine CT.mk (cc := cX12_isNet) (maxL := 2) (ret := (some .boolean)) (own := RX12) (plainFor_of_name (by decide)) rfl (Nat.le_of_ble_eq_true rfl) ?_
  intro p e s m args below meth c A ls C0 hnm hA hP hD hl
  obtain ⟨hx, hb, hr, hml, hown, hts, hlocks, hK, hE⟩ := id C0
  have hS : va_S A s.heap s.heap [] := va_S.rf
  have hl : lv_has ls 2 [(0, .ref (G.2.1 200)), (1, .int x1)] := hl
  refine lv_iload_n hx hb dX12_isNet_0 rfl (lv_at hl 1 rfl) ?_
  refine lv_if_lt (tgt := 16) hx hb dX12_isNet_1 (by decide) (fun c1 => ?_) (fun c1 => ?_)
  · skip
    have h := f_t c1 h
    refine lv_iconst (v := 0) hx hb dX12_isNet_16 (by decide) ?_
    obtain rfl := Option.some.inj h
    exact W.zret (v := (0 : Int32)) hx hb hr rfl (q_end hK hP hD hS) hS.2.2 dX12_isNet_17
  · skip
    have h := f_f c1 h
    refine lv_iload_n hx hb dX12_isNet_4 rfl (lv_at hl 1 rfl) ?_
    refine lv_aload_n hx hb dX12_isNet_5 rfl (lv_at hl 0 rfl) ?_
    refine va_get (D := D) (ci := 12) (v := .int (σ0.1 200 58)) (C := RX12) (T := TX12) (N := 59) hx hb hts inU_X12 hown hK hP _ (mg_200 G Z Y σ0) rfl 58 (by decide) (hts _ wd_1305) (fun _ h9 => h9) rfl dX12_isNet_6 ?_
    refine lv_icmp_ge (tgt := 16) hx hb dX12_isNet_9 (by decide) (fun c2 => ?_) (fun c2 => ?_)
    · skip
      have h := f_t c2 h
      refine lv_iconst (v := 0) hx hb dX12_isNet_16 (by decide) ?_
      obtain rfl := Option.some.inj h
      exact W.zret (v := (0 : Int32)) hx hb hr rfl (q_end hK hP hD hS) hS.2.2 dX12_isNet_17
    · skip
      have h := f_f c2 h
      refine lv_iconst (v := 1) hx hb dX12_isNet_12 (by decide) ?_
      refine lv_goto (tgt := 17) hx hb dX12_isNet_13 (by decide) ?_
      obtain rfl := Option.some.inj h
      exact W.zret (v := (1 : Int32)) hx hb hr rfl (q_end hK hP hD hS) hS.2.2 dX12_isNet_17
abbrev rm_X12_net : Room := { frames := 1, cells := 0, slots := 0, locals := 25 }
set_option maxRecDepth 100000 in
set_option maxHeartbeats 8000000 in
theorem c_X12_net (l : Launch) (D : va_G) (G : hG) (Z : hZ) (Y : va_W) (σ0 : hSt) (x1 : Int32) (x2 : Int32) (res : (Int32 × hSt)) (h : f_X12_net Z σ0 x1 x2 = some res) : CT l yX12_net cX12_net 3 (some .int) rm_X12_net D G 0 0 [.ref (G.2.1 200), .int x1, .int x2] (mW G Z Y σ0) (mW G Z Y res.2) (some (.int res.1)) := by
  unfold f_X12_net at h
  refine CT.mk (cc := cX12_net) (maxL := 3) (ret := (some .int)) (own := RX12) (plainFor_of_name (by decide)) rfl (Nat.le_of_ble_eq_true rfl) ?_
  intro p e s m args below meth c A ls C0 hnm hA hP hD hl
  obtain ⟨hx, hb, hr, hml, hown, hts, hlocks, hK, hE⟩ := id C0
  have hS : va_S A s.heap s.heap [] := va_S.rf
  have hl : lv_has ls 3 [(0, .ref (G.2.1 200)), (1, .int x1), (2, .int x2)] := hl
  refine lv_aload_n hx hb dX12_net_0 rfl (lv_at hl 0 rfl) ?_
  refine lv_iconst (v := 0) hx hb dX12_net_1 (by decide) ?_
  refine va_put (D := D) (ci := 12) (v := .int (0 : Int32)) (ty := .int) (C := RX12) (T := TX12) (N := 59) hx hb hts inU_X12 tyX12 tyX12_ok nmX12 hown hK hP hD hS _ (mg_200 G Z Y σ0) rfl 0 (by decide) (hts _ wd_1248) (fun _ h9 => h9) rfl (by decide +kernel) rfl rfl (Nat.le_of_ble_eq_true rfl) dX12_net_2 (fun H locs hP hD hS => ?_)
  have hP := wrP (mp_200_0 G Z Y σ0 (0 : Int32)) hP
  have hD := wrD (mp_200_0 G Z Y σ0 (0 : Int32)) hD
  refine lv_aload_n hx hb dX12_net_5 rfl (lv_at hl 0 rfl) ?_
  refine va_get (D := D) (ci := 12) (v := .int (σ0.1 200 58)) (C := RX12) (T := TX12) (N := 59) hx hb hts inU_X12 hown hK hP _ (mg_200 G Z Y (sI σ0 200 0 (0 : Int32))) rfl 58 (by decide) (hts _ wd_1305) (fun _ h9 => h9) rfl dX12_net_6 ?_
  refine lv_bipush (v := 12) hx hb dX12_net_9 (by decide) ?_
  refine lv_icmp_eq (tgt := 45) hx hb dX12_net_11 (by decide) (fun c1 => ?_) (fun c1 => ?_)
  · skip
    have h := f_t c1 h
    refine lv_iconst (v := (-1)) hx hb dX12_net_45 (by decide) ?_
    obtain rfl := Option.some.inj h
    exact W.iret (v := (-1 : Int32)) hx hb hr (q_end hK hP hD hS) hS.2.2 dX12_net_46
  · skip
    have h := f_f c1 h
    refine lv_iload_n hx hb dX12_net_14 rfl (lv_at hl 1 rfl) ?_
    refine lv_i2l (v := (x1 : Int32).toInt64) hx hb dX12_net_15 rfl ?_
    refine lv_ldc2 (v := 2) hx hb hown (hts _ wd_1541) dX12_net_16 ?_
    refine lv_ldc2 (v := 6) hx hb hown (hts _ wd_1814) dX12_net_19 ?_
    obtain ⟨q2, hq2, h⟩ := f_b h
    refine cl_S (w := (mW G Z Y (sI σ0 200 0 (0 : Int32)))) (w' := (mW G Z Y (sI σ0 200 0 (0 : Int32)))) (rv := some (.int q2)) (bytes := cX12_isIn) (maxL := 6) (ret := (some .boolean)) (As := [.long (x1 : Int32).toInt64, .long (2 : Int64), .long (6 : Int64)]) (rest := []) (stk := [.int q2]) ⟨hx, hb, hml, hown, hts⟩ hK hE hA hP hD hS (c_X12_isIn l D G (mW G Z Y (sI σ0 200 0 (0 : Int32))) ((x1 : Int32).toInt64) (2 : Int64) (6 : Int64) q2 hq2) (mkS hts wd_1498 wd_1499 wd_11 wd_1500 rfl rfl hd_X12_isIn ⟨Nat.le_of_ble_eq_true rfl, Nat.le_of_ble_eq_true rfl⟩) rfl hl.1 rfl (Nat.le_of_ble_eq_true rfl) dX12_net_22 ⟨Nat.zero_le _, Nat.zero_le _⟩ rfl (fun H locs hP hD hS => ?_)
    refine lv_if_eq (tgt := 45) hx hb dX12_net_25 (by decide) (fun c3 => ?_) (fun c3 => ?_)
    · skip
      have h := f_t c3 h
      refine lv_iconst (v := (-1)) hx hb dX12_net_45 (by decide) ?_
      obtain rfl := Option.some.inj h
      exact W.iret (v := (-1 : Int32)) hx hb hr (q_end hK hP hD hS) hS.2.2 dX12_net_46
    · skip
      have h := f_f c3 h
      refine lv_iload_n hx hb dX12_net_28 rfl (lv_at hl 2 rfl) ?_
      refine lv_if_lt (tgt := 45) hx hb dX12_net_29 (by decide) (fun c4 => ?_) (fun c4 => ?_)
      · skip
        have h := f_t c4 h
        refine lv_iconst (v := (-1)) hx hb dX12_net_45 (by decide) ?_
        obtain rfl := Option.some.inj h
        exact W.iret (v := (-1 : Int32)) hx hb hr (q_end hK hP hD hS) hS.2.2 dX12_net_46
      · skip
        have h := f_f c4 h
        refine lv_iload_n hx hb dX12_net_32 rfl (lv_at hl 2 rfl) ?_
        refine lv_iconst (v := 1) hx hb dX12_net_33 (by decide) ?_
        refine lv_iload_n hx hb dX12_net_34 rfl (lv_at hl 1 rfl) ?_
        refine lv_iload_n hx hb dX12_net_35 rfl (lv_at hl 1 rfl) ?_
        refine lv_iconst (v := 1) hx hb dX12_net_36 (by decide) ?_
        refine lv_isub hx hb dX12_net_37 ?_
        refine lv_imul hx hb dX12_net_38 ?_
        refine lv_iconst (v := 2) hx hb dX12_net_39 (by decide) ?_
        refine lv_idiv hx hb dX12_net_40 (by decide) ?_
        refine lv_ishl hx hb dX12_net_41 ?_
        refine lv_icmp_lt (tgt := 47) hx hb dX12_net_42 (by decide) (fun c5 => ?_) (fun c5 => ?_)
        · skip
          have h := f_t c5 h
          refine lv_aload_n hx hb dX12_net_47 rfl (lv_at hl 0 rfl) ?_
          refine va_get (D := D) (ci := 12) (v := .ref (G.2.1 222)) (C := RX12) (T := TX12) (N := 59) hx hb hts inU_X12 hown hK hP _ (mg_200 G Z Y (sI σ0 200 0 (0 : Int32))) rfl 54 (by decide) (hts _ wd_1301) (fun _ h9 => h9) rfl dX12_net_48 ?_
          refine lv_aload_n hx hb dX12_net_51 rfl (lv_at hl 0 rfl) ?_
          refine va_get (D := D) (ci := 12) (v := .int (σ0.1 200 58)) (C := RX12) (T := TX12) (N := 59) hx hb hts inU_X12 hown hK hP _ (mg_200 G Z Y (sI σ0 200 0 (0 : Int32))) rfl 58 (by decide) (hts _ wd_1305) (fun _ h9 => h9) rfl dX12_net_52 ?_
          refine lv_iload_n hx hb dX12_net_55 rfl (lv_at hl 1 rfl) ?_
          obtain ⟨c6, h⟩ := f_n h
          refine va_iast hx hb hK hP hD hS _ 0 (mg_222 G Z Y (sI σ0 200 0 (0 : Int32))) rfl c6 dX12_net_56 (fun H locs hP hD hS => ?_)
          have hP := wrP (mp_222 G Z Y (sI σ0 200 0 (0 : Int32)) _ _) hP
          have hD := wrD (mp_222 G Z Y (sI σ0 200 0 (0 : Int32)) _ _) hD
          refine lv_aload_n hx hb dX12_net_57 rfl (lv_at hl 0 rfl) ?_
          refine va_get (D := D) (ci := 12) (v := .ref (G.2.1 223)) (C := RX12) (T := TX12) (N := 59) hx hb hts inU_X12 hown hK hP _ (mg_200 G Z Y (sI (sI σ0 200 0 (0 : Int32)) 222 (((σ0.1 200 58) : Int32).toNatClampNeg) x1)) rfl 55 (by decide) (hts _ wd_1302) (fun _ h9 => h9) rfl dX12_net_58 ?_
          refine lv_aload_n hx hb dX12_net_61 rfl (lv_at hl 0 rfl) ?_
          refine va_get (D := D) (ci := 12) (v := .int (σ0.1 200 58)) (C := RX12) (T := TX12) (N := 59) hx hb hts inU_X12 hown hK hP _ (mg_200 G Z Y (sI (sI σ0 200 0 (0 : Int32)) 222 (((σ0.1 200 58) : Int32).toNatClampNeg) x1)) rfl 58 (by decide) (hts _ wd_1305) (fun _ h9 => h9) rfl dX12_net_62 ?_
          refine lv_iload_n hx hb dX12_net_65 rfl (lv_at hl 2 rfl) ?_
          obtain ⟨c7, h⟩ := f_n h
          refine va_iast hx hb hK hP hD hS _ 0 (mg_223 G Z Y (sI (sI σ0 200 0 (0 : Int32)) 222 (((σ0.1 200 58) : Int32).toNatClampNeg) x1)) rfl c7 dX12_net_66 (fun H locs hP hD hS => ?_)
          have hP := wrP (mp_223 G Z Y (sI (sI σ0 200 0 (0 : Int32)) 222 (((σ0.1 200 58) : Int32).toNatClampNeg) x1) _ _) hP
          have hD := wrD (mp_223 G Z Y (sI (sI σ0 200 0 (0 : Int32)) 222 (((σ0.1 200 58) : Int32).toNatClampNeg) x1) _ _) hD
          refine lv_aload_n hx hb dX12_net_67 rfl (lv_at hl 0 rfl) ?_
          refine lv_dup hx hb dX12_net_68 rfl ?_
          refine va_get (D := D) (ci := 12) (v := .int (σ0.1 200 58)) (C := RX12) (T := TX12) (N := 59) hx hb hts inU_X12 hown hK hP _ (mg_200 G Z Y (sI (sI (sI σ0 200 0 (0 : Int32)) 222 (((σ0.1 200 58) : Int32).toNatClampNeg) x1) 223 (((σ0.1 200 58) : Int32).toNatClampNeg) x2)) rfl 58 (by decide) (hts _ wd_1305) (fun _ h9 => h9) rfl dX12_net_69 ?_
          refine lv_iconst (v := 1) hx hb dX12_net_72 (by decide) ?_
          refine lv_iadd hx hb dX12_net_73 ?_
          refine va_put (D := D) (ci := 12) (v := .int ((σ0.1 200 58) + (1 : Int32))) (ty := .int) (C := RX12) (T := TX12) (N := 59) hx hb hts inU_X12 tyX12 tyX12_ok nmX12 hown hK hP hD hS _ (mg_200 G Z Y (sI (sI (sI σ0 200 0 (0 : Int32)) 222 (((σ0.1 200 58) : Int32).toNatClampNeg) x1) 223 (((σ0.1 200 58) : Int32).toNatClampNeg) x2)) rfl 58 (by decide) (hts _ wd_1305) (fun _ h9 => h9) rfl (by decide +kernel) rfl rfl (Nat.le_of_ble_eq_true rfl) dX12_net_74 (fun H locs hP hD hS => ?_)
          have hP := wrP (mp_200_58 G Z Y (sI (sI (sI σ0 200 0 (0 : Int32)) 222 (((σ0.1 200 58) : Int32).toNatClampNeg) x1) 223 (((σ0.1 200 58) : Int32).toNatClampNeg) x2) ((σ0.1 200 58) + (1 : Int32))) hP
          have hD := wrD (mp_200_58 G Z Y (sI (sI (sI σ0 200 0 (0 : Int32)) 222 (((σ0.1 200 58) : Int32).toNatClampNeg) x1) 223 (((σ0.1 200 58) : Int32).toNatClampNeg) x2) ((σ0.1 200 58) + (1 : Int32))) hD
          refine lv_aload_n hx hb dX12_net_77 rfl (lv_at hl 0 rfl) ?_
          refine va_get (D := D) (ci := 12) (v := .int ((σ0.1 200 58) + (1 : Int32))) (C := RX12) (T := TX12) (N := 59) hx hb hts inU_X12 hown hK hP _ (mg_200 G Z Y (sI (sI (sI (sI σ0 200 0 (0 : Int32)) 222 (((σ0.1 200 58) : Int32).toNatClampNeg) x1) 223 (((σ0.1 200 58) : Int32).toNatClampNeg) x2) 200 58 ((σ0.1 200 58) + (1 : Int32)))) rfl 58 (by decide) (hts _ wd_1305) (fun _ h9 => h9) rfl dX12_net_78 ?_
          refine lv_iconst (v := 1) hx hb dX12_net_81 (by decide) ?_
          refine lv_isub hx hb dX12_net_82 ?_
          obtain rfl := Option.some.inj h
          exact W.iret (v := (((σ0.1 200 58) + (1 : Int32)) - (1 : Int32))) hx hb hr (q_end hK hP hD hS) hS.2.2 dX12_net_83
        · skip
          have h := f_f c5 h
          refine lv_iconst (v := (-1)) hx hb dX12_net_45 (by decide) ?_
          obtain rfl := Option.some.inj h
          exact W.iret (v := (-1 : Int32)) hx hb hr (q_end hK hP hD hS) hS.2.2 dX12_net_46
abbrev rm_X12_hasEdge : Room := { frames := 1, cells := 0, slots := 0, locals := 30 }
set_option maxRecDepth 100000 in
set_option maxHeartbeats 8000000 in
theorem c_X12_hasEdge (l : Launch) (D : va_G) (G : hG) (Z : hZ) (Y : va_W) (σ0 : hSt) (x1 : Int32) (x2 : Int32) (x3 : Int32) (res : Int32) (h : f_X12_hasEdge Z σ0 x1 x2 x3 = some res) : CT l yX12_hasEdge cX12_hasEdge 6 (some .boolean) rm_X12_hasEdge D G 0 0 [.ref (G.2.1 200), .int x1, .int x2, .int x3] (mW G Z Y σ0) (mW G Z Y σ0) (some (.int res)) := by
  unfold f_X12_hasEdge at h
  refine CT.mk (cc := cX12_hasEdge) (maxL := 6) (ret := (some .boolean)) (own := RX12) (plainFor_of_name (by decide)) rfl (Nat.le_of_ble_eq_true rfl) ?_
  intro p e s m args below meth c A ls C0 hnm hA hP hD hl
  obtain ⟨hx, hb, hr, hml, hown, hts, hlocks, hK, hE⟩ := id C0
  have hS : va_S A s.heap s.heap [] := va_S.rf
  have hl : lv_has ls 6 [(0, .ref (G.2.1 200)), (1, .int x1), (2, .int x2), (3, .int x3)] := hl
  refine lv_iload_n hx hb dX12_hasEdge_0 rfl (lv_at hl 2 rfl) ?_
  refine lv_iload_n hx hb dX12_hasEdge_1 rfl (lv_at hl 3 rfl) ?_
  refine va_mmin hx hb (hml.trans hl.1.symm) hown (hts _ wd_1719) (hts _ wd_400) (hts _ wd_12) (hts _ wd_401) (Nat.le_of_ble_eq_true rfl) (Nat.le_of_ble_eq_true rfl) (Nat.zero_le _) (Nat.zero_le _) dX12_hasEdge_2 ?_
  refine lv_istore (lv' := [(4, .int (if x3 < x2 then x3 else x2)), (0, .ref (G.2.1 200)), (1, .int x1), (2, .int x2), (3, .int x3)]) hx hb dX12_hasEdge_5 hl (by decide) rfl (fun ls hl => ?_)
  refine lv_iload_n hx hb dX12_hasEdge_7 rfl (lv_at hl 3 rfl) ?_
  refine lv_iload_n hx hb dX12_hasEdge_8 rfl (lv_at hl 4 rfl) ?_
  refine va_mmax hx hb (hml.trans hl.1.symm) hown (hts _ wd_1476) (hts _ wd_328) (hts _ wd_12) (hts _ wd_329) (Nat.le_of_ble_eq_true rfl) (Nat.le_of_ble_eq_true rfl) (Nat.zero_le _) (Nat.zero_le _) dX12_hasEdge_9 ?_
  refine lv_istore (lv' := [(5, .int (if x2 < x3 then x3 else x2)), (4, .int (if x3 < x2 then x3 else x2)), (0, .ref (G.2.1 200)), (1, .int x1), (2, .int x2), (3, .int x3)]) hx hb dX12_hasEdge_12 hl (by decide) rfl (fun ls hl => ?_)
  refine lv_aload_n hx hb dX12_hasEdge_14 rfl (lv_at hl 2 rfl) ?_
  refine va_get (D := D) (ci := 12) (v := .ref (G.2.1 223)) (C := RX12) (T := TX12) (N := 59) hx hb hts inU_X12 hown hK hP _ (mg_200 G Z Y σ0) rfl 55 (by decide) (hts _ wd_1302) (fun _ h9 => h9) rfl dX12_hasEdge_15 ?_
  refine lv_iload_n hx hb dX12_hasEdge_18 rfl (lv_at hl 3 rfl) ?_
  obtain ⟨c1, h⟩ := f_n h
  refine va_ialdE (v := (σ0.1 223 ((x1 : Int32).toNatClampNeg))) hx hb hK hP _ 0 (mg_223 G Z Y σ0) rfl c1 dX12_hasEdge_19 rfl ?_
  refine lv_iload hx hb dX12_hasEdge_20 (lv_at hl 0 rfl) ?_
  refine lv_iload hx hb dX12_hasEdge_22 (lv_at hl 0 rfl) ?_
  refine lv_iconst (v := 1) hx hb dX12_hasEdge_24 (by decide) ?_
  refine lv_isub hx hb dX12_hasEdge_25 ?_
  refine lv_imul hx hb dX12_hasEdge_26 ?_
  refine lv_iconst (v := 2) hx hb dX12_hasEdge_27 (by decide) ?_
  refine lv_idiv hx hb dX12_hasEdge_28 (by decide) ?_
  refine lv_iload hx hb dX12_hasEdge_29 (lv_at hl 1 rfl) ?_
  refine lv_iadd hx hb dX12_hasEdge_31 ?_
  refine lv_ishr hx hb dX12_hasEdge_32 ?_
  refine lv_iconst (v := 1) hx hb dX12_hasEdge_33 (by decide) ?_
  refine lv_iand hx hb dX12_hasEdge_34 ?_
  refine lv_iconst (v := 1) hx hb dX12_hasEdge_35 (by decide) ?_
  refine lv_icmp_ne (tgt := 43) hx hb dX12_hasEdge_36 (by decide) (fun c2 => ?_) (fun c2 => ?_)
  · skip
    have h := f_f c2 h
    refine lv_iconst (v := 0) hx hb dX12_hasEdge_43 (by decide) ?_
    obtain rfl := Option.some.inj h
    exact W.zret (v := (0 : Int32)) hx hb hr rfl (q_end hK hP hD hS) hS.2.2 dX12_hasEdge_44
  · skip
    have h := f_t c2 h
    refine lv_iconst (v := 1) hx hb dX12_hasEdge_39 (by decide) ?_
    refine lv_goto (tgt := 44) hx hb dX12_hasEdge_40 (by decide) ?_
    obtain rfl := Option.some.inj h
    exact W.zret (v := (1 : Int32)) hx hb hr rfl (q_end hK hP hD hS) hS.2.2 dX12_hasEdge_44
def rmG_Mp (d : Nat) : Room := { frames := 2 + d, cells := 0, slots := 0, locals := 55 + d * 27 }
set_option maxRecDepth 100000 in
set_option maxHeartbeats 8000000 in
theorem W_X12_puts_L46 {p : Program} {e : Env} {s : State} {m : MethodId} {args : Array Value} {below : List Frame} {meth : Method} {c : Code} {A : Nat → Prop} (l : Launch) (D : va_G) (G : hG) (Z : hZ) (Y : va_W) (F : Nat) (d : Nat) (u_X12_puts : (hSt → Int32 → Int32 → Int32 → Int32 → Option (Int32 × hSt))) (hu_X12_puts : ∀ (σ0 : hSt) (x1 : Int32) (x2 : Int32) (x3 : Int32) (x4 : Int32) (res : (Int32 × hSt)), u_X12_puts σ0 x1 x2 x3 x4 = some res → CT l yX12_puts cX12_puts 8 (some .boolean) (rmG_Mp d) D G 0 0 [.ref (G.2.1 200), .int x1, .int x2, .int x3, .int x4] (mW G Z Y σ0) (mW G Z Y res.2) (some (.int res.1))) (σ0 : hSt) (x1 : Int32) (x2 : Int32) (x3 : Int32) (x4 : Int32) (σ1 : hSt) (y1 : Int32) (y2 : Int32) (y3 : Int32) (y4 : Int32) (y5 : Int32) (res : (Int32 × hSt)) (C0 : Cx p s m args meth c cX12_puts (some .boolean) RX12 8 D G A) (hA : ∀ q : Nat, s.heap.size ≤ q → A q) (k95 : Int32 → Option (Int32 × hSt)) (hk95 : ∀ (z6 : Int32), k95 z6 = some res → ∀ (H : Heap) (locs : List Loc) (ls : Array Slot), va_P D vwCl (mW G Z Y σ1) H → va_D A (mW G Z Y σ1) → va_S A s.heap H locs → lv_has ls 8 [(0, .ref (G.2.1 200)), (1, .int y1), (2, .int y2), (3, .int y3), (4, .int y4), (5, .int y5), (6, .int z6)] → W p l e (rmG_Mp (d + 1)) s m args below meth c H locs 0 0 (MQ below (Qg (some (.int res.1)) D (tysG G) (mW G Z Y res.2) A) args s 0 0 A) (F0 m 95 ls [])) : ∀ (n : Nat) (z6 : Int32) (z7 : Int32), f_X12_puts_L46 Z σ1 y1 y2 y3 y4 y5 k95 n z6 z7 = some res → ∀ (H : Heap) (locs : List Loc) (ls : Array Slot), va_P D vwCl (mW G Z Y σ1) H → va_D A (mW G Z Y σ1) → va_S A s.heap H locs → lv_has ls 8 [(0, .ref (G.2.1 200)), (1, .int y1), (2, .int y2), (3, .int y3), (4, .int y4), (5, .int y5), (6, .int z6), (7, .int z7)] → W p l e (rmG_Mp (d + 1)) s m args below meth c H locs 0 0 (MQ below (Qg (some (.int res.1)) D (tysG G) (mW G Z Y res.2) A) args s 0 0 A) (F0 m 46 ls []) := by
  obtain ⟨hx, hb, hr, hml, hown, hts, hlocks, hK, hE⟩ := id C0
  intro n
  induction n with
  | zero =>
    intro z6 z7 h
    cases h
  | succ n ih =>
    intro z6 z7 h H locs ls hP hD hS hl
    rw [f_X12_puts_L46] at h
    refine lv_iload hx hb dX12_puts_46 (lv_at hl 7 rfl) ?_
    refine lv_iload_n hx hb dX12_puts_48 rfl (lv_at hl 3 rfl) ?_
    refine lv_icmp_ge (tgt := 95) hx hb dX12_puts_49 (by decide) (fun c6 => ?_) (fun c6 => ?_)
    · skip
      have h := f_t c6 h
      exact hk95 z6 h _ _ _ hP hD hS (lv_sub hl [0, 1, 2, 3, 4, 5, 6] rfl)
    · skip
      have h := f_f c6 h
      refine lv_iload hx hb dX12_puts_52 (lv_at hl 6 rfl) ?_
      refine lv_if_eq (tgt := 95) hx hb dX12_puts_54 (by decide) (fun c7 => ?_) (fun c7 => ?_)
      · skip
        have h := f_t c7 h
        exact hk95 z6 h _ _ _ hP hD hS (lv_sub hl [0, 1, 2, 3, 4, 5, 6] rfl)
      · skip
        have h := f_f c7 h
        refine lv_aload_n hx hb dX12_puts_57 rfl (lv_at hl 0 rfl) ?_
        refine lv_iload_n hx hb dX12_puts_58 rfl (lv_at hl 1 rfl) ?_
        refine lv_iload hx hb dX12_puts_59 (lv_at hl 7 rfl) ?_
        refine lv_iload_n hx hb dX12_puts_61 rfl (lv_at hl 3 rfl) ?_
        obtain ⟨q8, hq8, h⟩ := f_b h
        refine cl_V (w := (mW G Z Y σ1)) (w' := (mW G Z Y σ1)) (rv := some (.int q8)) (bytes := cX12_hasEdge) (maxL := 6) (ret := (some .boolean)) (C := RX12) (As := [.int y1, .int z7, .int y3]) (rest := []) (stk := [.int q8]) ⟨hx, hb, hml, hown, hts⟩ hK hE hA hP hD hS (c_X12_hasEdge l D G Z Y σ1 y1 z7 y3 q8 hq8) (cwV 3 hts (gwV wd_1831 wd_1833 wp_101 wd_11 wd_1834) rfl rfl rfl hd_X12_hasEdge ⟨by show 1 + 1 ≤ 2 + (d + 1); omega, by show 8 + (6 + 11) + 30 ≤ 55 + (d + 1) * 27; omega⟩) (mg_200 G Z Y σ1) rfl rfl rfl hl.1 rfl (Nat.le_of_ble_eq_true rfl) dX12_puts_62 ⟨Nat.zero_le _, Nat.zero_le _⟩ rfl (fun H locs hP hD hS => ?_)
        refine lv_aload_n hx hb dX12_puts_65 rfl (lv_at hl 0 rfl) ?_
        refine lv_iload_n hx hb dX12_puts_66 rfl (lv_at hl 2 rfl) ?_
        refine lv_aload_n hx hb dX12_puts_67 rfl (lv_at hl 0 rfl) ?_
        refine va_get (D := D) (ci := 12) (v := .ref (G.2.1 224)) (C := RX12) (T := TX12) (N := 59) hx hb hts inU_X12 hown hK hP _ (mg_200 G Z Y σ1) rfl 56 (by decide) (hts _ wd_1303) (fun _ h9 => h9) rfl dX12_puts_68 ?_
        refine lv_iload hx hb dX12_puts_71 (lv_at hl 7 rfl) ?_
        obtain ⟨c9, h⟩ := f_n h
        refine va_ialdE (v := (σ1.1 224 ((z7 : Int32).toNatClampNeg))) hx hb hK hP _ 0 (mg_224 G Z Y σ1) rfl c9 dX12_puts_73 rfl ?_
        refine lv_iload hx hb dX12_puts_74 (lv_at hl 5 rfl) ?_
        obtain ⟨q10, hq10, h⟩ := f_b h
        refine cl_V (w := (mW G Z Y σ1)) (w' := (mW G Z Y σ1)) (rv := some (.int q10)) (bytes := cX12_hasEdge) (maxL := 6) (ret := (some .boolean)) (C := RX12) (As := [.int y2, .int (σ1.1 224 ((z7 : Int32).toNatClampNeg)), .int y5]) (rest := [.int q8]) (stk := [.int q10, .int q8]) ⟨hx, hb, hml, hown, hts⟩ hK hE hA hP hD hS (c_X12_hasEdge l D G Z Y σ1 y2 (σ1.1 224 ((z7 : Int32).toNatClampNeg)) y5 q10 hq10) (cwV 3 hts (gwV wd_1831 wd_1833 wp_101 wd_11 wd_1834) rfl rfl rfl hd_X12_hasEdge ⟨by show 1 + 1 ≤ 2 + (d + 1); omega, by show 8 + (6 + 11) + 30 ≤ 55 + (d + 1) * 27; omega⟩) (mg_200 G Z Y σ1) rfl rfl rfl hl.1 rfl (Nat.le_of_ble_eq_true rfl) dX12_puts_76 ⟨Nat.zero_le _, Nat.zero_le _⟩ rfl (fun H locs hP hD hS => ?_)
        refine lv_icmp_ne (tgt := 86) hx hb dX12_puts_79 (by decide) (fun c11 => ?_) (fun c11 => ?_)
        · skip
          have h := f_f c11 h
          refine lv_iconst (v := 0) hx hb dX12_puts_86 (by decide) ?_
          refine lv_istore (lv' := [(6, .int (0 : Int32)), (0, .ref (G.2.1 200)), (1, .int y1), (2, .int y2), (3, .int y3), (4, .int y4), (5, .int y5), (7, .int z7)]) hx hb dX12_puts_87 hl (by decide) rfl (fun ls hl => ?_)
          refine lv_iinc (v := (z7 + 1)) (lv' := [(7, .int (z7 + 1)), (6, .int (0 : Int32)), (0, .ref (G.2.1 200)), (1, .int y1), (2, .int y2), (3, .int y3), (4, .int y4), (5, .int y5)]) hx hb dX12_puts_89 hl (k := 7) rfl rfl (by decide) rfl (fun ls hl => ?_)
          refine lv_goto (tgt := 46) hx hb dX12_puts_92 (by decide) ?_
          exact ih (0 : Int32) (z7 + 1) h _ _ _ hP hD hS (lv_sub hl [2, 3, 4, 5, 6, 7, 1, 0] rfl)
        · skip
          have h := f_t c11 h
          refine lv_iconst (v := 1) hx hb dX12_puts_82 (by decide) ?_
          refine lv_goto (tgt := 87) hx hb dX12_puts_83 (by decide) ?_
          refine lv_istore (lv' := [(6, .int (1 : Int32)), (0, .ref (G.2.1 200)), (1, .int y1), (2, .int y2), (3, .int y3), (4, .int y4), (5, .int y5), (7, .int z7)]) hx hb dX12_puts_87 hl (by decide) rfl (fun ls hl => ?_)
          refine lv_iinc (v := (z7 + 1)) (lv' := [(7, .int (z7 + 1)), (6, .int (1 : Int32)), (0, .ref (G.2.1 200)), (1, .int y1), (2, .int y2), (3, .int y3), (4, .int y4), (5, .int y5)]) hx hb dX12_puts_89 hl (k := 7) rfl rfl (by decide) rfl (fun ls hl => ?_)
          refine lv_goto (tgt := 46) hx hb dX12_puts_92 (by decide) ?_
          exact ih (1 : Int32) (z7 + 1) h _ _ _ hP hD hS (lv_sub hl [2, 3, 4, 5, 6, 7, 1, 0] rfl)
set_option maxRecDepth 100000 in
set_option maxHeartbeats 8000000 in
theorem W_X12_puts_L15 {p : Program} {e : Env} {s : State} {m : MethodId} {args : Array Value} {below : List Frame} {meth : Method} {c : Code} {A : Nat → Prop} (l : Launch) (D : va_G) (G : hG) (Z : hZ) (Y : va_W) (F : Nat) (d : Nat) (u_X12_puts : (hSt → Int32 → Int32 → Int32 → Int32 → Option (Int32 × hSt))) (hu_X12_puts : ∀ (σ0 : hSt) (x1 : Int32) (x2 : Int32) (x3 : Int32) (x4 : Int32) (res : (Int32 × hSt)), u_X12_puts σ0 x1 x2 x3 x4 = some res → CT l yX12_puts cX12_puts 8 (some .boolean) (rmG_Mp d) D G 0 0 [.ref (G.2.1 200), .int x1, .int x2, .int x3, .int x4] (mW G Z Y σ0) (mW G Z Y res.2) (some (.int res.1))) (σ0 : hSt) (x1 : Int32) (x2 : Int32) (x3 : Int32) (x4 : Int32) (y1 : Int32) (y2 : Int32) (y3 : Int32) (y4 : Int32) (res : (Int32 × hSt)) (C0 : Cx p s m args meth c cX12_puts (some .boolean) RX12 8 D G A) (hA : ∀ q : Nat, s.heap.size ≤ q → A q) : ∀ (n : Nat) (σ1 : hSt) (z5 : Int32), f_X12_puts_L15 F Z u_X12_puts y1 y2 y3 y4 n σ1 z5 = some res → ∀ (H : Heap) (locs : List Loc) (ls : Array Slot), va_P D vwCl (mW G Z Y σ1) H → va_D A (mW G Z Y σ1) → va_S A s.heap H locs → lv_has ls 8 [(0, .ref (G.2.1 200)), (1, .int y1), (2, .int y2), (3, .int y3), (4, .int y4), (5, .int z5)] → W p l e (rmG_Mp (d + 1)) s m args below meth c H locs 0 0 (MQ below (Qg (some (.int res.1)) D (tysG G) (mW G Z Y res.2) A) args s 0 0 A) (F0 m 15 ls []) := by
  obtain ⟨hx, hb, hr, hml, hown, hts, hlocks, hK, hE⟩ := id C0
  intro n
  induction n with
  | zero =>
    intro σ1 z5 h
    cases h
  | succ n ih =>
    intro σ1 z5 h H locs ls hP hD hS hl
    rw [f_X12_puts_L15] at h
    refine lv_iload hx hb dX12_puts_15 (lv_at hl 5 rfl) ?_
    refine lv_aload_n hx hb dX12_puts_17 rfl (lv_at hl 0 rfl) ?_
    refine va_get (D := D) (ci := 12) (v := .ref (G.2.1 222)) (C := RX12) (T := TX12) (N := 59) hx hb hts inU_X12 hown hK hP _ (mg_200 G Z Y σ1) rfl 54 (by decide) (hts _ wd_1301) (fun _ h9 => h9) rfl dX12_puts_18 ?_
    refine lv_iload_n hx hb dX12_puts_21 rfl (lv_at hl 1 rfl) ?_
    obtain ⟨c3, h⟩ := f_n h
    refine va_ialdE (v := (σ1.1 222 ((y1 : Int32).toNatClampNeg))) hx hb hK hP _ 0 (mg_222 G Z Y σ1) rfl c3 dX12_puts_22 rfl ?_
    refine lv_icmp_ge (tgt := 135) hx hb dX12_puts_23 (by decide) (fun c4 => ?_) (fun c4 => ?_)
    · skip
      have h := f_t c4 h
      refine lv_iconst (v := 0) hx hb dX12_puts_135 (by decide) ?_
      obtain rfl := Option.some.inj h
      exact W.zret (v := (0 : Int32)) hx hb hr rfl (q_end hK hP hD hS) hS.2.2 dX12_puts_136
    · skip
      have h := f_f c4 h
      refine lv_iload hx hb dX12_puts_26 (lv_at hl 4 rfl) ?_
      refine lv_iload hx hb dX12_puts_28 (lv_at hl 5 rfl) ?_
      refine lv_ishr hx hb dX12_puts_30 ?_
      refine lv_iconst (v := 1) hx hb dX12_puts_31 (by decide) ?_
      refine lv_iand hx hb dX12_puts_32 ?_
      refine lv_if_ne (tgt := 40) hx hb dX12_puts_33 (by decide) (fun c5 => ?_) (fun c5 => ?_)
      · skip
        have h := f_f c5 h
        refine lv_iconst (v := 0) hx hb dX12_puts_40 (by decide) ?_
        refine lv_istore (lv' := [(6, .int (0 : Int32)), (0, .ref (G.2.1 200)), (1, .int y1), (2, .int y2), (3, .int y3), (4, .int y4), (5, .int z5)]) hx hb dX12_puts_41 hl (by decide) rfl (fun ls hl => ?_)
        refine lv_iconst (v := 0) hx hb dX12_puts_43 (by decide) ?_
        refine lv_istore (lv' := [(7, .int (0 : Int32)), (6, .int (0 : Int32)), (0, .ref (G.2.1 200)), (1, .int y1), (2, .int y2), (3, .int y3), (4, .int y4), (5, .int z5)]) hx hb dX12_puts_44 hl (by decide) rfl (fun ls hl => ?_)
        refine W_X12_puts_L46 l D G Z Y F d u_X12_puts hu_X12_puts σ0 x1 x2 x3 x4 σ1 y1 y2 y3 y4 z5 res C0 hA _ ?_ F (0 : Int32) (0 : Int32) h _ _ _ hP hD hS (lv_sub hl [2, 3, 4, 5, 6, 7, 1, 0] rfl)
        · intro z6 h H locs ls hP hD hS hl
          refine lv_aload_n hx hb dX12_puts_95 rfl (lv_at hl 0 rfl) ?_
          refine va_get (D := D) (ci := 12) (v := .ref (G.2.1 224)) (C := RX12) (T := TX12) (N := 59) hx hb hts inU_X12 hown hK hP _ (mg_200 G Z Y σ1) rfl 56 (by decide) (hts _ wd_1303) (fun _ h9 => h9) rfl dX12_puts_96 ?_
          refine lv_iload_n hx hb dX12_puts_99 rfl (lv_at hl 3 rfl) ?_
          refine lv_iload hx hb dX12_puts_100 (lv_at hl 5 rfl) ?_
          obtain ⟨c12, h⟩ := f_n h
          refine va_iast hx hb hK hP hD hS _ 0 (mg_224 G Z Y σ1) rfl c12 dX12_puts_102 (fun H locs hP hD hS => ?_)
          have hP := wrP (mp_224 G Z Y σ1 _ _) hP
          have hD := wrD (mp_224 G Z Y σ1 _ _) hD
          refine lv_iload hx hb dX12_puts_103 (lv_at hl 6 rfl) ?_
          refine lv_if_eq (tgt := 129) hx hb dX12_puts_105 (by decide) (fun c13 => ?_) (fun c13 => ?_)
          · skip
            have h := f_t c13 h
            refine lv_iinc (v := (z5 + 1)) (lv' := [(5, .int (z5 + 1)), (0, .ref (G.2.1 200)), (1, .int y1), (2, .int y2), (3, .int y3), (4, .int y4), (6, .int z6)]) hx hb dX12_puts_129 hl (k := 5) rfl rfl (by decide) rfl (fun ls hl => ?_)
            refine lv_goto (tgt := 15) hx hb dX12_puts_132 (by decide) ?_
            exact ih (sI σ1 224 ((y3 : Int32).toNatClampNeg) z5) (z5 + 1) h _ _ _ hP hD hS (lv_sub hl [1, 2, 3, 4, 5, 0] rfl)
          · skip
            have h := f_f c13 h
            refine lv_aload_n hx hb dX12_puts_108 rfl (lv_at hl 0 rfl) ?_
            refine lv_iload_n hx hb dX12_puts_109 rfl (lv_at hl 1 rfl) ?_
            refine lv_iload_n hx hb dX12_puts_110 rfl (lv_at hl 2 rfl) ?_
            refine lv_iload_n hx hb dX12_puts_111 rfl (lv_at hl 3 rfl) ?_
            refine lv_iconst (v := 1) hx hb dX12_puts_112 (by decide) ?_
            refine lv_iadd hx hb dX12_puts_113 ?_
            refine lv_iload hx hb dX12_puts_114 (lv_at hl 4 rfl) ?_
            refine lv_iconst (v := 1) hx hb dX12_puts_116 (by decide) ?_
            refine lv_iload hx hb dX12_puts_117 (lv_at hl 5 rfl) ?_
            refine lv_ishl hx hb dX12_puts_119 ?_
            refine lv_ior hx hb dX12_puts_120 ?_
            obtain ⟨q14, hq14, h⟩ := f_b h
            refine cl_V (w := (mW G Z Y (sI σ1 224 ((y3 : Int32).toNatClampNeg) z5))) (w' := (mW G Z Y q14.2)) (rv := some (.int q14.1)) (bytes := cX12_puts) (maxL := 8) (ret := (some .boolean)) (C := RX12) (As := [.int y1, .int y2, .int (y3 + (1 : Int32)), .int (y4 ||| ((1 : Int32) <<< (z5 &&& 31)))]) (rest := []) (stk := [.int q14.1]) ⟨hx, hb, hml, hown, hts⟩ hK hE hA hP hD hS (hu_X12_puts (sI σ1 224 ((y3 : Int32).toNatClampNeg) z5) y1 y2 (y3 + (1 : Int32)) (y4 ||| ((1 : Int32) <<< (z5 &&& 31))) q14 hq14) (cwV 4 hts (gwV wd_1827 wd_1829 wp_100 wd_11 wd_1830) rfl rfl rfl hd_X12_puts ⟨by show 2 + d + 1 ≤ 2 + (d + 1); omega, by show 8 + (8 + 11) + (55 + d * 27) ≤ 55 + (d + 1) * 27; omega⟩) (mg_200 G Z Y (sI σ1 224 ((y3 : Int32).toNatClampNeg) z5)) rfl rfl rfl hl.1 rfl (Nat.le_of_ble_eq_true rfl) dX12_puts_121 ⟨Nat.zero_le _, Nat.zero_le _⟩ rfl (fun H locs hP hD hS => ?_)
            refine lv_if_eq (tgt := 129) hx hb dX12_puts_124 (by decide) (fun c15 => ?_) (fun c15 => ?_)
            · skip
              have h := f_t c15 h
              refine lv_iinc (v := (z5 + 1)) (lv' := [(5, .int (z5 + 1)), (0, .ref (G.2.1 200)), (1, .int y1), (2, .int y2), (3, .int y3), (4, .int y4), (6, .int z6)]) hx hb dX12_puts_129 hl (k := 5) rfl rfl (by decide) rfl (fun ls hl => ?_)
              refine lv_goto (tgt := 15) hx hb dX12_puts_132 (by decide) ?_
              exact ih q14.2 (z5 + 1) h _ _ _ hP hD hS (lv_sub hl [1, 2, 3, 4, 5, 0] rfl)
            · skip
              have h := f_f c15 h
              refine lv_iconst (v := 1) hx hb dX12_puts_127 (by decide) ?_
              obtain rfl := Option.some.inj h
              exact W.zret (v := (1 : Int32)) hx hb hr rfl (q_end hK hP hD hS) hS.2.2 dX12_puts_128
      · skip
        have h := f_t c5 h
        refine lv_iconst (v := 1) hx hb dX12_puts_36 (by decide) ?_
        refine lv_goto (tgt := 41) hx hb dX12_puts_37 (by decide) ?_
        refine lv_istore (lv' := [(6, .int (1 : Int32)), (0, .ref (G.2.1 200)), (1, .int y1), (2, .int y2), (3, .int y3), (4, .int y4), (5, .int z5)]) hx hb dX12_puts_41 hl (by decide) rfl (fun ls hl => ?_)
        refine lv_iconst (v := 0) hx hb dX12_puts_43 (by decide) ?_
        refine lv_istore (lv' := [(7, .int (0 : Int32)), (6, .int (1 : Int32)), (0, .ref (G.2.1 200)), (1, .int y1), (2, .int y2), (3, .int y3), (4, .int y4), (5, .int z5)]) hx hb dX12_puts_44 hl (by decide) rfl (fun ls hl => ?_)
        refine W_X12_puts_L46 l D G Z Y F d u_X12_puts hu_X12_puts σ0 x1 x2 x3 x4 σ1 y1 y2 y3 y4 z5 res C0 hA _ ?_ F (1 : Int32) (0 : Int32) h _ _ _ hP hD hS (lv_sub hl [2, 3, 4, 5, 6, 7, 1, 0] rfl)
        · intro z6 h H locs ls hP hD hS hl
          refine lv_aload_n hx hb dX12_puts_95 rfl (lv_at hl 0 rfl) ?_
          refine va_get (D := D) (ci := 12) (v := .ref (G.2.1 224)) (C := RX12) (T := TX12) (N := 59) hx hb hts inU_X12 hown hK hP _ (mg_200 G Z Y σ1) rfl 56 (by decide) (hts _ wd_1303) (fun _ h9 => h9) rfl dX12_puts_96 ?_
          refine lv_iload_n hx hb dX12_puts_99 rfl (lv_at hl 3 rfl) ?_
          refine lv_iload hx hb dX12_puts_100 (lv_at hl 5 rfl) ?_
          obtain ⟨c16, h⟩ := f_n h
          refine va_iast hx hb hK hP hD hS _ 0 (mg_224 G Z Y σ1) rfl c16 dX12_puts_102 (fun H locs hP hD hS => ?_)
          have hP := wrP (mp_224 G Z Y σ1 _ _) hP
          have hD := wrD (mp_224 G Z Y σ1 _ _) hD
          refine lv_iload hx hb dX12_puts_103 (lv_at hl 6 rfl) ?_
          refine lv_if_eq (tgt := 129) hx hb dX12_puts_105 (by decide) (fun c17 => ?_) (fun c17 => ?_)
          · skip
            have h := f_t c17 h
            refine lv_iinc (v := (z5 + 1)) (lv' := [(5, .int (z5 + 1)), (0, .ref (G.2.1 200)), (1, .int y1), (2, .int y2), (3, .int y3), (4, .int y4), (6, .int z6)]) hx hb dX12_puts_129 hl (k := 5) rfl rfl (by decide) rfl (fun ls hl => ?_)
            refine lv_goto (tgt := 15) hx hb dX12_puts_132 (by decide) ?_
            exact ih (sI σ1 224 ((y3 : Int32).toNatClampNeg) z5) (z5 + 1) h _ _ _ hP hD hS (lv_sub hl [1, 2, 3, 4, 5, 0] rfl)
          · skip
            have h := f_f c17 h
            refine lv_aload_n hx hb dX12_puts_108 rfl (lv_at hl 0 rfl) ?_
            refine lv_iload_n hx hb dX12_puts_109 rfl (lv_at hl 1 rfl) ?_
            refine lv_iload_n hx hb dX12_puts_110 rfl (lv_at hl 2 rfl) ?_
            refine lv_iload_n hx hb dX12_puts_111 rfl (lv_at hl 3 rfl) ?_
            refine lv_iconst (v := 1) hx hb dX12_puts_112 (by decide) ?_
            refine lv_iadd hx hb dX12_puts_113 ?_
            refine lv_iload hx hb dX12_puts_114 (lv_at hl 4 rfl) ?_
            refine lv_iconst (v := 1) hx hb dX12_puts_116 (by decide) ?_
            refine lv_iload hx hb dX12_puts_117 (lv_at hl 5 rfl) ?_
            refine lv_ishl hx hb dX12_puts_119 ?_
            refine lv_ior hx hb dX12_puts_120 ?_
            obtain ⟨q18, hq18, h⟩ := f_b h
            refine cl_V (w := (mW G Z Y (sI σ1 224 ((y3 : Int32).toNatClampNeg) z5))) (w' := (mW G Z Y q18.2)) (rv := some (.int q18.1)) (bytes := cX12_puts) (maxL := 8) (ret := (some .boolean)) (C := RX12) (As := [.int y1, .int y2, .int (y3 + (1 : Int32)), .int (y4 ||| ((1 : Int32) <<< (z5 &&& 31)))]) (rest := []) (stk := [.int q18.1]) ⟨hx, hb, hml, hown, hts⟩ hK hE hA hP hD hS (hu_X12_puts (sI σ1 224 ((y3 : Int32).toNatClampNeg) z5) y1 y2 (y3 + (1 : Int32)) (y4 ||| ((1 : Int32) <<< (z5 &&& 31))) q18 hq18) (cwV 4 hts (gwV wd_1827 wd_1829 wp_100 wd_11 wd_1830) rfl rfl rfl hd_X12_puts ⟨by show 2 + d + 1 ≤ 2 + (d + 1); omega, by show 8 + (8 + 11) + (55 + d * 27) ≤ 55 + (d + 1) * 27; omega⟩) (mg_200 G Z Y (sI σ1 224 ((y3 : Int32).toNatClampNeg) z5)) rfl rfl rfl hl.1 rfl (Nat.le_of_ble_eq_true rfl) dX12_puts_121 ⟨Nat.zero_le _, Nat.zero_le _⟩ rfl (fun H locs hP hD hS => ?_)
            refine lv_if_eq (tgt := 129) hx hb dX12_puts_124 (by decide) (fun c19 => ?_) (fun c19 => ?_)
            · skip
              have h := f_t c19 h
              refine lv_iinc (v := (z5 + 1)) (lv' := [(5, .int (z5 + 1)), (0, .ref (G.2.1 200)), (1, .int y1), (2, .int y2), (3, .int y3), (4, .int y4), (6, .int z6)]) hx hb dX12_puts_129 hl (k := 5) rfl rfl (by decide) rfl (fun ls hl => ?_)
              refine lv_goto (tgt := 15) hx hb dX12_puts_132 (by decide) ?_
              exact ih q18.2 (z5 + 1) h _ _ _ hP hD hS (lv_sub hl [1, 2, 3, 4, 5, 0] rfl)
            · skip
              have h := f_f c19 h
              refine lv_iconst (v := 1) hx hb dX12_puts_127 (by decide) ?_
              obtain rfl := Option.some.inj h
              exact W.zret (v := (1 : Int32)) hx hb hr rfl (q_end hK hP hD hS) hS.2.2 dX12_puts_128
set_option maxRecDepth 100000 in
set_option maxHeartbeats 8000000 in
theorem o_X12_puts (l : Launch) (D : va_G) (G : hG) (Z : hZ) (Y : va_W) (F : Nat) (d : Nat) (u_X12_puts : (hSt → Int32 → Int32 → Int32 → Int32 → Option (Int32 × hSt))) (hu_X12_puts : ∀ (σ0 : hSt) (x1 : Int32) (x2 : Int32) (x3 : Int32) (x4 : Int32) (res : (Int32 × hSt)), u_X12_puts σ0 x1 x2 x3 x4 = some res → CT l yX12_puts cX12_puts 8 (some .boolean) (rmG_Mp d) D G 0 0 [.ref (G.2.1 200), .int x1, .int x2, .int x3, .int x4] (mW G Z Y σ0) (mW G Z Y res.2) (some (.int res.1))) (σ0 : hSt) (x1 : Int32) (x2 : Int32) (x3 : Int32) (x4 : Int32) (res : (Int32 × hSt)) (h : b_X12_puts F Z u_X12_puts σ0 x1 x2 x3 x4 = some res) : CT l yX12_puts cX12_puts 8 (some .boolean) (rmG_Mp (d + 1)) D G 0 0 [.ref (G.2.1 200), .int x1, .int x2, .int x3, .int x4] (mW G Z Y σ0) (mW G Z Y res.2) (some (.int res.1)) := by
  unfold b_X12_puts at h
  refine CT.mk (cc := cX12_puts) (maxL := 8) (ret := (some .boolean)) (own := RX12) (plainFor_of_name (by decide)) rfl (Nat.le_of_ble_eq_true rfl) ?_
  intro p e s m args below meth c A ls C0 hnm hA hP hD hl
  obtain ⟨hx, hb, hr, hml, hown, hts, hlocks, hK, hE⟩ := id C0
  have hS : va_S A s.heap s.heap [] := va_S.rf
  have hl : lv_has ls 8 [(0, .ref (G.2.1 200)), (1, .int x1), (2, .int x2), (3, .int x3), (4, .int x4)] := hl
  refine lv_iload_n hx hb dX12_puts_0 rfl (lv_at hl 3 rfl) ?_
  refine lv_aload_n hx hb dX12_puts_1 rfl (lv_at hl 0 rfl) ?_
  refine va_get (D := D) (ci := 12) (v := .ref (G.2.1 222)) (C := RX12) (T := TX12) (N := 59) hx hb hts inU_X12 hown hK hP _ (mg_200 G Z Y σ0) rfl 54 (by decide) (hts _ wd_1301) (fun _ h9 => h9) rfl dX12_puts_2 ?_
  refine lv_iload_n hx hb dX12_puts_5 rfl (lv_at hl 1 rfl) ?_
  obtain ⟨c1, h⟩ := f_n h
  refine va_ialdE (v := (σ0.1 222 ((x1 : Int32).toNatClampNeg))) hx hb hK hP _ 0 (mg_222 G Z Y σ0) rfl c1 dX12_puts_6 rfl ?_
  refine lv_icmp_ne (tgt := 12) hx hb dX12_puts_7 (by decide) (fun c2 => ?_) (fun c2 => ?_)
  · skip
    have h := f_f c2 h
    refine lv_iconst (v := 0) hx hb dX12_puts_12 (by decide) ?_
    refine lv_istore (lv' := [(5, .int (0 : Int32)), (0, .ref (G.2.1 200)), (1, .int x1), (2, .int x2), (3, .int x3), (4, .int x4)]) hx hb dX12_puts_13 hl (by decide) rfl (fun ls hl => ?_)
    refine W_X12_puts_L15 l D G Z Y F d u_X12_puts hu_X12_puts σ0 x1 x2 x3 x4 x1 x2 x3 x4 res C0 hA F σ0 (0 : Int32) h _ _ _ hP hD hS (lv_sub hl [1, 2, 3, 4, 5, 0] rfl)
  · skip
    have h := f_t c2 h
    refine lv_iconst (v := 1) hx hb dX12_puts_10 (by decide) ?_
    obtain rfl := Option.some.inj h
    exact W.zret (v := (1 : Int32)) hx hb hr rfl (q_end hK hP hD hS) hS.2.2 dX12_puts_11
set_option maxRecDepth 100000 in
set_option maxHeartbeats 8000000 in
theorem c_G_Mp (l : Launch) (D : va_G) (G : hG) (Z : hZ) (Y : va_W) (F : Nat) : ∀ d : Nat, (∀ (σ0 : hSt) (x1 : Int32) (x2 : Int32) (x3 : Int32) (x4 : Int32) (res : (Int32 × hSt)), (G_Mp F Z d) σ0 x1 x2 x3 x4 = some res → CT l yX12_puts cX12_puts 8 (some .boolean) (rmG_Mp d) D G 0 0 [.ref (G.2.1 200), .int x1, .int x2, .int x3, .int x4] (mW G Z Y σ0) (mW G Z Y res.2) (some (.int res.1))) := by
  intro d
  induction d with
  | zero =>
    exact fun σ0 x1 x2 x3 x4 res h => by
        have h1 : (none : Option (Int32 × hSt)) = some res := h
        cases h1
  | succ d ih =>
    have i_X12_puts := ih
    exact fun σ0 x1 x2 x3 x4 res h => o_X12_puts l D G Z Y F d _ i_X12_puts σ0 x1 x2 x3 x4 res h
abbrev rm_X12_puts : Room := rmG_Mp 8
theorem c_X12_puts (l : Launch) (D : va_G) (G : hG) (Z : hZ) (Y : va_W) (σ0 : hSt) (F : Nat) (x1 : Int32) (x2 : Int32) (x3 : Int32) (x4 : Int32) (res : (Int32 × hSt)) (h : f_X12_puts F Z σ0 x1 x2 x3 x4 = some res) : CT l yX12_puts cX12_puts 8 (some .boolean) rm_X12_puts D G 0 0 [.ref (G.2.1 200), .int x1, .int x2, .int x3, .int x4] (mW G Z Y σ0) (mW G Z Y res.2) (some (.int res.1)) := (c_G_Mp l D G Z Y F 8) σ0 x1 x2 x3 x4 res h
abbrev rm_X12_areAlike : Room := { frames := 11, cells := 0, slots := 0, locals := 298 }
set_option maxRecDepth 100000 in
set_option maxHeartbeats 8000000 in
theorem c_X12_areAlike (l : Launch) (D : va_G) (G : hG) (Z : hZ) (Y : va_W) (σ0 : hSt) (F : Nat) (x1 : Int32) (x2 : Int32) (res : (Int32 × hSt)) (h : f_X12_areAlike F Z σ0 x1 x2 = some res) : CT l yX12_areAlike cX12_areAlike 3 (some .boolean) rm_X12_areAlike D G 0 0 [.ref (G.2.1 200), .int x1, .int x2] (mW G Z Y σ0) (mW G Z Y res.2) (some (.int res.1)) := by
  unfold f_X12_areAlike at h
  refine CT.mk (cc := cX12_areAlike) (maxL := 3) (ret := (some .boolean)) (own := RX12) (plainFor_of_name (by decide)) rfl (Nat.le_of_ble_eq_true rfl) ?_
  intro p e s m args below meth c A ls C0 hnm hA hP hD hl
  obtain ⟨hx, hb, hr, hml, hown, hts, hlocks, hK, hE⟩ := id C0
  have hS : va_S A s.heap s.heap [] := va_S.rf
  have hl : lv_has ls 3 [(0, .ref (G.2.1 200)), (1, .int x1), (2, .int x2)] := hl
  refine lv_aload_n hx hb dX12_areAlike_0 rfl (lv_at hl 0 rfl) ?_
  refine va_get (D := D) (ci := 12) (v := .ref (G.2.1 222)) (C := RX12) (T := TX12) (N := 59) hx hb hts inU_X12 hown hK hP _ (mg_200 G Z Y σ0) rfl 54 (by decide) (hts _ wd_1301) (fun _ h9 => h9) rfl dX12_areAlike_1 ?_
  refine lv_iload_n hx hb dX12_areAlike_4 rfl (lv_at hl 1 rfl) ?_
  obtain ⟨c1, h⟩ := f_n h
  refine va_ialdE (v := (σ0.1 222 ((x1 : Int32).toNatClampNeg))) hx hb hK hP _ 0 (mg_222 G Z Y σ0) rfl c1 dX12_areAlike_5 rfl ?_
  refine lv_aload_n hx hb dX12_areAlike_6 rfl (lv_at hl 0 rfl) ?_
  refine va_get (D := D) (ci := 12) (v := .ref (G.2.1 222)) (C := RX12) (T := TX12) (N := 59) hx hb hts inU_X12 hown hK hP _ (mg_200 G Z Y σ0) rfl 54 (by decide) (hts _ wd_1301) (fun _ h9 => h9) rfl dX12_areAlike_7 ?_
  refine lv_iload_n hx hb dX12_areAlike_10 rfl (lv_at hl 2 rfl) ?_
  obtain ⟨c2, h⟩ := f_n h
  refine va_ialdE (v := (σ0.1 222 ((x2 : Int32).toNatClampNeg))) hx hb hK hP _ 0 (mg_222 G Z Y σ0) rfl c2 dX12_areAlike_11 rfl ?_
  refine lv_icmp_ne (tgt := 30) hx hb dX12_areAlike_12 (by decide) (fun c3 => ?_) (fun c3 => ?_)
  · skip
    have h := f_f c3 h
    refine lv_iconst (v := 0) hx hb dX12_areAlike_30 (by decide) ?_
    obtain rfl := Option.some.inj h
    exact W.zret (v := (0 : Int32)) hx hb hr rfl (q_end hK hP hD hS) hS.2.2 dX12_areAlike_31
  · skip
    have h := f_t c3 h
    refine lv_aload_n hx hb dX12_areAlike_15 rfl (lv_at hl 0 rfl) ?_
    refine lv_iload_n hx hb dX12_areAlike_16 rfl (lv_at hl 1 rfl) ?_
    refine lv_iload_n hx hb dX12_areAlike_17 rfl (lv_at hl 2 rfl) ?_
    refine lv_iconst (v := 0) hx hb dX12_areAlike_18 (by decide) ?_
    refine lv_iconst (v := 0) hx hb dX12_areAlike_19 (by decide) ?_
    obtain ⟨q4, hq4, h⟩ := f_b h
    refine cl_V (w := (mW G Z Y σ0)) (w' := (mW G Z Y q4.2)) (rv := some (.int q4.1)) (bytes := cX12_puts) (maxL := 8) (ret := (some .boolean)) (C := RX12) (As := [.int x1, .int x2, .int (0 : Int32), .int (0 : Int32)]) (rest := []) (stk := [.int q4.1]) ⟨hx, hb, hml, hown, hts⟩ hK hE hA hP hD hS (c_X12_puts l D G Z Y σ0 F x1 x2 (0 : Int32) (0 : Int32) q4 hq4) (cwV 4 hts (gwV wd_1827 wd_1829 wp_100 wd_11 wd_1830) rfl rfl rfl hd_X12_puts ⟨Nat.le_of_ble_eq_true rfl, Nat.le_of_ble_eq_true rfl⟩) (mg_200 G Z Y σ0) rfl rfl rfl hl.1 rfl (Nat.le_of_ble_eq_true rfl) dX12_areAlike_20 ⟨Nat.zero_le _, Nat.zero_le _⟩ rfl (fun H locs hP hD hS => ?_)
    refine lv_if_eq (tgt := 30) hx hb dX12_areAlike_23 (by decide) (fun c5 => ?_) (fun c5 => ?_)
    · skip
      have h := f_t c5 h
      refine lv_iconst (v := 0) hx hb dX12_areAlike_30 (by decide) ?_
      obtain rfl := Option.some.inj h
      exact W.zret (v := (0 : Int32)) hx hb hr rfl (q_end hK hP hD hS) hS.2.2 dX12_areAlike_31
    · skip
      have h := f_f c5 h
      refine lv_iconst (v := 1) hx hb dX12_areAlike_26 (by decide) ?_
      refine lv_goto (tgt := 31) hx hb dX12_areAlike_27 (by decide) ?_
      obtain rfl := Option.some.inj h
      exact W.zret (v := (1 : Int32)) hx hb hr rfl (q_end hK hP hD hS) hS.2.2 dX12_areAlike_31
abbrev rm_X12_alike : Room := { frames := 12, cells := 0, slots := 0, locals := 320 }
set_option maxRecDepth 100000 in
set_option maxHeartbeats 8000000 in
theorem c_X12_alike (l : Launch) (D : va_G) (G : hG) (Z : hZ) (Y : va_W) (σ0 : hSt) (F : Nat) (x1 : Int32) (x2 : Int32) (res : (Int32 × hSt)) (h : f_X12_alike F Z σ0 x1 x2 = some res) : CT l yX12_alike cX12_alike 3 (some .int) rm_X12_alike D G 0 0 [.ref (G.2.1 200), .int x1, .int x2] (mW G Z Y σ0) (mW G Z Y res.2) (some (.int res.1)) := by
  unfold f_X12_alike at h
  refine CT.mk (cc := cX12_alike) (maxL := 3) (ret := (some .int)) (own := RX12) (plainFor_of_name (by decide)) rfl (Nat.le_of_ble_eq_true rfl) ?_
  intro p e s m args below meth c A ls C0 hnm hA hP hD hl
  obtain ⟨hx, hb, hr, hml, hown, hts, hlocks, hK, hE⟩ := id C0
  have hS : va_S A s.heap s.heap [] := va_S.rf
  have hl : lv_has ls 3 [(0, .ref (G.2.1 200)), (1, .int x1), (2, .int x2)] := hl
  refine lv_aload_n hx hb dX12_alike_0 rfl (lv_at hl 0 rfl) ?_
  refine lv_iconst (v := 0) hx hb dX12_alike_1 (by decide) ?_
  refine va_put (D := D) (ci := 12) (v := .int (0 : Int32)) (ty := .int) (C := RX12) (T := TX12) (N := 59) hx hb hts inU_X12 tyX12 tyX12_ok nmX12 hown hK hP hD hS _ (mg_200 G Z Y σ0) rfl 0 (by decide) (hts _ wd_1248) (fun _ h9 => h9) rfl (by decide +kernel) rfl rfl (Nat.le_of_ble_eq_true rfl) dX12_alike_2 (fun H locs hP hD hS => ?_)
  have hP := wrP (mp_200_0 G Z Y σ0 (0 : Int32)) hP
  have hD := wrD (mp_200_0 G Z Y σ0 (0 : Int32)) hD
  refine lv_aload_n hx hb dX12_alike_5 rfl (lv_at hl 0 rfl) ?_
  refine lv_iload_n hx hb dX12_alike_6 rfl (lv_at hl 1 rfl) ?_
  obtain ⟨q1, hq1, h⟩ := f_b h
  refine cl_V (w := (mW G Z Y (sI σ0 200 0 (0 : Int32)))) (w' := (mW G Z Y (sI σ0 200 0 (0 : Int32)))) (rv := some (.int q1)) (bytes := cX12_isNet) (maxL := 2) (ret := (some .boolean)) (C := RX12) (As := [.int x1]) (rest := []) (stk := [.int q1]) ⟨hx, hb, hml, hown, hts⟩ hK hE hA hP hD hS (c_X12_isNet l D G Z Y (sI σ0 200 0 (0 : Int32)) x1 q1 hq1) (cwV 1 hts (gwV wd_1819 wd_1821 wp_98 wd_11 wd_1822) rfl rfl rfl hd_X12_isNet ⟨Nat.le_of_ble_eq_true rfl, Nat.le_of_ble_eq_true rfl⟩) (mg_200 G Z Y (sI σ0 200 0 (0 : Int32))) rfl rfl rfl hl.1 rfl (Nat.le_of_ble_eq_true rfl) dX12_alike_7 ⟨Nat.zero_le _, Nat.zero_le _⟩ rfl (fun H locs hP hD hS => ?_)
  refine lv_if_eq (tgt := 21) hx hb dX12_alike_10 (by decide) (fun c2 => ?_) (fun c2 => ?_)
  · skip
    have h := f_t c2 h
    refine lv_iconst (v := (-1)) hx hb dX12_alike_21 (by decide) ?_
    refine lv_goto (tgt := 39) hx hb dX12_alike_22 (by decide) ?_
    obtain rfl := Option.some.inj h
    exact W.iret (v := (-1 : Int32)) hx hb hr (q_end hK hP hD hS) hS.2.2 dX12_alike_39
  · skip
    have h := f_f c2 h
    refine lv_aload_n hx hb dX12_alike_13 rfl (lv_at hl 0 rfl) ?_
    refine lv_iload_n hx hb dX12_alike_14 rfl (lv_at hl 2 rfl) ?_
    obtain ⟨q3, hq3, h⟩ := f_b h
    refine cl_V (w := (mW G Z Y (sI σ0 200 0 (0 : Int32)))) (w' := (mW G Z Y (sI σ0 200 0 (0 : Int32)))) (rv := some (.int q3)) (bytes := cX12_isNet) (maxL := 2) (ret := (some .boolean)) (C := RX12) (As := [.int x2]) (rest := []) (stk := [.int q3]) ⟨hx, hb, hml, hown, hts⟩ hK hE hA hP hD hS (c_X12_isNet l D G Z Y (sI σ0 200 0 (0 : Int32)) x2 q3 hq3) (cwV 1 hts (gwV wd_1819 wd_1821 wp_98 wd_11 wd_1822) rfl rfl rfl hd_X12_isNet ⟨Nat.le_of_ble_eq_true rfl, Nat.le_of_ble_eq_true rfl⟩) (mg_200 G Z Y (sI σ0 200 0 (0 : Int32))) rfl rfl rfl hl.1 rfl (Nat.le_of_ble_eq_true rfl) dX12_alike_15 ⟨Nat.zero_le _, Nat.zero_le _⟩ rfl (fun H locs hP hD hS => ?_)
    refine lv_if_ne (tgt := 25) hx hb dX12_alike_18 (by decide) (fun c4 => ?_) (fun c4 => ?_)
    · skip
      have h := f_f c4 h
      refine lv_aload_n hx hb dX12_alike_25 rfl (lv_at hl 0 rfl) ?_
      refine lv_iload_n hx hb dX12_alike_26 rfl (lv_at hl 1 rfl) ?_
      refine lv_iload_n hx hb dX12_alike_27 rfl (lv_at hl 2 rfl) ?_
      obtain ⟨q5, hq5, h⟩ := f_b h
      refine cl_V (w := (mW G Z Y (sI σ0 200 0 (0 : Int32)))) (w' := (mW G Z Y q5.2)) (rv := some (.int q5.1)) (bytes := cX12_areAlike) (maxL := 3) (ret := (some .boolean)) (C := RX12) (As := [.int x1, .int x2]) (rest := []) (stk := [.int q5.1]) ⟨hx, hb, hml, hown, hts⟩ hK hE hA hP hD hS (c_X12_areAlike l D G Z Y (sI σ0 200 0 (0 : Int32)) F x1 x2 q5 hq5) (cwV 2 hts (gwV wd_1823 wd_1825 wp_99 wd_11 wd_1826) rfl rfl rfl hd_X12_areAlike ⟨Nat.le_of_ble_eq_true rfl, Nat.le_of_ble_eq_true rfl⟩) (mg_200 G Z Y (sI σ0 200 0 (0 : Int32))) rfl rfl rfl hl.1 rfl (Nat.le_of_ble_eq_true rfl) dX12_alike_28 ⟨Nat.zero_le _, Nat.zero_le _⟩ rfl (fun H locs hP hD hS => ?_)
      refine lv_if_eq (tgt := 38) hx hb dX12_alike_31 (by decide) (fun c6 => ?_) (fun c6 => ?_)
      · skip
        have h := f_t c6 h
        refine lv_iconst (v := 0) hx hb dX12_alike_38 (by decide) ?_
        obtain rfl := Option.some.inj h
        exact W.iret (v := (0 : Int32)) hx hb hr (q_end hK hP hD hS) hS.2.2 dX12_alike_39
      · skip
        have h := f_f c6 h
        refine lv_iconst (v := 1) hx hb dX12_alike_34 (by decide) ?_
        refine lv_goto (tgt := 39) hx hb dX12_alike_35 (by decide) ?_
        obtain rfl := Option.some.inj h
        exact W.iret (v := (1 : Int32)) hx hb hr (q_end hK hP hD hS) hS.2.2 dX12_alike_39
    · skip
      have h := f_t c4 h
      refine lv_iconst (v := (-1)) hx hb dX12_alike_21 (by decide) ?_
      refine lv_goto (tgt := 39) hx hb dX12_alike_22 (by decide) ?_
      obtain rfl := Option.some.inj h
      exact W.iret (v := (-1 : Int32)) hx hb hr (q_end hK hP hD hS) hS.2.2 dX12_alike_39
abbrev rm_X12_shuffle : Room := { frames := 12, cells := 0, slots := 0, locals := 320 }
set_option maxRecDepth 100000 in
set_option maxHeartbeats 8000000 in
theorem c_X12_shuffle (l : Launch) (D : va_G) (G : hG) (Z : hZ) (Y : va_W) (σ0 : hSt) (F : Nat) (x1 : Int32) (x2 : Int32) (x3 : Int32) (res : (Int32 × hSt)) (h : f_X12_shuffle F Z σ0 x1 x2 x3 = some res) : CT l yX12_shuffle cX12_shuffle 4 (some .int) rm_X12_shuffle D G 0 0 [.ref (G.2.1 200), .int x1, .int x2, .int x3] (mW G Z Y σ0) (mW G Z Y res.2) (some (.int res.1)) := by
  unfold f_X12_shuffle at h
  refine CT.mk (cc := cX12_shuffle) (maxL := 4) (ret := (some .int)) (own := RX12) (plainFor_of_name (by decide)) rfl (Nat.le_of_ble_eq_true rfl) ?_
  intro p e s m args below meth c A ls C0 hnm hA hP hD hl
  obtain ⟨hx, hb, hr, hml, hown, hts, hlocks, hK, hE⟩ := id C0
  have hS : va_S A s.heap s.heap [] := va_S.rf
  have hl : lv_has ls 4 [(0, .ref (G.2.1 200)), (1, .int x1), (2, .int x2), (3, .int x3)] := hl
  refine lv_aload_n hx hb dX12_shuffle_0 rfl (lv_at hl 0 rfl) ?_
  refine lv_iconst (v := 0) hx hb dX12_shuffle_1 (by decide) ?_
  refine va_put (D := D) (ci := 12) (v := .int (0 : Int32)) (ty := .int) (C := RX12) (T := TX12) (N := 59) hx hb hts inU_X12 tyX12 tyX12_ok nmX12 hown hK hP hD hS _ (mg_200 G Z Y σ0) rfl 0 (by decide) (hts _ wd_1248) (fun _ h9 => h9) rfl (by decide +kernel) rfl rfl (Nat.le_of_ble_eq_true rfl) dX12_shuffle_2 (fun H locs hP hD hS => ?_)
  have hP := wrP (mp_200_0 G Z Y σ0 (0 : Int32)) hP
  have hD := wrD (mp_200_0 G Z Y σ0 (0 : Int32)) hD
  refine lv_aload_n hx hb dX12_shuffle_5 rfl (lv_at hl 0 rfl) ?_
  refine lv_iload_n hx hb dX12_shuffle_6 rfl (lv_at hl 1 rfl) ?_
  obtain ⟨q1, hq1, h⟩ := f_b h
  refine cl_V (w := (mW G Z Y (sI σ0 200 0 (0 : Int32)))) (w' := (mW G Z Y (sI σ0 200 0 (0 : Int32)))) (rv := some (.int q1)) (bytes := cX12_isNet) (maxL := 2) (ret := (some .boolean)) (C := RX12) (As := [.int x1]) (rest := []) (stk := [.int q1]) ⟨hx, hb, hml, hown, hts⟩ hK hE hA hP hD hS (c_X12_isNet l D G Z Y (sI σ0 200 0 (0 : Int32)) x1 q1 hq1) (cwV 1 hts (gwV wd_1819 wd_1821 wp_98 wd_11 wd_1822) rfl rfl rfl hd_X12_isNet ⟨Nat.le_of_ble_eq_true rfl, Nat.le_of_ble_eq_true rfl⟩) (mg_200 G Z Y (sI σ0 200 0 (0 : Int32))) rfl rfl rfl hl.1 rfl (Nat.le_of_ble_eq_true rfl) dX12_shuffle_7 ⟨Nat.zero_le _, Nat.zero_le _⟩ rfl (fun H locs hP hD hS => ?_)
  refine lv_if_eq (tgt := 48) hx hb dX12_shuffle_10 (by decide) (fun c2 => ?_) (fun c2 => ?_)
  · skip
    have h := f_t c2 h
    refine lv_iconst (v := (-1)) hx hb dX12_shuffle_48 (by decide) ?_
    obtain rfl := Option.some.inj h
    exact W.iret (v := (-1 : Int32)) hx hb hr (q_end hK hP hD hS) hS.2.2 dX12_shuffle_49
  · skip
    have h := f_f c2 h
    refine lv_aload_n hx hb dX12_shuffle_13 rfl (lv_at hl 0 rfl) ?_
    refine lv_iload_n hx hb dX12_shuffle_14 rfl (lv_at hl 2 rfl) ?_
    obtain ⟨q3, hq3, h⟩ := f_b h
    refine cl_V (w := (mW G Z Y (sI σ0 200 0 (0 : Int32)))) (w' := (mW G Z Y (sI σ0 200 0 (0 : Int32)))) (rv := some (.int q3)) (bytes := cX12_isNet) (maxL := 2) (ret := (some .boolean)) (C := RX12) (As := [.int x2]) (rest := []) (stk := [.int q3]) ⟨hx, hb, hml, hown, hts⟩ hK hE hA hP hD hS (c_X12_isNet l D G Z Y (sI σ0 200 0 (0 : Int32)) x2 q3 hq3) (cwV 1 hts (gwV wd_1819 wd_1821 wp_98 wd_11 wd_1822) rfl rfl rfl hd_X12_isNet ⟨Nat.le_of_ble_eq_true rfl, Nat.le_of_ble_eq_true rfl⟩) (mg_200 G Z Y (sI σ0 200 0 (0 : Int32))) rfl rfl rfl hl.1 rfl (Nat.le_of_ble_eq_true rfl) dX12_shuffle_15 ⟨Nat.zero_le _, Nat.zero_le _⟩ rfl (fun H locs hP hD hS => ?_)
    refine lv_if_eq (tgt := 48) hx hb dX12_shuffle_18 (by decide) (fun c4 => ?_) (fun c4 => ?_)
    · skip
      have h := f_t c4 h
      refine lv_iconst (v := (-1)) hx hb dX12_shuffle_48 (by decide) ?_
      obtain rfl := Option.some.inj h
      exact W.iret (v := (-1 : Int32)) hx hb hr (q_end hK hP hD hS) hS.2.2 dX12_shuffle_49
    · skip
      have h := f_f c4 h
      refine lv_iload_n hx hb dX12_shuffle_21 rfl (lv_at hl 3 rfl) ?_
      refine lv_i2l (v := (x3 : Int32).toInt64) hx hb dX12_shuffle_22 rfl ?_
      refine lv_lconst (v := 0) hx hb dX12_shuffle_23 (by decide) ?_
      refine lv_aload_n hx hb dX12_shuffle_24 rfl (lv_at hl 0 rfl) ?_
      refine va_get (D := D) (ci := 12) (v := .ref (G.2.1 222)) (C := RX12) (T := TX12) (N := 59) hx hb hts inU_X12 hown hK hP _ (mg_200 G Z Y (sI σ0 200 0 (0 : Int32))) rfl 54 (by decide) (hts _ wd_1301) (fun _ h9 => h9) rfl dX12_shuffle_25 ?_
      refine lv_iload_n hx hb dX12_shuffle_28 rfl (lv_at hl 1 rfl) ?_
      obtain ⟨c5, h⟩ := f_n h
      refine va_ialdE (v := (σ0.1 222 ((x1 : Int32).toNatClampNeg))) hx hb hK hP _ 0 (mg_222 G Z Y (sI σ0 200 0 (0 : Int32))) rfl c5 dX12_shuffle_29 rfl ?_
      refine lv_iconst (v := 1) hx hb dX12_shuffle_30 (by decide) ?_
      refine lv_isub hx hb dX12_shuffle_31 ?_
      refine lv_i2l (v := (((σ0.1 222 ((x1 : Int32).toNatClampNeg)) - (1 : Int32)) : Int32).toInt64) hx hb dX12_shuffle_32 rfl ?_
      obtain ⟨q6, hq6, h⟩ := f_b h
      refine cl_S (w := (mW G Z Y (sI σ0 200 0 (0 : Int32)))) (w' := (mW G Z Y (sI σ0 200 0 (0 : Int32)))) (rv := some (.int q6)) (bytes := cX12_isIn) (maxL := 6) (ret := (some .boolean)) (As := [.long (x3 : Int32).toInt64, .long (0 : Int64), .long (((σ0.1 222 ((x1 : Int32).toNatClampNeg)) - (1 : Int32)) : Int32).toInt64]) (rest := []) (stk := [.int q6]) ⟨hx, hb, hml, hown, hts⟩ hK hE hA hP hD hS (c_X12_isIn l D G (mW G Z Y (sI σ0 200 0 (0 : Int32))) ((x3 : Int32).toInt64) (0 : Int64) ((((σ0.1 222 ((x1 : Int32).toNatClampNeg)) - (1 : Int32)) : Int32).toInt64) q6 hq6) (mkS hts wd_1498 wd_1499 wd_11 wd_1500 rfl rfl hd_X12_isIn ⟨Nat.le_of_ble_eq_true rfl, Nat.le_of_ble_eq_true rfl⟩) rfl hl.1 rfl (Nat.le_of_ble_eq_true rfl) dX12_shuffle_33 ⟨Nat.zero_le _, Nat.zero_le _⟩ rfl (fun H locs hP hD hS => ?_)
      refine lv_if_eq (tgt := 48) hx hb dX12_shuffle_36 (by decide) (fun c7 => ?_) (fun c7 => ?_)
      · skip
        have h := f_t c7 h
        refine lv_iconst (v := (-1)) hx hb dX12_shuffle_48 (by decide) ?_
        obtain rfl := Option.some.inj h
        exact W.iret (v := (-1 : Int32)) hx hb hr (q_end hK hP hD hS) hS.2.2 dX12_shuffle_49
      · skip
        have h := f_f c7 h
        refine lv_aload_n hx hb dX12_shuffle_39 rfl (lv_at hl 0 rfl) ?_
        refine lv_iload_n hx hb dX12_shuffle_40 rfl (lv_at hl 1 rfl) ?_
        refine lv_iload_n hx hb dX12_shuffle_41 rfl (lv_at hl 2 rfl) ?_
        obtain ⟨q8, hq8, h⟩ := f_b h
        refine cl_V (w := (mW G Z Y (sI σ0 200 0 (0 : Int32)))) (w' := (mW G Z Y q8.2)) (rv := some (.int q8.1)) (bytes := cX12_areAlike) (maxL := 3) (ret := (some .boolean)) (C := RX12) (As := [.int x1, .int x2]) (rest := []) (stk := [.int q8.1]) ⟨hx, hb, hml, hown, hts⟩ hK hE hA hP hD hS (c_X12_areAlike l D G Z Y (sI σ0 200 0 (0 : Int32)) F x1 x2 q8 hq8) (cwV 2 hts (gwV wd_1823 wd_1825 wp_99 wd_11 wd_1826) rfl rfl rfl hd_X12_areAlike ⟨Nat.le_of_ble_eq_true rfl, Nat.le_of_ble_eq_true rfl⟩) (mg_200 G Z Y (sI σ0 200 0 (0 : Int32))) rfl rfl rfl hl.1 rfl (Nat.le_of_ble_eq_true rfl) dX12_shuffle_42 ⟨Nat.zero_le _, Nat.zero_le _⟩ rfl (fun H locs hP hD hS => ?_)
        refine lv_if_ne (tgt := 50) hx hb dX12_shuffle_45 (by decide) (fun c9 => ?_) (fun c9 => ?_)
        · skip
          have h := f_f c9 h
          refine lv_aload_n hx hb dX12_shuffle_50 rfl (lv_at hl 0 rfl) ?_
          refine va_get (D := D) (ci := 12) (v := .ref (G.2.1 224)) (C := RX12) (T := TX12) (N := 59) hx hb hts inU_X12 hown hK hP _ (mg_200 G Z Y q8.2) rfl 56 (by decide) (hts _ wd_1303) (fun _ h9 => h9) rfl dX12_shuffle_51 ?_
          refine lv_iload_n hx hb dX12_shuffle_54 rfl (lv_at hl 3 rfl) ?_
          obtain ⟨c10, h⟩ := f_n h
          refine va_ialdE (v := (q8.2.1 224 ((x3 : Int32).toNatClampNeg))) hx hb hK hP _ 0 (mg_224 G Z Y q8.2) rfl c10 dX12_shuffle_55 rfl ?_
          obtain rfl := Option.some.inj h
          exact W.iret (v := (q8.2.1 224 ((x3 : Int32).toNatClampNeg))) hx hb hr (q_end hK hP hD hS) hS.2.2 dX12_shuffle_56
        · skip
          have h := f_t c9 h
          refine lv_iconst (v := (-1)) hx hb dX12_shuffle_48 (by decide) ?_
          obtain rfl := Option.some.inj h
          exact W.iret (v := (-1 : Int32)) hx hb hr (q_end hK hP hD hS) hS.2.2 dX12_shuffle_49
abbrev rm_X12_unlike : Room := { frames := 12, cells := 0, slots := 0, locals := 320 }
set_option maxRecDepth 100000 in
set_option maxHeartbeats 8000000 in
theorem W_X12_unlike_L73 {p : Program} {e : Env} {s : State} {m : MethodId} {args : Array Value} {below : List Frame} {meth : Method} {c : Code} {A : Nat → Prop} (l : Launch) (D : va_G) (G : hG) (Z : hZ) (Y : va_W) (σ0 : hSt) (F : Nat) (x1 : Int32) (x2 : Int32) (x3 : Int64) (x5 : Int32) (σ1 : hSt) (y1 : Int32) (y2 : Int32) (y5 : Int32) (y6 : Int32) (res : (Int32 × hSt)) (C0 : Cx p s m args meth c cX12_unlike (some .int) RX12 12 D G A) (hA : ∀ q : Nat, s.heap.size ≤ q → A q) : ∀ (n : Nat) (z7 : Int64) (z9 : Int32) (z10 : Int32), f_X12_unlike_L73 σ1 y1 y2 y5 y6 n z7 z9 z10 = some res → ∀ (H : Heap) (locs : List Loc) (ls : Array Slot), va_P D vwCl (mW G Z Y σ1) H → va_D A (mW G Z Y σ1) → va_S A s.heap H locs → lv_has ls 12 [(1, .int y1), (2, .int y2), (5, .int y5), (6, .int y6), (7, .long z7), (9, .int z9), (10, .int z10)] → W p l e rm_X12_unlike s m args below meth c H locs 0 0 (MQ below (Qg (some (.int res.1)) D (tysG G) (mW G Z Y res.2) A) args s 0 0 A) (F0 m 73 ls []) := by
  obtain ⟨hx, hb, hr, hml, hown, hts, hlocks, hK, hE⟩ := id C0
  intro n
  induction n with
  | zero =>
    intro z7 z9 z10 h
    cases h
  | succ n ih =>
    intro z7 z9 z10 h H locs ls hP hD hS hl
    rw [f_X12_unlike_L73] at h
    refine lv_iload hx hb dX12_unlike_73 (lv_at hl 6 rfl) ?_
    refine lv_iload hx hb dX12_unlike_75 (lv_at hl 2 rfl) ?_
    refine lv_icmp_ge (tgt := 144) hx hb dX12_unlike_77 (by decide) (fun c12 => ?_) (fun c12 => ?_)
    · skip
      have h := f_t c12 h
      refine lv_iload hx hb dX12_unlike_144 (lv_at hl 5 rfl) ?_
      obtain rfl := Option.some.inj h
      exact W.iret (v := z9) hx hb hr (q_end hK hP hD hS) hS.2.2 dX12_unlike_146
    · skip
      have h := f_f c12 h
      refine lv_lload hx hb dX12_unlike_80 (lv_at hl 4 rfl) ?_
      refine lv_ldc2 (v := 6364136223846793005) hx hb hown (hts _ wd_1677) dX12_unlike_82 ?_
      refine lv_lmul hx hb dX12_unlike_85 ?_
      refine lv_ldc2 (v := 1442695040888963407) hx hb hown (hts _ wd_1678) dX12_unlike_86 ?_
      refine lv_ladd hx hb dX12_unlike_89 ?_
      refine lv_lstore (lv' := [(7, .long ((z7 * (6364136223846793005 : Int64)) + (1442695040888963407 : Int64))), (1, .int y1), (2, .int y2), (5, .int y5), (6, .int y6), (9, .int z9), (10, .int z10)]) hx hb dX12_unlike_90 hl (by decide) rfl (fun ls hl => ?_)
      refine lv_lload hx hb dX12_unlike_92 (lv_at hl 0 rfl) ?_
      refine lv_bipush (v := 33) hx hb dX12_unlike_94 (by decide) ?_
      refine lv_lushr (v := ((((z7 * (6364136223846793005 : Int64)) + (1442695040888963407 : Int64))).toUInt64 >>> (((33 : Int32) : Int32).toInt64.toUInt64 &&& Int64.toUInt64 63)).toInt64) hx hb dX12_unlike_96 rfl ?_
      refine lv_ldc2 (v := 2) hx hb hown (hts _ wd_1541) dX12_unlike_97 ?_
      refine lv_lrem hx hb dX12_unlike_100 (by decide) ?_
      refine lv_lconst (v := 0) hx hb dX12_unlike_101 (by decide) ?_
      refine W.lcmp hx hb dX12_unlike_102 ?_
      refine lv_if_ne (tgt := 110) hx hb dX12_unlike_103 (by decide) (fun c13 => ?_) (fun c13 => ?_)
      · skip
        have c13 := mt (lg_cmp_eq _ _).mpr c13
        have h := f_f c13 h
        refine lv_iload_n hx hb dX12_unlike_110 rfl (lv_at hl 2 rfl) ?_
        refine lv_istore (lv' := [(11, .int y2), (7, .long ((z7 * (6364136223846793005 : Int64)) + (1442695040888963407 : Int64))), (1, .int y1), (2, .int y2), (5, .int y5), (6, .int y6), (9, .int z9), (10, .int z10)]) hx hb dX12_unlike_111 hl (by decide) rfl (fun ls hl => ?_)
        refine lv_iload hx hb dX12_unlike_113 (lv_at hl 6 rfl) ?_
        refine lv_iload hx hb dX12_unlike_115 (lv_at hl 5 rfl) ?_
        refine lv_if_eq (tgt := 130) hx hb dX12_unlike_117 (by decide) (fun c14 => ?_) (fun c14 => ?_)
        · skip
          have h := f_t c14 h
          refine lv_iconst (v := 1) hx hb dX12_unlike_130 (by decide) ?_
          refine lv_goto (tgt := 135) hx hb dX12_unlike_131 (by decide) ?_
          refine lv_iadd hx hb dX12_unlike_135 ?_
          refine lv_istore (lv' := [(9, .int (z9 + (1 : Int32))), (11, .int y2), (7, .long ((z7 * (6364136223846793005 : Int64)) + (1442695040888963407 : Int64))), (1, .int y1), (2, .int y2), (5, .int y5), (6, .int y6), (10, .int z10)]) hx hb dX12_unlike_136 hl (by decide) rfl (fun ls hl => ?_)
          refine lv_iinc (v := (z10 + 1)) (lv' := [(10, .int (z10 + 1)), (9, .int (z9 + (1 : Int32))), (11, .int y2), (7, .long ((z7 * (6364136223846793005 : Int64)) + (1442695040888963407 : Int64))), (1, .int y1), (2, .int y2), (5, .int y5), (6, .int y6)]) hx hb dX12_unlike_138 hl (k := 7) rfl rfl (by decide) rfl (fun ls hl => ?_)
          refine lv_goto (tgt := 73) hx hb dX12_unlike_141 (by decide) ?_
          exact ih ((z7 * (6364136223846793005 : Int64)) + (1442695040888963407 : Int64)) (z9 + (1 : Int32)) (z10 + 1) h _ _ _ hP hD hS (lv_sub hl [4, 5, 6, 7, 3, 1, 0] rfl)
        · skip
          have h := f_f c14 h
          refine lv_iload hx hb dX12_unlike_120 (lv_at hl 0 rfl) ?_
          refine lv_iload_n hx hb dX12_unlike_122 rfl (lv_at hl 2 rfl) ?_
          refine lv_iload_n hx hb dX12_unlike_123 rfl (lv_at hl 3 rfl) ?_
          refine va_mmin hx hb (hml.trans hl.1.symm) hown (hts _ wd_1719) (hts _ wd_400) (hts _ wd_12) (hts _ wd_401) (Nat.le_of_ble_eq_true rfl) (Nat.le_of_ble_eq_true rfl) (Nat.zero_le _) (Nat.zero_le _) dX12_unlike_124 ?_
          refine lv_icmp_ne (tgt := 134) hx hb dX12_unlike_127 (by decide) (fun c15 => ?_) (fun c15 => ?_)
          · skip
            have h := f_f c15 h
            refine lv_iconst (v := 0) hx hb dX12_unlike_134 (by decide) ?_
            refine lv_iadd hx hb dX12_unlike_135 ?_
            refine lv_istore (lv' := [(9, .int (z9 + (0 : Int32))), (11, .int y2), (7, .long ((z7 * (6364136223846793005 : Int64)) + (1442695040888963407 : Int64))), (1, .int y1), (2, .int y2), (5, .int y5), (6, .int y6), (10, .int z10)]) hx hb dX12_unlike_136 hl (by decide) rfl (fun ls hl => ?_)
            refine lv_iinc (v := (z10 + 1)) (lv' := [(10, .int (z10 + 1)), (9, .int (z9 + (0 : Int32))), (11, .int y2), (7, .long ((z7 * (6364136223846793005 : Int64)) + (1442695040888963407 : Int64))), (1, .int y1), (2, .int y2), (5, .int y5), (6, .int y6)]) hx hb dX12_unlike_138 hl (k := 7) rfl rfl (by decide) rfl (fun ls hl => ?_)
            refine lv_goto (tgt := 73) hx hb dX12_unlike_141 (by decide) ?_
            exact ih ((z7 * (6364136223846793005 : Int64)) + (1442695040888963407 : Int64)) (z9 + (0 : Int32)) (z10 + 1) h _ _ _ hP hD hS (lv_sub hl [4, 5, 6, 7, 3, 1, 0] rfl)
          · skip
            have h := f_t c15 h
            refine lv_iconst (v := 1) hx hb dX12_unlike_130 (by decide) ?_
            refine lv_goto (tgt := 135) hx hb dX12_unlike_131 (by decide) ?_
            refine lv_iadd hx hb dX12_unlike_135 ?_
            refine lv_istore (lv' := [(9, .int (z9 + (1 : Int32))), (11, .int y2), (7, .long ((z7 * (6364136223846793005 : Int64)) + (1442695040888963407 : Int64))), (1, .int y1), (2, .int y2), (5, .int y5), (6, .int y6), (10, .int z10)]) hx hb dX12_unlike_136 hl (by decide) rfl (fun ls hl => ?_)
            refine lv_iinc (v := (z10 + 1)) (lv' := [(10, .int (z10 + 1)), (9, .int (z9 + (1 : Int32))), (11, .int y2), (7, .long ((z7 * (6364136223846793005 : Int64)) + (1442695040888963407 : Int64))), (1, .int y1), (2, .int y2), (5, .int y5), (6, .int y6)]) hx hb dX12_unlike_138 hl (k := 7) rfl rfl (by decide) rfl (fun ls hl => ?_)
            refine lv_goto (tgt := 73) hx hb dX12_unlike_141 (by decide) ?_
            exact ih ((z7 * (6364136223846793005 : Int64)) + (1442695040888963407 : Int64)) (z9 + (1 : Int32)) (z10 + 1) h _ _ _ hP hD hS (lv_sub hl [4, 5, 6, 7, 3, 1, 0] rfl)
      · skip
        have c13 := (lg_cmp_eq _ _).mp c13
        have h := f_t c13 h
        refine lv_iload_n hx hb dX12_unlike_106 rfl (lv_at hl 1 rfl) ?_
        refine lv_goto (tgt := 111) hx hb dX12_unlike_107 (by decide) ?_
        refine lv_istore (lv' := [(11, .int y1), (7, .long ((z7 * (6364136223846793005 : Int64)) + (1442695040888963407 : Int64))), (1, .int y1), (2, .int y2), (5, .int y5), (6, .int y6), (9, .int z9), (10, .int z10)]) hx hb dX12_unlike_111 hl (by decide) rfl (fun ls hl => ?_)
        refine lv_iload hx hb dX12_unlike_113 (lv_at hl 6 rfl) ?_
        refine lv_iload hx hb dX12_unlike_115 (lv_at hl 5 rfl) ?_
        refine lv_if_eq (tgt := 130) hx hb dX12_unlike_117 (by decide) (fun c16 => ?_) (fun c16 => ?_)
        · skip
          have h := f_t c16 h
          refine lv_iconst (v := 1) hx hb dX12_unlike_130 (by decide) ?_
          refine lv_goto (tgt := 135) hx hb dX12_unlike_131 (by decide) ?_
          refine lv_iadd hx hb dX12_unlike_135 ?_
          refine lv_istore (lv' := [(9, .int (z9 + (1 : Int32))), (11, .int y1), (7, .long ((z7 * (6364136223846793005 : Int64)) + (1442695040888963407 : Int64))), (1, .int y1), (2, .int y2), (5, .int y5), (6, .int y6), (10, .int z10)]) hx hb dX12_unlike_136 hl (by decide) rfl (fun ls hl => ?_)
          refine lv_iinc (v := (z10 + 1)) (lv' := [(10, .int (z10 + 1)), (9, .int (z9 + (1 : Int32))), (11, .int y1), (7, .long ((z7 * (6364136223846793005 : Int64)) + (1442695040888963407 : Int64))), (1, .int y1), (2, .int y2), (5, .int y5), (6, .int y6)]) hx hb dX12_unlike_138 hl (k := 7) rfl rfl (by decide) rfl (fun ls hl => ?_)
          refine lv_goto (tgt := 73) hx hb dX12_unlike_141 (by decide) ?_
          exact ih ((z7 * (6364136223846793005 : Int64)) + (1442695040888963407 : Int64)) (z9 + (1 : Int32)) (z10 + 1) h _ _ _ hP hD hS (lv_sub hl [4, 5, 6, 7, 3, 1, 0] rfl)
        · skip
          have h := f_f c16 h
          refine lv_iload hx hb dX12_unlike_120 (lv_at hl 0 rfl) ?_
          refine lv_iload_n hx hb dX12_unlike_122 rfl (lv_at hl 2 rfl) ?_
          refine lv_iload_n hx hb dX12_unlike_123 rfl (lv_at hl 3 rfl) ?_
          refine va_mmin hx hb (hml.trans hl.1.symm) hown (hts _ wd_1719) (hts _ wd_400) (hts _ wd_12) (hts _ wd_401) (Nat.le_of_ble_eq_true rfl) (Nat.le_of_ble_eq_true rfl) (Nat.zero_le _) (Nat.zero_le _) dX12_unlike_124 ?_
          refine lv_icmp_ne (tgt := 134) hx hb dX12_unlike_127 (by decide) (fun c17 => ?_) (fun c17 => ?_)
          · skip
            have h := f_f c17 h
            refine lv_iconst (v := 0) hx hb dX12_unlike_134 (by decide) ?_
            refine lv_iadd hx hb dX12_unlike_135 ?_
            refine lv_istore (lv' := [(9, .int (z9 + (0 : Int32))), (11, .int y1), (7, .long ((z7 * (6364136223846793005 : Int64)) + (1442695040888963407 : Int64))), (1, .int y1), (2, .int y2), (5, .int y5), (6, .int y6), (10, .int z10)]) hx hb dX12_unlike_136 hl (by decide) rfl (fun ls hl => ?_)
            refine lv_iinc (v := (z10 + 1)) (lv' := [(10, .int (z10 + 1)), (9, .int (z9 + (0 : Int32))), (11, .int y1), (7, .long ((z7 * (6364136223846793005 : Int64)) + (1442695040888963407 : Int64))), (1, .int y1), (2, .int y2), (5, .int y5), (6, .int y6)]) hx hb dX12_unlike_138 hl (k := 7) rfl rfl (by decide) rfl (fun ls hl => ?_)
            refine lv_goto (tgt := 73) hx hb dX12_unlike_141 (by decide) ?_
            exact ih ((z7 * (6364136223846793005 : Int64)) + (1442695040888963407 : Int64)) (z9 + (0 : Int32)) (z10 + 1) h _ _ _ hP hD hS (lv_sub hl [4, 5, 6, 7, 3, 1, 0] rfl)
          · skip
            have h := f_t c17 h
            refine lv_iconst (v := 1) hx hb dX12_unlike_130 (by decide) ?_
            refine lv_goto (tgt := 135) hx hb dX12_unlike_131 (by decide) ?_
            refine lv_iadd hx hb dX12_unlike_135 ?_
            refine lv_istore (lv' := [(9, .int (z9 + (1 : Int32))), (11, .int y1), (7, .long ((z7 * (6364136223846793005 : Int64)) + (1442695040888963407 : Int64))), (1, .int y1), (2, .int y2), (5, .int y5), (6, .int y6), (10, .int z10)]) hx hb dX12_unlike_136 hl (by decide) rfl (fun ls hl => ?_)
            refine lv_iinc (v := (z10 + 1)) (lv' := [(10, .int (z10 + 1)), (9, .int (z9 + (1 : Int32))), (11, .int y1), (7, .long ((z7 * (6364136223846793005 : Int64)) + (1442695040888963407 : Int64))), (1, .int y1), (2, .int y2), (5, .int y5), (6, .int y6)]) hx hb dX12_unlike_138 hl (k := 7) rfl rfl (by decide) rfl (fun ls hl => ?_)
            refine lv_goto (tgt := 73) hx hb dX12_unlike_141 (by decide) ?_
            exact ih ((z7 * (6364136223846793005 : Int64)) + (1442695040888963407 : Int64)) (z9 + (1 : Int32)) (z10 + 1) h _ _ _ hP hD hS (lv_sub hl [4, 5, 6, 7, 3, 1, 0] rfl)
set_option maxRecDepth 100000 in
set_option maxHeartbeats 8000000 in
theorem c_X12_unlike (l : Launch) (D : va_G) (G : hG) (Z : hZ) (Y : va_W) (σ0 : hSt) (F : Nat) (x1 : Int32) (x2 : Int32) (x3 : Int64) (x5 : Int32) (res : (Int32 × hSt)) (h : f_X12_unlike F Z σ0 x1 x2 x3 x5 = some res) : CT l yX12_unlike cX12_unlike 12 (some .int) rm_X12_unlike D G 0 0 [.ref (G.2.1 200), .int x1, .int x2, .long x3, .int x5] (mW G Z Y σ0) (mW G Z Y res.2) (some (.int res.1)) := by
  unfold f_X12_unlike at h
  refine CT.mk (cc := cX12_unlike) (maxL := 12) (ret := (some .int)) (own := RX12) (plainFor_of_name (by decide)) rfl (Nat.le_of_ble_eq_true rfl) ?_
  intro p e s m args below meth c A ls C0 hnm hA hP hD hl
  obtain ⟨hx, hb, hr, hml, hown, hts, hlocks, hK, hE⟩ := id C0
  have hS : va_S A s.heap s.heap [] := va_S.rf
  have hl : lv_has ls 12 [(0, .ref (G.2.1 200)), (1, .int x1), (2, .int x2), (3, .long x3), (5, .int x5)] := hl
  refine lv_aload_n hx hb dX12_unlike_0 rfl (lv_at hl 0 rfl) ?_
  refine lv_iconst (v := 0) hx hb dX12_unlike_1 (by decide) ?_
  refine va_put (D := D) (ci := 12) (v := .int (0 : Int32)) (ty := .int) (C := RX12) (T := TX12) (N := 59) hx hb hts inU_X12 tyX12 tyX12_ok nmX12 hown hK hP hD hS _ (mg_200 G Z Y σ0) rfl 0 (by decide) (hts _ wd_1248) (fun _ h9 => h9) rfl (by decide +kernel) rfl rfl (Nat.le_of_ble_eq_true rfl) dX12_unlike_2 (fun H locs hP hD hS => ?_)
  have hP := wrP (mp_200_0 G Z Y σ0 (0 : Int32)) hP
  have hD := wrD (mp_200_0 G Z Y σ0 (0 : Int32)) hD
  refine lv_aload_n hx hb dX12_unlike_5 rfl (lv_at hl 0 rfl) ?_
  refine lv_iload_n hx hb dX12_unlike_6 rfl (lv_at hl 1 rfl) ?_
  obtain ⟨q1, hq1, h⟩ := f_b h
  refine cl_V (w := (mW G Z Y (sI σ0 200 0 (0 : Int32)))) (w' := (mW G Z Y (sI σ0 200 0 (0 : Int32)))) (rv := some (.int q1)) (bytes := cX12_isNet) (maxL := 2) (ret := (some .boolean)) (C := RX12) (As := [.int x1]) (rest := []) (stk := [.int q1]) ⟨hx, hb, hml, hown, hts⟩ hK hE hA hP hD hS (c_X12_isNet l D G Z Y (sI σ0 200 0 (0 : Int32)) x1 q1 hq1) (cwV 1 hts (gwV wd_1819 wd_1821 wp_98 wd_11 wd_1822) rfl rfl rfl hd_X12_isNet ⟨Nat.le_of_ble_eq_true rfl, Nat.le_of_ble_eq_true rfl⟩) (mg_200 G Z Y (sI σ0 200 0 (0 : Int32))) rfl rfl rfl hl.1 rfl (Nat.le_of_ble_eq_true rfl) dX12_unlike_7 ⟨Nat.zero_le _, Nat.zero_le _⟩ rfl (fun H locs hP hD hS => ?_)
  refine lv_if_eq (tgt := 54) hx hb dX12_unlike_10 (by decide) (fun c2 => ?_) (fun c2 => ?_)
  · skip
    have h := f_t c2 h
    refine lv_iconst (v := (-1)) hx hb dX12_unlike_54 (by decide) ?_
    obtain rfl := Option.some.inj h
    exact W.iret (v := (-1 : Int32)) hx hb hr (q_end hK hP hD hS) hS.2.2 dX12_unlike_55
  · skip
    have h := f_f c2 h
    refine lv_aload_n hx hb dX12_unlike_13 rfl (lv_at hl 0 rfl) ?_
    refine lv_iload_n hx hb dX12_unlike_14 rfl (lv_at hl 2 rfl) ?_
    obtain ⟨q3, hq3, h⟩ := f_b h
    refine cl_V (w := (mW G Z Y (sI σ0 200 0 (0 : Int32)))) (w' := (mW G Z Y (sI σ0 200 0 (0 : Int32)))) (rv := some (.int q3)) (bytes := cX12_isNet) (maxL := 2) (ret := (some .boolean)) (C := RX12) (As := [.int x2]) (rest := []) (stk := [.int q3]) ⟨hx, hb, hml, hown, hts⟩ hK hE hA hP hD hS (c_X12_isNet l D G Z Y (sI σ0 200 0 (0 : Int32)) x2 q3 hq3) (cwV 1 hts (gwV wd_1819 wd_1821 wp_98 wd_11 wd_1822) rfl rfl rfl hd_X12_isNet ⟨Nat.le_of_ble_eq_true rfl, Nat.le_of_ble_eq_true rfl⟩) (mg_200 G Z Y (sI σ0 200 0 (0 : Int32))) rfl rfl rfl hl.1 rfl (Nat.le_of_ble_eq_true rfl) dX12_unlike_15 ⟨Nat.zero_le _, Nat.zero_le _⟩ rfl (fun H locs hP hD hS => ?_)
    refine lv_if_eq (tgt := 54) hx hb dX12_unlike_18 (by decide) (fun c4 => ?_) (fun c4 => ?_)
    · skip
      have h := f_t c4 h
      refine lv_iconst (v := (-1)) hx hb dX12_unlike_54 (by decide) ?_
      obtain rfl := Option.some.inj h
      exact W.iret (v := (-1 : Int32)) hx hb hr (q_end hK hP hD hS) hS.2.2 dX12_unlike_55
    · skip
      have h := f_f c4 h
      refine lv_iload_n hx hb dX12_unlike_21 rfl (lv_at hl 1 rfl) ?_
      refine lv_iload_n hx hb dX12_unlike_22 rfl (lv_at hl 2 rfl) ?_
      refine lv_icmp_eq (tgt := 54) hx hb dX12_unlike_23 (by decide) (fun c5 => ?_) (fun c5 => ?_)
      · skip
        have h := f_t c5 h
        refine lv_iconst (v := (-1)) hx hb dX12_unlike_54 (by decide) ?_
        obtain rfl := Option.some.inj h
        exact W.iret (v := (-1 : Int32)) hx hb hr (q_end hK hP hD hS) hS.2.2 dX12_unlike_55
      · skip
        have h := f_f c5 h
        refine lv_aload_n hx hb dX12_unlike_26 rfl (lv_at hl 0 rfl) ?_
        refine va_get (D := D) (ci := 12) (v := .ref (G.2.1 222)) (C := RX12) (T := TX12) (N := 59) hx hb hts inU_X12 hown hK hP _ (mg_200 G Z Y (sI σ0 200 0 (0 : Int32))) rfl 54 (by decide) (hts _ wd_1301) (fun _ h9 => h9) rfl dX12_unlike_27 ?_
        refine lv_iload_n hx hb dX12_unlike_30 rfl (lv_at hl 1 rfl) ?_
        obtain ⟨c6, h⟩ := f_n h
        refine va_ialdE (v := (σ0.1 222 ((x1 : Int32).toNatClampNeg))) hx hb hK hP _ 0 (mg_222 G Z Y (sI σ0 200 0 (0 : Int32))) rfl c6 dX12_unlike_31 rfl ?_
        refine lv_aload_n hx hb dX12_unlike_32 rfl (lv_at hl 0 rfl) ?_
        refine va_get (D := D) (ci := 12) (v := .ref (G.2.1 222)) (C := RX12) (T := TX12) (N := 59) hx hb hts inU_X12 hown hK hP _ (mg_200 G Z Y (sI σ0 200 0 (0 : Int32))) rfl 54 (by decide) (hts _ wd_1301) (fun _ h9 => h9) rfl dX12_unlike_33 ?_
        refine lv_iload_n hx hb dX12_unlike_36 rfl (lv_at hl 2 rfl) ?_
        obtain ⟨c7, h⟩ := f_n h
        refine va_ialdE (v := (σ0.1 222 ((x2 : Int32).toNatClampNeg))) hx hb hK hP _ 0 (mg_222 G Z Y (sI σ0 200 0 (0 : Int32))) rfl c7 dX12_unlike_37 rfl ?_
        refine lv_icmp_ne (tgt := 54) hx hb dX12_unlike_38 (by decide) (fun c8 => ?_) (fun c8 => ?_)
        · skip
          have h := f_f c8 h
          refine lv_iconst (v := (-1)) hx hb dX12_unlike_54 (by decide) ?_
          obtain rfl := Option.some.inj h
          exact W.iret (v := (-1 : Int32)) hx hb hr (q_end hK hP hD hS) hS.2.2 dX12_unlike_55
        · skip
          have h := f_t c8 h
          refine lv_iload hx hb dX12_unlike_41 (lv_at hl 4 rfl) ?_
          refine lv_i2l (v := (x5 : Int32).toInt64) hx hb dX12_unlike_43 rfl ?_
          refine lv_lconst (v := 1) hx hb dX12_unlike_44 (by decide) ?_
          refine lv_ldc2 (v := 30) hx hb hown (hts _ wd_1843) dX12_unlike_45 ?_
          obtain ⟨q9, hq9, h⟩ := f_b h
          refine cl_S (w := (mW G Z Y (sI σ0 200 0 (0 : Int32)))) (w' := (mW G Z Y (sI σ0 200 0 (0 : Int32)))) (rv := some (.int q9)) (bytes := cX12_isIn) (maxL := 6) (ret := (some .boolean)) (As := [.long (x5 : Int32).toInt64, .long (1 : Int64), .long (30 : Int64)]) (rest := []) (stk := [.int q9]) ⟨hx, hb, hml, hown, hts⟩ hK hE hA hP hD hS (c_X12_isIn l D G (mW G Z Y (sI σ0 200 0 (0 : Int32))) ((x5 : Int32).toInt64) (1 : Int64) (30 : Int64) q9 hq9) (mkS hts wd_1498 wd_1499 wd_11 wd_1500 rfl rfl hd_X12_isIn ⟨Nat.le_of_ble_eq_true rfl, Nat.le_of_ble_eq_true rfl⟩) rfl hl.1 rfl (Nat.le_of_ble_eq_true rfl) dX12_unlike_48 ⟨Nat.zero_le _, Nat.zero_le _⟩ rfl (fun H locs hP hD hS => ?_)
          refine lv_if_ne (tgt := 56) hx hb dX12_unlike_51 (by decide) (fun c10 => ?_) (fun c10 => ?_)
          · skip
            have h := f_f c10 h
            refine lv_aload_n hx hb dX12_unlike_56 rfl (lv_at hl 0 rfl) ?_
            refine lv_iload_n hx hb dX12_unlike_57 rfl (lv_at hl 1 rfl) ?_
            refine lv_iload_n hx hb dX12_unlike_58 rfl (lv_at hl 2 rfl) ?_
            obtain ⟨q11, hq11, h⟩ := f_b h
            refine cl_V (w := (mW G Z Y (sI σ0 200 0 (0 : Int32)))) (w' := (mW G Z Y q11.2)) (rv := some (.int q11.1)) (bytes := cX12_areAlike) (maxL := 3) (ret := (some .boolean)) (C := RX12) (As := [.int x1, .int x2]) (rest := []) (stk := [.int q11.1]) ⟨hx, hb, hml, hown, hts⟩ hK hE hA hP hD hS (c_X12_areAlike l D G Z Y (sI σ0 200 0 (0 : Int32)) F x1 x2 q11 hq11) (cwV 2 hts (gwV wd_1823 wd_1825 wp_99 wd_11 wd_1826) rfl rfl rfl hd_X12_areAlike ⟨Nat.le_of_ble_eq_true rfl, Nat.le_of_ble_eq_true rfl⟩) (mg_200 G Z Y (sI σ0 200 0 (0 : Int32))) rfl rfl rfl hl.1 rfl (Nat.le_of_ble_eq_true rfl) dX12_unlike_59 ⟨Nat.zero_le _, Nat.zero_le _⟩ rfl (fun H locs hP hD hS => ?_)
            refine lv_istore (lv' := [(6, .int q11.1), (0, .ref (G.2.1 200)), (1, .int x1), (2, .int x2), (3, .long x3), (5, .int x5)]) hx hb dX12_unlike_62 hl (by decide) rfl (fun ls hl => ?_)
            refine lv_lload_n hx hb dX12_unlike_64 rfl (lv_at hl 4 rfl) ?_
            refine lv_lstore (lv' := [(7, .long x3), (6, .int q11.1), (0, .ref (G.2.1 200)), (1, .int x1), (2, .int x2), (3, .long x3), (5, .int x5)]) hx hb dX12_unlike_65 hl (by decide) rfl (fun ls hl => ?_)
            refine lv_iconst (v := 0) hx hb dX12_unlike_67 (by decide) ?_
            refine lv_istore (lv' := [(9, .int (0 : Int32)), (7, .long x3), (6, .int q11.1), (0, .ref (G.2.1 200)), (1, .int x1), (2, .int x2), (3, .long x3), (5, .int x5)]) hx hb dX12_unlike_68 hl (by decide) rfl (fun ls hl => ?_)
            refine lv_iconst (v := 0) hx hb dX12_unlike_70 (by decide) ?_
            refine lv_istore (lv' := [(10, .int (0 : Int32)), (9, .int (0 : Int32)), (7, .long x3), (6, .int q11.1), (0, .ref (G.2.1 200)), (1, .int x1), (2, .int x2), (3, .long x3), (5, .int x5)]) hx hb dX12_unlike_71 hl (by decide) rfl (fun ls hl => ?_)
            refine W_X12_unlike_L73 l D G Z Y σ0 F x1 x2 x3 x5 q11.2 x1 x2 x5 q11.1 res C0 hA F x3 (0 : Int32) (0 : Int32) h _ _ _ hP hD hS (lv_sub hl [5, 6, 8, 3, 2, 1, 0] rfl)
          · skip
            have h := f_t c10 h
            refine lv_iconst (v := (-1)) hx hb dX12_unlike_54 (by decide) ?_
            obtain rfl := Option.some.inj h
            exact W.iret (v := (-1 : Int32)) hx hb hr (q_end hK hP hD hS) hS.2.2 dX12_unlike_55
abbrev rm_X12_agrees : Room := { frames := 0, cells := 0, slots := 0, locals := 0 }
set_option maxRecDepth 100000 in
set_option maxHeartbeats 8000000 in
theorem c_X12_agrees (l : Launch) (D : va_G) (G : hG) (w : va_W) (x0 : Int64) (x2 : Int32) (x3 : Int32) (x4 : Int32) (x5 : Int32) (res : Int32) (h : f_X12_agrees x0 x2 x3 x4 x5 = some res) : CT l yX12_agrees cX12_agrees 6 (some .int) rm_X12_agrees D G 0 0 [.long x0, .int x2, .int x3, .int x4, .int x5] w w (some (.int res)) := by
  unfold f_X12_agrees at h
  refine CT.mk (cc := cX12_agrees) (maxL := 6) (ret := (some .int)) (own := RX12) (plainFor_of_name (by decide)) rfl (Nat.le_of_ble_eq_true rfl) ?_
  intro p e s m args below meth c A ls C0 hnm hA hP hD hl
  obtain ⟨hx, hb, hr, hml, hown, hts, hlocks, hK, hE⟩ := id C0
  have hS : va_S A s.heap s.heap [] := va_S.rf
  have hl : lv_has ls 6 [(0, .long x0), (2, .int x2), (3, .int x3), (4, .int x4), (5, .int x5)] := hl
  refine lv_lload_n hx hb dX12_agrees_0 rfl (lv_at hl 0 rfl) ?_
  refine lv_iload_n hx hb dX12_agrees_1 rfl (lv_at hl 1 rfl) ?_
  refine lv_iconst (v := 3) hx hb dX12_agrees_2 (by decide) ?_
  refine lv_imul hx hb dX12_agrees_3 ?_
  refine lv_iload_n hx hb dX12_agrees_4 rfl (lv_at hl 2 rfl) ?_
  refine lv_iadd hx hb dX12_agrees_5 ?_
  refine lv_iconst (v := 2) hx hb dX12_agrees_6 (by decide) ?_
  refine lv_imul hx hb dX12_agrees_7 ?_
  refine lv_iload hx hb dX12_agrees_8 (lv_at hl 3 rfl) ?_
  refine lv_iadd hx hb dX12_agrees_10 ?_
  refine lv_iconst (v := 2) hx hb dX12_agrees_11 (by decide) ?_
  refine lv_imul hx hb dX12_agrees_12 ?_
  refine lv_iload hx hb dX12_agrees_13 (lv_at hl 4 rfl) ?_
  refine lv_iadd hx hb dX12_agrees_15 ?_
  refine lv_lshr (v := (x0 >>> ((((((((x2 * (3 : Int32)) + x3) * (2 : Int32)) + x4) * (2 : Int32)) + x5) : Int32).toInt64 &&& 63))) hx hb dX12_agrees_16 rfl ?_
  refine lv_lconst (v := 1) hx hb dX12_agrees_17 (by decide) ?_
  refine lv_land hx hb dX12_agrees_18 ?_
  refine lv_l2i (v := (((x0 >>> ((((((((x2 * (3 : Int32)) + x3) * (2 : Int32)) + x4) * (2 : Int32)) + x5) : Int32).toInt64 &&& 63)) &&& (1 : Int64)) : Int64).toInt32) hx hb dX12_agrees_19 rfl ?_
  obtain rfl := Option.some.inj h
  exact W.iret (v := (((x0 >>> ((((((((x2 * (3 : Int32)) + x3) * (2 : Int32)) + x4) * (2 : Int32)) + x5) : Int32).toInt64 &&& 63)) &&& (1 : Int64)) : Int64).toInt32) hx hb hr (q_end hK hP hD hS) hS.2.2 dX12_agrees_20
abbrev rm_X12_rooms : Room := { frames := 1, cells := 0, slots := 0, locals := 30 }
set_option maxRecDepth 100000 in
set_option maxHeartbeats 8000000 in
theorem W_X12_rooms_L93 {p : Program} {e : Env} {s : State} {m : MethodId} {args : Array Value} {below : List Frame} {meth : Method} {c : Code} {A : Nat → Prop} (l : Launch) (D : va_G) (G : hG) (Z : hZ) (Y : va_W) (σ0 : hSt) (F : Nat) (x1 : Int64) (x3 : Int32) (σ1 : hSt) (y1 : Int64) (y3 : Int32) (y4 : Int32) (y5 : Int32) (y6 : Int32) (y7 : Int32) (y9 : Int32) (res : (Int32 × hSt)) (C0 : Cx p s m args meth c cX12_rooms (some .int) RX12 11 D G A) (hA : ∀ q : Nat, s.heap.size ≤ q → A q) (k142 : Int32 → Option (Int32 × hSt)) (hk142 : ∀ (z8 : Int32), k142 z8 = some res → ∀ (H : Heap) (locs : List Loc) (ls : Array Slot), va_P D vwCl (mW G Z Y σ1) H → va_D A (mW G Z Y σ1) → va_S A s.heap H locs → lv_has ls 11 [(1, .long y1), (3, .int y3), (4, .int y4), (5, .int y5), (6, .int y6), (7, .int y7), (8, .int z8), (9, .int y9)] → W p l e rm_X12_rooms s m args below meth c H locs 0 0 (MQ below (Qg (some (.int res.1)) D (tysG G) (mW G Z Y res.2) A) args s 0 0 A) (F0 m 142 ls [])) : ∀ (n : Nat) (z8 : Int32) (z10 : Int32), f_X12_rooms_L93 y1 y3 y4 y5 y6 y7 y9 k142 n z8 z10 = some res → ∀ (H : Heap) (locs : List Loc) (ls : Array Slot), va_P D vwCl (mW G Z Y σ1) H → va_D A (mW G Z Y σ1) → va_S A s.heap H locs → lv_has ls 11 [(1, .long y1), (3, .int y3), (4, .int y4), (5, .int y5), (6, .int y6), (7, .int y7), (8, .int z8), (9, .int y9), (10, .int z10)] → W p l e rm_X12_rooms s m args below meth c H locs 0 0 (MQ below (Qg (some (.int res.1)) D (tysG G) (mW G Z Y res.2) A) args s 0 0 A) (F0 m 93 ls []) := by
  obtain ⟨hx, hb, hr, hml, hown, hts, hlocks, hK, hE⟩ := id C0
  intro n
  induction n with
  | zero =>
    intro z8 z10 h
    cases h
  | succ n ih =>
    intro z8 z10 h H locs ls hP hD hS hl
    rw [f_X12_rooms_L93] at h
    refine lv_iload hx hb dX12_rooms_93 (lv_at hl 8 rfl) ?_
    refine lv_iconst (v := 3) hx hb dX12_rooms_95 (by decide) ?_
    refine lv_icmp_ge (tgt := 142) hx hb dX12_rooms_96 (by decide) (fun c11 => ?_) (fun c11 => ?_)
    · skip
      have h := f_t c11 h
      exact hk142 z8 h _ _ _ hP hD hS (lv_sub hl [0, 1, 2, 3, 4, 5, 6, 7] rfl)
    · skip
      have h := f_f c11 h
      refine lv_iload hx hb dX12_rooms_99 (lv_at hl 6 rfl) ?_
      refine lv_lload_n hx hb dX12_rooms_101 rfl (lv_at hl 0 rfl) ?_
      refine lv_iload hx hb dX12_rooms_102 (lv_at hl 7 rfl) ?_
      refine lv_iload hx hb dX12_rooms_104 (lv_at hl 8 rfl) ?_
      refine lv_iload hx hb dX12_rooms_106 (lv_at hl 3 rfl) ?_
      refine lv_iload hx hb dX12_rooms_108 (lv_at hl 7 rfl) ?_
      refine lv_ishr hx hb dX12_rooms_110 ?_
      refine lv_iconst (v := 1) hx hb dX12_rooms_111 (by decide) ?_
      refine lv_iand hx hb dX12_rooms_112 ?_
      refine lv_iload hx hb dX12_rooms_113 (lv_at hl 5 rfl) ?_
      refine lv_iconst (v := 3) hx hb dX12_rooms_115 (by decide) ?_
      refine lv_iload hx hb dX12_rooms_116 (lv_at hl 4 rfl) ?_
      refine lv_iload hx hb dX12_rooms_118 (lv_at hl 7 rfl) ?_
      refine lv_ishr hx hb dX12_rooms_120 ?_
      refine lv_iconst (v := 1) hx hb dX12_rooms_121 (by decide) ?_
      refine lv_iand hx hb dX12_rooms_122 ?_
      refine lv_imul hx hb dX12_rooms_123 ?_
      refine lv_iload hx hb dX12_rooms_124 (lv_at hl 8 rfl) ?_
      refine lv_iadd hx hb dX12_rooms_126 ?_
      refine lv_ishr hx hb dX12_rooms_127 ?_
      refine lv_iconst (v := 1) hx hb dX12_rooms_128 (by decide) ?_
      refine lv_iand hx hb dX12_rooms_129 ?_
      obtain ⟨q12, hq12, h⟩ := f_b h
      refine cl_S (w := (mW G Z Y σ1)) (w' := (mW G Z Y σ1)) (rv := some (.int q12)) (bytes := cX12_agrees) (maxL := 6) (ret := (some .int)) (As := [.long y1, .int y9, .int z10, .int ((y5 >>> (y9 &&& 31)) &&& (1 : Int32)), .int ((y7 >>> ((((3 : Int32) * ((y6 >>> (y9 &&& 31)) &&& (1 : Int32))) + z10) &&& 31)) &&& (1 : Int32))]) (rest := [.int z8]) (stk := [.int q12, .int z8]) ⟨hx, hb, hml, hown, hts⟩ hK hE hA hP hD hS (c_X12_agrees l D G (mW G Z Y σ1) y1 y9 z10 ((y5 >>> (y9 &&& 31)) &&& (1 : Int32)) ((y7 >>> ((((3 : Int32) * ((y6 >>> (y9 &&& 31)) &&& (1 : Int32))) + z10) &&& 31)) &&& (1 : Int32)) q12 hq12) (mkS hts wd_1849 wd_1850 wd_11 wd_1851 rfl rfl hd_X12_agrees ⟨Nat.le_of_ble_eq_true rfl, Nat.le_of_ble_eq_true rfl⟩) rfl hl.1 rfl (Nat.le_of_ble_eq_true rfl) dX12_rooms_130 ⟨Nat.zero_le _, Nat.zero_le _⟩ rfl (fun H locs hP hD hS => ?_)
      refine lv_iadd hx hb dX12_rooms_133 ?_
      refine lv_istore (lv' := [(8, .int (z8 + q12)), (1, .long y1), (3, .int y3), (4, .int y4), (5, .int y5), (6, .int y6), (7, .int y7), (9, .int y9), (10, .int z10)]) hx hb dX12_rooms_134 hl (by decide) rfl (fun ls hl => ?_)
      refine lv_iinc (v := (z10 + 1)) (lv' := [(10, .int (z10 + 1)), (8, .int (z8 + q12)), (1, .long y1), (3, .int y3), (4, .int y4), (5, .int y5), (6, .int y6), (7, .int y7), (9, .int y9)]) hx hb dX12_rooms_136 hl (k := 8) rfl rfl (by decide) rfl (fun ls hl => ?_)
      refine lv_goto (tgt := 93) hx hb dX12_rooms_139 (by decide) ?_
      exact ih (z8 + q12) (z10 + 1) h _ _ _ hP hD hS (lv_sub hl [2, 3, 4, 5, 6, 7, 1, 8, 0] rfl)
set_option maxRecDepth 100000 in
set_option maxHeartbeats 8000000 in
theorem W_X12_rooms_L84 {p : Program} {e : Env} {s : State} {m : MethodId} {args : Array Value} {below : List Frame} {meth : Method} {c : Code} {A : Nat → Prop} (l : Launch) (D : va_G) (G : hG) (Z : hZ) (Y : va_W) (σ0 : hSt) (F : Nat) (x1 : Int64) (x3 : Int32) (σ1 : hSt) (y1 : Int64) (y3 : Int32) (y4 : Int32) (y5 : Int32) (y6 : Int32) (y7 : Int32) (res : (Int32 × hSt)) (C0 : Cx p s m args meth c cX12_rooms (some .int) RX12 11 D G A) (hA : ∀ q : Nat, s.heap.size ≤ q → A q) (k148 : Int32 → Option (Int32 × hSt)) (hk148 : ∀ (z8 : Int32), k148 z8 = some res → ∀ (H : Heap) (locs : List Loc) (ls : Array Slot), va_P D vwCl (mW G Z Y σ1) H → va_D A (mW G Z Y σ1) → va_S A s.heap H locs → lv_has ls 11 [(1, .long y1), (3, .int y3), (4, .int y4), (5, .int y5), (6, .int y6), (7, .int y7), (8, .int z8)] → W p l e rm_X12_rooms s m args below meth c H locs 0 0 (MQ below (Qg (some (.int res.1)) D (tysG G) (mW G Z Y res.2) A) args s 0 0 A) (F0 m 148 ls [])) : ∀ (n : Nat) (z8 : Int32) (z9 : Int32), f_X12_rooms_L84 F y1 y3 y4 y5 y6 y7 k148 n z8 z9 = some res → ∀ (H : Heap) (locs : List Loc) (ls : Array Slot), va_P D vwCl (mW G Z Y σ1) H → va_D A (mW G Z Y σ1) → va_S A s.heap H locs → lv_has ls 11 [(1, .long y1), (3, .int y3), (4, .int y4), (5, .int y5), (6, .int y6), (7, .int y7), (8, .int z8), (9, .int z9)] → W p l e rm_X12_rooms s m args below meth c H locs 0 0 (MQ below (Qg (some (.int res.1)) D (tysG G) (mW G Z Y res.2) A) args s 0 0 A) (F0 m 84 ls []) := by
  obtain ⟨hx, hb, hr, hml, hown, hts, hlocks, hK, hE⟩ := id C0
  intro n
  induction n with
  | zero =>
    intro z8 z9 h
    cases h
  | succ n ih =>
    intro z8 z9 h H locs ls hP hD hS hl
    rw [f_X12_rooms_L84] at h
    refine lv_iload hx hb dX12_rooms_84 (lv_at hl 7 rfl) ?_
    refine lv_iconst (v := 3) hx hb dX12_rooms_86 (by decide) ?_
    refine lv_icmp_ge (tgt := 148) hx hb dX12_rooms_87 (by decide) (fun c10 => ?_) (fun c10 => ?_)
    · skip
      have h := f_t c10 h
      exact hk148 z8 h _ _ _ hP hD hS (lv_sub hl [0, 1, 2, 3, 4, 5, 6] rfl)
    · skip
      have h := f_f c10 h
      refine lv_iconst (v := 0) hx hb dX12_rooms_90 (by decide) ?_
      refine lv_istore (lv' := [(10, .int (0 : Int32)), (1, .long y1), (3, .int y3), (4, .int y4), (5, .int y5), (6, .int y6), (7, .int y7), (8, .int z8), (9, .int z9)]) hx hb dX12_rooms_91 hl (by decide) rfl (fun ls hl => ?_)
      refine W_X12_rooms_L93 l D G Z Y σ0 F x1 x3 σ1 y1 y3 y4 y5 y6 y7 z9 res C0 hA _ ?_ F z8 (0 : Int32) h _ _ _ hP hD hS (lv_sub hl [1, 2, 3, 4, 5, 6, 7, 8, 0] rfl)
      · intro z8 h H locs ls hP hD hS hl
        refine lv_iinc (v := (z9 + 1)) (lv' := [(9, .int (z9 + 1)), (1, .long y1), (3, .int y3), (4, .int y4), (5, .int y5), (6, .int y6), (7, .int y7), (8, .int z8)]) hx hb dX12_rooms_142 hl (k := 7) rfl rfl (by decide) rfl (fun ls hl => ?_)
        refine lv_goto (tgt := 84) hx hb dX12_rooms_145 (by decide) ?_
        exact ih z8 (z9 + 1) h _ _ _ hP hD hS (lv_sub hl [1, 2, 3, 4, 5, 6, 7, 0] rfl)
set_option maxRecDepth 100000 in
set_option maxHeartbeats 8000000 in
theorem W_X12_rooms_L62 {p : Program} {e : Env} {s : State} {m : MethodId} {args : Array Value} {below : List Frame} {meth : Method} {c : Code} {A : Nat → Prop} (l : Launch) (D : va_G) (G : hG) (Z : hZ) (Y : va_W) (σ0 : hSt) (F : Nat) (x1 : Int64) (x3 : Int32) (σ1 : hSt) (y1 : Int64) (y3 : Int32) (y5 : Int32) (y6 : Int32) (res : (Int32 × hSt)) (C0 : Cx p s m args meth c cX12_rooms (some .int) RX12 11 D G A) (hA : ∀ q : Nat, s.heap.size ≤ q → A q) (k163 : Int32 → Option (Int32 × hSt)) (hk163 : ∀ (z4 : Int32), k163 z4 = some res → ∀ (H : Heap) (locs : List Loc) (ls : Array Slot), va_P D vwCl (mW G Z Y σ1) H → va_D A (mW G Z Y σ1) → va_S A s.heap H locs → lv_has ls 11 [(1, .long y1), (3, .int y3), (4, .int z4), (5, .int y5), (6, .int y6)] → W p l e rm_X12_rooms s m args below meth c H locs 0 0 (MQ below (Qg (some (.int res.1)) D (tysG G) (mW G Z Y res.2) A) args s 0 0 A) (F0 m 163 ls [])) : ∀ (n : Nat) (z4 : Int32) (z7 : Int32), f_X12_rooms_L62 F y1 y3 y5 y6 k163 n z4 z7 = some res → ∀ (H : Heap) (locs : List Loc) (ls : Array Slot), va_P D vwCl (mW G Z Y σ1) H → va_D A (mW G Z Y σ1) → va_S A s.heap H locs → lv_has ls 11 [(1, .long y1), (3, .int y3), (4, .int z4), (5, .int y5), (6, .int y6), (7, .int z7)] → W p l e rm_X12_rooms s m args below meth c H locs 0 0 (MQ below (Qg (some (.int res.1)) D (tysG G) (mW G Z Y res.2) A) args s 0 0 A) (F0 m 62 ls []) := by
  obtain ⟨hx, hb, hr, hml, hown, hts, hlocks, hK, hE⟩ := id C0
  intro n
  induction n with
  | zero =>
    intro z4 z7 h
    cases h
  | succ n ih =>
    intro z4 z7 h H locs ls hP hD hS hl
    rw [f_X12_rooms_L62] at h
    refine lv_iload hx hb dX12_rooms_62 (lv_at hl 5 rfl) ?_
    refine lv_iload_n hx hb dX12_rooms_64 rfl (lv_at hl 1 rfl) ?_
    refine lv_if_ne (tgt := 73) hx hb dX12_rooms_65 (by decide) (fun c8 => ?_) (fun c8 => ?_)
    · skip
      have h := f_f c8 h
      refine lv_bipush (v := 64) hx hb dX12_rooms_73 (by decide) ?_
      refine lv_icmp_ge (tgt := 163) hx hb dX12_rooms_75 (by decide) (fun c9 => ?_) (fun c9 => ?_)
      · skip
        have h := f_t c9 h
        exact hk163 z4 h _ _ _ hP hD hS (lv_sub hl [0, 1, 2, 3, 4] rfl)
      · skip
        have h := f_f c9 h
        refine lv_iconst (v := 0) hx hb dX12_rooms_78 (by decide) ?_
        refine lv_istore (lv' := [(8, .int (0 : Int32)), (1, .long y1), (3, .int y3), (4, .int z4), (5, .int y5), (6, .int y6), (7, .int z7)]) hx hb dX12_rooms_79 hl (by decide) rfl (fun ls hl => ?_)
        refine lv_iconst (v := 0) hx hb dX12_rooms_81 (by decide) ?_
        refine lv_istore (lv' := [(9, .int (0 : Int32)), (8, .int (0 : Int32)), (1, .long y1), (3, .int y3), (4, .int z4), (5, .int y5), (6, .int y6), (7, .int z7)]) hx hb dX12_rooms_82 hl (by decide) rfl (fun ls hl => ?_)
        refine W_X12_rooms_L84 l D G Z Y σ0 F x1 x3 σ1 y1 y3 z4 y5 y6 z7 res C0 hA _ ?_ F (0 : Int32) (0 : Int32) h _ _ _ hP hD hS (lv_sub hl [2, 3, 4, 5, 6, 7, 1, 0] rfl)
        · intro z8 h H locs ls hP hD hS hl
          refine lv_iload hx hb dX12_rooms_148 (lv_at hl 2 rfl) ?_
          refine lv_iload hx hb dX12_rooms_150 (lv_at hl 6 rfl) ?_
          refine va_mmax hx hb (hml.trans hl.1.symm) hown (hts _ wd_1476) (hts _ wd_328) (hts _ wd_12) (hts _ wd_329) (Nat.le_of_ble_eq_true rfl) (Nat.le_of_ble_eq_true rfl) (Nat.zero_le _) (Nat.zero_le _) dX12_rooms_152 ?_
          refine lv_istore (lv' := [(4, .int (if z4 < z8 then z8 else z4)), (1, .long y1), (3, .int y3), (5, .int y5), (6, .int y6), (7, .int z7), (8, .int z8)]) hx hb dX12_rooms_155 hl (by decide) rfl (fun ls hl => ?_)
          refine lv_iinc (v := (z7 + 1)) (lv' := [(7, .int (z7 + 1)), (4, .int (if z4 < z8 then z8 else z4)), (1, .long y1), (3, .int y3), (5, .int y5), (6, .int y6), (8, .int z8)]) hx hb dX12_rooms_157 hl (k := 5) rfl rfl (by decide) rfl (fun ls hl => ?_)
          refine lv_goto (tgt := 62) hx hb dX12_rooms_160 (by decide) ?_
          exact ih (if z4 < z8 then z8 else z4) (z7 + 1) h _ _ _ hP hD hS (lv_sub hl [2, 3, 1, 4, 5, 0] rfl)
    · skip
      have h := f_t c8 h
      refine lv_bipush (v := 8) hx hb dX12_rooms_68 (by decide) ?_
      refine lv_goto (tgt := 75) hx hb dX12_rooms_70 (by decide) ?_
      refine lv_icmp_ge (tgt := 163) hx hb dX12_rooms_75 (by decide) (fun c13 => ?_) (fun c13 => ?_)
      · skip
        have h := f_t c13 h
        exact hk163 z4 h _ _ _ hP hD hS (lv_sub hl [0, 1, 2, 3, 4] rfl)
      · skip
        have h := f_f c13 h
        refine lv_iconst (v := 0) hx hb dX12_rooms_78 (by decide) ?_
        refine lv_istore (lv' := [(8, .int (0 : Int32)), (1, .long y1), (3, .int y3), (4, .int z4), (5, .int y5), (6, .int y6), (7, .int z7)]) hx hb dX12_rooms_79 hl (by decide) rfl (fun ls hl => ?_)
        refine lv_iconst (v := 0) hx hb dX12_rooms_81 (by decide) ?_
        refine lv_istore (lv' := [(9, .int (0 : Int32)), (8, .int (0 : Int32)), (1, .long y1), (3, .int y3), (4, .int z4), (5, .int y5), (6, .int y6), (7, .int z7)]) hx hb dX12_rooms_82 hl (by decide) rfl (fun ls hl => ?_)
        refine W_X12_rooms_L84 l D G Z Y σ0 F x1 x3 σ1 y1 y3 z4 y5 y6 z7 res C0 hA _ ?_ F (0 : Int32) (0 : Int32) h _ _ _ hP hD hS (lv_sub hl [2, 3, 4, 5, 6, 7, 1, 0] rfl)
        · intro z8 h H locs ls hP hD hS hl
          refine lv_iload hx hb dX12_rooms_148 (lv_at hl 2 rfl) ?_
          refine lv_iload hx hb dX12_rooms_150 (lv_at hl 6 rfl) ?_
          refine va_mmax hx hb (hml.trans hl.1.symm) hown (hts _ wd_1476) (hts _ wd_328) (hts _ wd_12) (hts _ wd_329) (Nat.le_of_ble_eq_true rfl) (Nat.le_of_ble_eq_true rfl) (Nat.zero_le _) (Nat.zero_le _) dX12_rooms_152 ?_
          refine lv_istore (lv' := [(4, .int (if z4 < z8 then z8 else z4)), (1, .long y1), (3, .int y3), (5, .int y5), (6, .int y6), (7, .int z7), (8, .int z8)]) hx hb dX12_rooms_155 hl (by decide) rfl (fun ls hl => ?_)
          refine lv_iinc (v := (z7 + 1)) (lv' := [(7, .int (z7 + 1)), (4, .int (if z4 < z8 then z8 else z4)), (1, .long y1), (3, .int y3), (5, .int y5), (6, .int y6), (8, .int z8)]) hx hb dX12_rooms_157 hl (k := 5) rfl rfl (by decide) rfl (fun ls hl => ?_)
          refine lv_goto (tgt := 62) hx hb dX12_rooms_160 (by decide) ?_
          exact ih (if z4 < z8 then z8 else z4) (z7 + 1) h _ _ _ hP hD hS (lv_sub hl [2, 3, 1, 4, 5, 0] rfl)
set_option maxRecDepth 100000 in
set_option maxHeartbeats 8000000 in
theorem W_X12_rooms_L44 {p : Program} {e : Env} {s : State} {m : MethodId} {args : Array Value} {below : List Frame} {meth : Method} {c : Code} {A : Nat → Prop} (l : Launch) (D : va_G) (G : hG) (Z : hZ) (Y : va_W) (σ0 : hSt) (F : Nat) (x1 : Int64) (x3 : Int32) (σ1 : hSt) (y1 : Int64) (y3 : Int32) (y5 : Int32) (res : (Int32 × hSt)) (C0 : Cx p s m args meth c cX12_rooms (some .int) RX12 11 D G A) (hA : ∀ q : Nat, s.heap.size ≤ q → A q) (k169 : Int32 → Option (Int32 × hSt)) (hk169 : ∀ (z4 : Int32), k169 z4 = some res → ∀ (H : Heap) (locs : List Loc) (ls : Array Slot), va_P D vwCl (mW G Z Y σ1) H → va_D A (mW G Z Y σ1) → va_S A s.heap H locs → lv_has ls 11 [(1, .long y1), (3, .int y3), (4, .int z4), (5, .int y5)] → W p l e rm_X12_rooms s m args below meth c H locs 0 0 (MQ below (Qg (some (.int res.1)) D (tysG G) (mW G Z Y res.2) A) args s 0 0 A) (F0 m 169 ls [])) : ∀ (n : Nat) (z4 : Int32) (z6 : Int32), f_X12_rooms_L44 F y1 y3 y5 k169 n z4 z6 = some res → ∀ (H : Heap) (locs : List Loc) (ls : Array Slot), va_P D vwCl (mW G Z Y σ1) H → va_D A (mW G Z Y σ1) → va_S A s.heap H locs → lv_has ls 11 [(1, .long y1), (3, .int y3), (4, .int z4), (5, .int y5), (6, .int z6)] → W p l e rm_X12_rooms s m args below meth c H locs 0 0 (MQ below (Qg (some (.int res.1)) D (tysG G) (mW G Z Y res.2) A) args s 0 0 A) (F0 m 44 ls []) := by
  obtain ⟨hx, hb, hr, hml, hown, hts, hlocks, hK, hE⟩ := id C0
  intro n
  induction n with
  | zero =>
    intro z4 z6 h
    cases h
  | succ n ih =>
    intro z4 z6 h H locs ls hP hD hS hl
    rw [f_X12_rooms_L44] at h
    refine lv_iload hx hb dX12_rooms_44 (lv_at hl 4 rfl) ?_
    refine lv_iload_n hx hb dX12_rooms_46 rfl (lv_at hl 1 rfl) ?_
    refine lv_if_ne (tgt := 54) hx hb dX12_rooms_47 (by decide) (fun c6 => ?_) (fun c6 => ?_)
    · skip
      have h := f_f c6 h
      refine lv_bipush (v := 8) hx hb dX12_rooms_54 (by decide) ?_
      refine lv_icmp_ge (tgt := 169) hx hb dX12_rooms_56 (by decide) (fun c7 => ?_) (fun c7 => ?_)
      · skip
        have h := f_t c7 h
        exact hk169 z4 h _ _ _ hP hD hS (lv_sub hl [0, 1, 2, 3] rfl)
      · skip
        have h := f_f c7 h
        refine lv_iconst (v := 0) hx hb dX12_rooms_59 (by decide) ?_
        refine lv_istore (lv' := [(7, .int (0 : Int32)), (1, .long y1), (3, .int y3), (4, .int z4), (5, .int y5), (6, .int z6)]) hx hb dX12_rooms_60 hl (by decide) rfl (fun ls hl => ?_)
        refine W_X12_rooms_L62 l D G Z Y σ0 F x1 x3 σ1 y1 y3 y5 z6 res C0 hA _ ?_ F z4 (0 : Int32) h _ _ _ hP hD hS (lv_sub hl [1, 2, 3, 4, 5, 0] rfl)
        · intro z4 h H locs ls hP hD hS hl
          refine lv_iinc (v := (z6 + 1)) (lv' := [(6, .int (z6 + 1)), (1, .long y1), (3, .int y3), (4, .int z4), (5, .int y5)]) hx hb dX12_rooms_163 hl (k := 4) rfl rfl (by decide) rfl (fun ls hl => ?_)
          refine lv_goto (tgt := 44) hx hb dX12_rooms_166 (by decide) ?_
          exact ih z4 (z6 + 1) h _ _ _ hP hD hS (lv_sub hl [1, 2, 3, 4, 0] rfl)
    · skip
      have h := f_t c6 h
      refine lv_iconst (v := 1) hx hb dX12_rooms_50 (by decide) ?_
      refine lv_goto (tgt := 56) hx hb dX12_rooms_51 (by decide) ?_
      refine lv_icmp_ge (tgt := 169) hx hb dX12_rooms_56 (by decide) (fun c14 => ?_) (fun c14 => ?_)
      · skip
        have h := f_t c14 h
        exact hk169 z4 h _ _ _ hP hD hS (lv_sub hl [0, 1, 2, 3] rfl)
      · skip
        have h := f_f c14 h
        refine lv_iconst (v := 0) hx hb dX12_rooms_59 (by decide) ?_
        refine lv_istore (lv' := [(7, .int (0 : Int32)), (1, .long y1), (3, .int y3), (4, .int z4), (5, .int y5), (6, .int z6)]) hx hb dX12_rooms_60 hl (by decide) rfl (fun ls hl => ?_)
        refine W_X12_rooms_L62 l D G Z Y σ0 F x1 x3 σ1 y1 y3 y5 z6 res C0 hA _ ?_ F z4 (0 : Int32) h _ _ _ hP hD hS (lv_sub hl [1, 2, 3, 4, 5, 0] rfl)
        · intro z4 h H locs ls hP hD hS hl
          refine lv_iinc (v := (z6 + 1)) (lv' := [(6, .int (z6 + 1)), (1, .long y1), (3, .int y3), (4, .int z4), (5, .int y5)]) hx hb dX12_rooms_163 hl (k := 4) rfl rfl (by decide) rfl (fun ls hl => ?_)
          refine lv_goto (tgt := 44) hx hb dX12_rooms_166 (by decide) ?_
          exact ih z4 (z6 + 1) h _ _ _ hP hD hS (lv_sub hl [1, 2, 3, 4, 0] rfl)
set_option maxRecDepth 100000 in
set_option maxHeartbeats 8000000 in
theorem W_X12_rooms_L34 {p : Program} {e : Env} {s : State} {m : MethodId} {args : Array Value} {below : List Frame} {meth : Method} {c : Code} {A : Nat → Prop} (l : Launch) (D : va_G) (G : hG) (Z : hZ) (Y : va_W) (σ0 : hSt) (F : Nat) (x1 : Int64) (x3 : Int32) (σ1 : hSt) (y1 : Int64) (y3 : Int32) (res : (Int32 × hSt)) (C0 : Cx p s m args meth c cX12_rooms (some .int) RX12 11 D G A) (hA : ∀ q : Nat, s.heap.size ≤ q → A q) : ∀ (n : Nat) (z4 : Int32) (z5 : Int32), f_X12_rooms_L34 F σ1 y1 y3 n z4 z5 = some res → ∀ (H : Heap) (locs : List Loc) (ls : Array Slot), va_P D vwCl (mW G Z Y σ1) H → va_D A (mW G Z Y σ1) → va_S A s.heap H locs → lv_has ls 11 [(1, .long y1), (3, .int y3), (4, .int z4), (5, .int z5)] → W p l e rm_X12_rooms s m args below meth c H locs 0 0 (MQ below (Qg (some (.int res.1)) D (tysG G) (mW G Z Y res.2) A) args s 0 0 A) (F0 m 34 ls []) := by
  obtain ⟨hx, hb, hr, hml, hown, hts, hlocks, hK, hE⟩ := id C0
  intro n
  induction n with
  | zero =>
    intro z4 z5 h
    cases h
  | succ n ih =>
    intro z4 z5 h H locs ls hP hD hS hl
    rw [f_X12_rooms_L34] at h
    refine lv_iload hx hb dX12_rooms_34 (lv_at hl 3 rfl) ?_
    refine lv_bipush (v := 8) hx hb dX12_rooms_36 (by decide) ?_
    refine lv_icmp_ge (tgt := 175) hx hb dX12_rooms_38 (by decide) (fun c5 => ?_) (fun c5 => ?_)
    · skip
      have h := f_t c5 h
      refine lv_iload hx hb dX12_rooms_175 (lv_at hl 2 rfl) ?_
      obtain rfl := Option.some.inj h
      exact W.iret (v := z4) hx hb hr (q_end hK hP hD hS) hS.2.2 dX12_rooms_177
    · skip
      have h := f_f c5 h
      refine lv_iconst (v := 0) hx hb dX12_rooms_41 (by decide) ?_
      refine lv_istore (lv' := [(6, .int (0 : Int32)), (1, .long y1), (3, .int y3), (4, .int z4), (5, .int z5)]) hx hb dX12_rooms_42 hl (by decide) rfl (fun ls hl => ?_)
      refine W_X12_rooms_L44 l D G Z Y σ0 F x1 x3 σ1 y1 y3 z5 res C0 hA _ ?_ F z4 (0 : Int32) h _ _ _ hP hD hS (lv_sub hl [1, 2, 3, 4, 0] rfl)
      · intro z4 h H locs ls hP hD hS hl
        refine lv_iinc (v := (z5 + 1)) (lv' := [(5, .int (z5 + 1)), (1, .long y1), (3, .int y3), (4, .int z4)]) hx hb dX12_rooms_169 hl (k := 3) rfl rfl (by decide) rfl (fun ls hl => ?_)
        refine lv_goto (tgt := 34) hx hb dX12_rooms_172 (by decide) ?_
        exact ih z4 (z5 + 1) h _ _ _ hP hD hS (lv_sub hl [1, 2, 3, 0] rfl)
set_option maxRecDepth 100000 in
set_option maxHeartbeats 8000000 in
theorem c_X12_rooms (l : Launch) (D : va_G) (G : hG) (Z : hZ) (Y : va_W) (σ0 : hSt) (F : Nat) (x1 : Int64) (x3 : Int32) (res : (Int32 × hSt)) (h : f_X12_rooms F Z σ0 x1 x3 = some res) : CT l yX12_rooms cX12_rooms 11 (some .int) rm_X12_rooms D G 0 0 [.ref (G.2.1 200), .long x1, .int x3] (mW G Z Y σ0) (mW G Z Y res.2) (some (.int res.1)) := by
  unfold f_X12_rooms at h
  refine CT.mk (cc := cX12_rooms) (maxL := 11) (ret := (some .int)) (own := RX12) (plainFor_of_name (by decide)) rfl (Nat.le_of_ble_eq_true rfl) ?_
  intro p e s m args below meth c A ls C0 hnm hA hP hD hl
  obtain ⟨hx, hb, hr, hml, hown, hts, hlocks, hK, hE⟩ := id C0
  have hS : va_S A s.heap s.heap [] := va_S.rf
  have hl : lv_has ls 11 [(0, .ref (G.2.1 200)), (1, .long x1), (3, .int x3)] := hl
  refine lv_aload_n hx hb dX12_rooms_0 rfl (lv_at hl 0 rfl) ?_
  refine lv_iconst (v := 0) hx hb dX12_rooms_1 (by decide) ?_
  refine va_put (D := D) (ci := 12) (v := .int (0 : Int32)) (ty := .int) (C := RX12) (T := TX12) (N := 59) hx hb hts inU_X12 tyX12 tyX12_ok nmX12 hown hK hP hD hS _ (mg_200 G Z Y σ0) rfl 0 (by decide) (hts _ wd_1248) (fun _ h9 => h9) rfl (by decide +kernel) rfl rfl (Nat.le_of_ble_eq_true rfl) dX12_rooms_2 (fun H locs hP hD hS => ?_)
  have hP := wrP (mp_200_0 G Z Y σ0 (0 : Int32)) hP
  have hD := wrD (mp_200_0 G Z Y σ0 (0 : Int32)) hD
  refine lv_lload_n hx hb dX12_rooms_5 rfl (lv_at hl 1 rfl) ?_
  refine lv_lconst (v := 0) hx hb dX12_rooms_6 (by decide) ?_
  refine lv_ldc2 (v := 68719476735) hx hb hown (hts _ wd_1848) dX12_rooms_7 ?_
  obtain ⟨q1, hq1, h⟩ := f_b h
  refine cl_S (w := (mW G Z Y (sI σ0 200 0 (0 : Int32)))) (w' := (mW G Z Y (sI σ0 200 0 (0 : Int32)))) (rv := some (.int q1)) (bytes := cX12_isIn) (maxL := 6) (ret := (some .boolean)) (As := [.long x1, .long (0 : Int64), .long (68719476735 : Int64)]) (rest := []) (stk := [.int q1]) ⟨hx, hb, hml, hown, hts⟩ hK hE hA hP hD hS (c_X12_isIn l D G (mW G Z Y (sI σ0 200 0 (0 : Int32))) x1 (0 : Int64) (68719476735 : Int64) q1 hq1) (mkS hts wd_1498 wd_1499 wd_11 wd_1500 rfl rfl hd_X12_isIn ⟨Nat.le_of_ble_eq_true rfl, Nat.le_of_ble_eq_true rfl⟩) rfl hl.1 rfl (Nat.le_of_ble_eq_true rfl) dX12_rooms_10 ⟨Nat.zero_le _, Nat.zero_le _⟩ rfl (fun H locs hP hD hS => ?_)
  refine lv_if_eq (tgt := 26) hx hb dX12_rooms_13 (by decide) (fun c2 => ?_) (fun c2 => ?_)
  · skip
    have h := f_t c2 h
    refine lv_iconst (v := (-1)) hx hb dX12_rooms_26 (by decide) ?_
    obtain rfl := Option.some.inj h
    exact W.iret (v := (-1 : Int32)) hx hb hr (q_end hK hP hD hS) hS.2.2 dX12_rooms_27
  · skip
    have h := f_f c2 h
    refine lv_iload_n hx hb dX12_rooms_16 rfl (lv_at hl 2 rfl) ?_
    refine lv_i2l (v := (x3 : Int32).toInt64) hx hb dX12_rooms_17 rfl ?_
    refine lv_lconst (v := 0) hx hb dX12_rooms_18 (by decide) ?_
    refine lv_lconst (v := 1) hx hb dX12_rooms_19 (by decide) ?_
    obtain ⟨q3, hq3, h⟩ := f_b h
    refine cl_S (w := (mW G Z Y (sI σ0 200 0 (0 : Int32)))) (w' := (mW G Z Y (sI σ0 200 0 (0 : Int32)))) (rv := some (.int q3)) (bytes := cX12_isIn) (maxL := 6) (ret := (some .boolean)) (As := [.long (x3 : Int32).toInt64, .long (0 : Int64), .long (1 : Int64)]) (rest := []) (stk := [.int q3]) ⟨hx, hb, hml, hown, hts⟩ hK hE hA hP hD hS (c_X12_isIn l D G (mW G Z Y (sI σ0 200 0 (0 : Int32))) ((x3 : Int32).toInt64) (0 : Int64) (1 : Int64) q3 hq3) (mkS hts wd_1498 wd_1499 wd_11 wd_1500 rfl rfl hd_X12_isIn ⟨Nat.le_of_ble_eq_true rfl, Nat.le_of_ble_eq_true rfl⟩) rfl hl.1 rfl (Nat.le_of_ble_eq_true rfl) dX12_rooms_20 ⟨Nat.zero_le _, Nat.zero_le _⟩ rfl (fun H locs hP hD hS => ?_)
    refine lv_if_ne (tgt := 28) hx hb dX12_rooms_23 (by decide) (fun c4 => ?_) (fun c4 => ?_)
    · skip
      have h := f_f c4 h
      refine lv_iconst (v := 0) hx hb dX12_rooms_28 (by decide) ?_
      refine lv_istore (lv' := [(4, .int (0 : Int32)), (0, .ref (G.2.1 200)), (1, .long x1), (3, .int x3)]) hx hb dX12_rooms_29 hl (by decide) rfl (fun ls hl => ?_)
      refine lv_iconst (v := 0) hx hb dX12_rooms_31 (by decide) ?_
      refine lv_istore (lv' := [(5, .int (0 : Int32)), (4, .int (0 : Int32)), (0, .ref (G.2.1 200)), (1, .long x1), (3, .int x3)]) hx hb dX12_rooms_32 hl (by decide) rfl (fun ls hl => ?_)
      refine W_X12_rooms_L34 l D G Z Y σ0 F x1 x3 (sI σ0 200 0 (0 : Int32)) x1 x3 res C0 hA F (0 : Int32) (0 : Int32) h _ _ _ hP hD hS (lv_sub hl [3, 4, 1, 0] rfl)
    · skip
      have h := f_t c4 h
      refine lv_iconst (v := (-1)) hx hb dX12_rooms_26 (by decide) ?_
      obtain rfl := Option.some.inj h
      exact W.iret (v := (-1 : Int32)) hx hb hr (q_end hK hP hD hS) hS.2.2 dX12_rooms_27
abbrev rm_X12_cell : Room := { frames := 0, cells := 0, slots := 0, locals := 0 }
set_option maxRecDepth 100000 in
set_option maxHeartbeats 8000000 in
theorem c_X12_cell (l : Launch) (D : va_G) (G : hG) (w : va_W) (x0 : Int32) (x1 : Int32) (res : Int32) (h : f_X12_cell x0 x1 = some res) : CT l yX12_cell cX12_cell 2 (some .int) rm_X12_cell D G 0 0 [.int x0, .int x1] w w (some (.int res)) := by
  unfold f_X12_cell at h
  refine CT.mk (cc := cX12_cell) (maxL := 2) (ret := (some .int)) (own := RX12) (plainFor_of_name (by decide)) rfl (Nat.le_of_ble_eq_true rfl) ?_
  intro p e s m args below meth c A ls C0 hnm hA hP hD hl
  obtain ⟨hx, hb, hr, hml, hown, hts, hlocks, hK, hE⟩ := id C0
  have hS : va_S A s.heap s.heap [] := va_S.rf
  have hl : lv_has ls 2 [(0, .int x0), (1, .int x1)] := hl
  refine lv_iload_n hx hb dX12_cell_0 rfl (lv_at hl 0 rfl) ?_
  refine lv_iload_n hx hb dX12_cell_1 rfl (lv_at hl 1 rfl) ?_
  refine lv_ishr hx hb dX12_cell_2 ?_
  refine lv_iconst (v := 1) hx hb dX12_cell_3 (by decide) ?_
  refine lv_iand hx hb dX12_cell_4 ?_
  obtain rfl := Option.some.inj h
  exact W.iret (v := ((x0 >>> (x1 &&& 31)) &&& (1 : Int32))) hx hb hr (q_end hK hP hD hS) hS.2.2 dX12_cell_5
abbrev rm_X12_caughtBy : Room := { frames := 1, cells := 0, slots := 0, locals := 21 }
set_option maxRecDepth 100000 in
set_option maxHeartbeats 8000000 in
theorem W_X12_caughtBy_L14 {p : Program} {e : Env} {s : State} {m : MethodId} {args : Array Value} {below : List Frame} {meth : Method} {c : Code} {A : Nat → Prop} (l : Launch) (D : va_G) (G : hG) (w : va_W) (F : Nat) (x0 : Int32) (x1 : Int32) (y0 : Int32) (y1 : Int32) (y3 : Int32) (res : Int32) (C0 : Cx p s m args meth c cX12_caughtBy (some .int) RX12 5 D G A) (hA : ∀ q : Nat, s.heap.size ≤ q → A q) (k59 : Int32 → Option Int32) (hk59 : ∀ (z2 : Int32), k59 z2 = some res → ∀ (H : Heap) (locs : List Loc) (ls : Array Slot), va_P D vwCl w H → va_D A w → va_S A s.heap H locs → lv_has ls 5 [(0, .int y0), (1, .int y1), (2, .int z2), (3, .int y3)] → W p l e rm_X12_caughtBy s m args below meth c H locs 0 0 (MQ below (Qg (some (.int res)) D (tysG G) w A) args s 0 0 A) (F0 m 59 ls [])) : ∀ (n : Nat) (z2 : Int32) (z4 : Int32), f_X12_caughtBy_L14 y0 y1 y3 k59 n z2 z4 = some res → ∀ (H : Heap) (locs : List Loc) (ls : Array Slot), va_P D vwCl w H → va_D A w → va_S A s.heap H locs → lv_has ls 5 [(0, .int y0), (1, .int y1), (2, .int z2), (3, .int y3), (4, .int z4)] → W p l e rm_X12_caughtBy s m args below meth c H locs 0 0 (MQ below (Qg (some (.int res)) D (tysG G) w A) args s 0 0 A) (F0 m 14 ls []) := by
  obtain ⟨hx, hb, hr, hml, hown, hts, hlocks, hK, hE⟩ := id C0
  intro n
  induction n with
  | zero =>
    intro z2 z4 h
    cases h
  | succ n ih =>
    intro z2 z4 h H locs ls hP hD hS hl
    rw [f_X12_caughtBy_L14] at h
    refine lv_iload hx hb dX12_caughtBy_14 (lv_at hl 4 rfl) ?_
    refine lv_iconst (v := 1) hx hb dX12_caughtBy_16 (by decide) ?_
    refine lv_iload_n hx hb dX12_caughtBy_17 rfl (lv_at hl 0 rfl) ?_
    refine lv_ishl hx hb dX12_caughtBy_18 ?_
    refine lv_icmp_ge (tgt := 59) hx hb dX12_caughtBy_19 (by decide) (fun c2 => ?_) (fun c2 => ?_)
    · skip
      have h := f_t c2 h
      exact hk59 z2 h _ _ _ hP hD hS (lv_sub hl [0, 1, 2, 3] rfl)
    · skip
      have h := f_f c2 h
      refine lv_iload_n hx hb dX12_caughtBy_22 rfl (lv_at hl 2 rfl) ?_
      refine lv_iload_n hx hb dX12_caughtBy_23 rfl (lv_at hl 1 rfl) ?_
      refine lv_iload_n hx hb dX12_caughtBy_24 rfl (lv_at hl 3 rfl) ?_
      refine lv_iload hx hb dX12_caughtBy_25 (lv_at hl 4 rfl) ?_
      refine lv_ixor hx hb dX12_caughtBy_27 ?_
      obtain ⟨q3, hq3, h⟩ := f_b h
      refine cl_S (w := w) (w' := w) (rv := some (.int q3)) (bytes := cX12_cell) (maxL := 2) (ret := (some .int)) (As := [.int y1, .int (y3 ^^^ z4)]) (rest := [.int z2]) (stk := [.int q3, .int z2]) ⟨hx, hb, hml, hown, hts⟩ hK hE hA hP hD hS (c_X12_cell l D G w y1 (y3 ^^^ z4) q3 hq3) (mkS hts wd_1863 wd_1864 wd_11 wd_1865 rfl rfl hd_X12_cell ⟨Nat.le_of_ble_eq_true rfl, Nat.le_of_ble_eq_true rfl⟩) rfl hl.1 rfl (Nat.le_of_ble_eq_true rfl) dX12_caughtBy_28 ⟨Nat.zero_le _, Nat.zero_le _⟩ rfl (fun H locs hP hD hS => ?_)
      refine lv_iload_n hx hb dX12_caughtBy_31 rfl (lv_at hl 1 rfl) ?_
      refine lv_iload_n hx hb dX12_caughtBy_32 rfl (lv_at hl 3 rfl) ?_
      obtain ⟨q4, hq4, h⟩ := f_b h
      refine cl_S (w := w) (w' := w) (rv := some (.int q4)) (bytes := cX12_cell) (maxL := 2) (ret := (some .int)) (As := [.int y1, .int y3]) (rest := [.int q3, .int z2]) (stk := [.int q4, .int q3, .int z2]) ⟨hx, hb, hml, hown, hts⟩ hK hE hA hP hD hS (c_X12_cell l D G w y1 y3 q4 hq4) (mkS hts wd_1863 wd_1864 wd_11 wd_1865 rfl rfl hd_X12_cell ⟨Nat.le_of_ble_eq_true rfl, Nat.le_of_ble_eq_true rfl⟩) rfl hl.1 rfl (Nat.le_of_ble_eq_true rfl) dX12_caughtBy_33 ⟨Nat.zero_le _, Nat.zero_le _⟩ rfl (fun H locs hP hD hS => ?_)
      refine lv_iload_n hx hb dX12_caughtBy_36 rfl (lv_at hl 1 rfl) ?_
      refine lv_iload hx hb dX12_caughtBy_37 (lv_at hl 4 rfl) ?_
      obtain ⟨q5, hq5, h⟩ := f_b h
      refine cl_S (w := w) (w' := w) (rv := some (.int q5)) (bytes := cX12_cell) (maxL := 2) (ret := (some .int)) (As := [.int y1, .int z4]) (rest := [.int q4, .int q3, .int z2]) (stk := [.int q5, .int q4, .int q3, .int z2]) ⟨hx, hb, hml, hown, hts⟩ hK hE hA hP hD hS (c_X12_cell l D G w y1 z4 q5 hq5) (mkS hts wd_1863 wd_1864 wd_11 wd_1865 rfl rfl hd_X12_cell ⟨Nat.le_of_ble_eq_true rfl, Nat.le_of_ble_eq_true rfl⟩) rfl hl.1 rfl (Nat.le_of_ble_eq_true rfl) dX12_caughtBy_39 ⟨Nat.zero_le _, Nat.zero_le _⟩ rfl (fun H locs hP hD hS => ?_)
      refine lv_ixor hx hb dX12_caughtBy_42 ?_
      refine lv_icmp_eq (tgt := 50) hx hb dX12_caughtBy_43 (by decide) (fun c6 => ?_) (fun c6 => ?_)
      · skip
        have h := f_t c6 h
        refine lv_iconst (v := 0) hx hb dX12_caughtBy_50 (by decide) ?_
        refine lv_iadd hx hb dX12_caughtBy_51 ?_
        refine lv_istore_n (lv' := [(2, .int (z2 + (0 : Int32))), (0, .int y0), (1, .int y1), (3, .int y3), (4, .int z4)]) hx hb dX12_caughtBy_52 rfl hl (by decide) rfl (fun ls hl => ?_)
        refine lv_iinc (v := (z4 + 1)) (lv' := [(4, .int (z4 + 1)), (2, .int (z2 + (0 : Int32))), (0, .int y0), (1, .int y1), (3, .int y3)]) hx hb dX12_caughtBy_53 hl (k := 4) rfl rfl (by decide) rfl (fun ls hl => ?_)
        refine lv_goto (tgt := 14) hx hb dX12_caughtBy_56 (by decide) ?_
        exact ih (z2 + (0 : Int32)) (z4 + 1) h _ _ _ hP hD hS (lv_sub hl [2, 3, 1, 4, 0] rfl)
      · skip
        have h := f_f c6 h
        refine lv_iconst (v := 1) hx hb dX12_caughtBy_46 (by decide) ?_
        refine lv_goto (tgt := 51) hx hb dX12_caughtBy_47 (by decide) ?_
        refine lv_iadd hx hb dX12_caughtBy_51 ?_
        refine lv_istore_n (lv' := [(2, .int (z2 + (1 : Int32))), (0, .int y0), (1, .int y1), (3, .int y3), (4, .int z4)]) hx hb dX12_caughtBy_52 rfl hl (by decide) rfl (fun ls hl => ?_)
        refine lv_iinc (v := (z4 + 1)) (lv' := [(4, .int (z4 + 1)), (2, .int (z2 + (1 : Int32))), (0, .int y0), (1, .int y1), (3, .int y3)]) hx hb dX12_caughtBy_53 hl (k := 4) rfl rfl (by decide) rfl (fun ls hl => ?_)
        refine lv_goto (tgt := 14) hx hb dX12_caughtBy_56 (by decide) ?_
        exact ih (z2 + (1 : Int32)) (z4 + 1) h _ _ _ hP hD hS (lv_sub hl [2, 3, 1, 4, 0] rfl)
set_option maxRecDepth 100000 in
set_option maxHeartbeats 8000000 in
theorem W_X12_caughtBy_L4 {p : Program} {e : Env} {s : State} {m : MethodId} {args : Array Value} {below : List Frame} {meth : Method} {c : Code} {A : Nat → Prop} (l : Launch) (D : va_G) (G : hG) (w : va_W) (F : Nat) (x0 : Int32) (x1 : Int32) (y0 : Int32) (y1 : Int32) (res : Int32) (C0 : Cx p s m args meth c cX12_caughtBy (some .int) RX12 5 D G A) (hA : ∀ q : Nat, s.heap.size ≤ q → A q) : ∀ (n : Nat) (z2 : Int32) (z3 : Int32), f_X12_caughtBy_L4 F y0 y1 n z2 z3 = some res → ∀ (H : Heap) (locs : List Loc) (ls : Array Slot), va_P D vwCl w H → va_D A w → va_S A s.heap H locs → lv_has ls 5 [(0, .int y0), (1, .int y1), (2, .int z2), (3, .int z3)] → W p l e rm_X12_caughtBy s m args below meth c H locs 0 0 (MQ below (Qg (some (.int res)) D (tysG G) w A) args s 0 0 A) (F0 m 4 ls []) := by
  obtain ⟨hx, hb, hr, hml, hown, hts, hlocks, hK, hE⟩ := id C0
  intro n
  induction n with
  | zero =>
    intro z2 z3 h
    cases h
  | succ n ih =>
    intro z2 z3 h H locs ls hP hD hS hl
    rw [f_X12_caughtBy_L4] at h
    refine lv_iload_n hx hb dX12_caughtBy_4 rfl (lv_at hl 3 rfl) ?_
    refine lv_iconst (v := 1) hx hb dX12_caughtBy_5 (by decide) ?_
    refine lv_iload_n hx hb dX12_caughtBy_6 rfl (lv_at hl 0 rfl) ?_
    refine lv_ishl hx hb dX12_caughtBy_7 ?_
    refine lv_icmp_ge (tgt := 65) hx hb dX12_caughtBy_8 (by decide) (fun c1 => ?_) (fun c1 => ?_)
    · skip
      have h := f_t c1 h
      refine lv_iload_n hx hb dX12_caughtBy_65 rfl (lv_at hl 2 rfl) ?_
      obtain rfl := Option.some.inj h
      exact W.iret (v := z2) hx hb hr (q_end hK hP hD hS) hS.2.2 dX12_caughtBy_66
    · skip
      have h := f_f c1 h
      refine lv_iconst (v := 0) hx hb dX12_caughtBy_11 (by decide) ?_
      refine lv_istore (lv' := [(4, .int (0 : Int32)), (0, .int y0), (1, .int y1), (2, .int z2), (3, .int z3)]) hx hb dX12_caughtBy_12 hl (by decide) rfl (fun ls hl => ?_)
      refine W_X12_caughtBy_L14 l D G w F x0 x1 y0 y1 z3 res C0 hA _ ?_ F z2 (0 : Int32) h _ _ _ hP hD hS (lv_sub hl [1, 2, 3, 4, 0] rfl)
      · intro z2 h H locs ls hP hD hS hl
        refine lv_iinc (v := (z3 + 1)) (lv' := [(3, .int (z3 + 1)), (0, .int y0), (1, .int y1), (2, .int z2)]) hx hb dX12_caughtBy_59 hl (k := 3) rfl rfl (by decide) rfl (fun ls hl => ?_)
        refine lv_goto (tgt := 4) hx hb dX12_caughtBy_62 (by decide) ?_
        exact ih z2 (z3 + 1) h _ _ _ hP hD hS (lv_sub hl [1, 2, 3, 0] rfl)
set_option maxRecDepth 100000 in
set_option maxHeartbeats 8000000 in
theorem c_X12_caughtBy (l : Launch) (D : va_G) (G : hG) (w : va_W) (F : Nat) (x0 : Int32) (x1 : Int32) (res : Int32) (h : f_X12_caughtBy F x0 x1 = some res) : CT l yX12_caughtBy cX12_caughtBy 5 (some .int) rm_X12_caughtBy D G 0 0 [.int x0, .int x1] w w (some (.int res)) := by
  unfold f_X12_caughtBy at h
  refine CT.mk (cc := cX12_caughtBy) (maxL := 5) (ret := (some .int)) (own := RX12) (plainFor_of_name (by decide)) rfl (Nat.le_of_ble_eq_true rfl) ?_
  intro p e s m args below meth c A ls C0 hnm hA hP hD hl
  obtain ⟨hx, hb, hr, hml, hown, hts, hlocks, hK, hE⟩ := id C0
  have hS : va_S A s.heap s.heap [] := va_S.rf
  have hl : lv_has ls 5 [(0, .int x0), (1, .int x1)] := hl
  refine lv_iconst (v := 0) hx hb dX12_caughtBy_0 (by decide) ?_
  refine lv_istore_n (lv' := [(2, .int (0 : Int32)), (0, .int x0), (1, .int x1)]) hx hb dX12_caughtBy_1 rfl hl (by decide) rfl (fun ls hl => ?_)
  refine lv_iconst (v := 0) hx hb dX12_caughtBy_2 (by decide) ?_
  refine lv_istore_n (lv' := [(3, .int (0 : Int32)), (2, .int (0 : Int32)), (0, .int x0), (1, .int x1)]) hx hb dX12_caughtBy_3 rfl hl (by decide) rfl (fun ls hl => ?_)
  refine W_X12_caughtBy_L4 l D G w F x0 x1 x0 x1 res C0 hA F (0 : Int32) (0 : Int32) h _ _ _ hP hD hS (lv_sub hl [2, 3, 1, 0] rfl)
abbrev rm_X12_isBook : Room := { frames := 1, cells := 0, slots := 0, locals := 25 }
set_option maxRecDepth 100000 in
set_option maxHeartbeats 8000000 in
theorem c_X12_isBook (l : Launch) (D : va_G) (G : hG) (w : va_W) (x0 : Int32) (x1 : Int32) (res : Int32) (h : f_X12_isBook x0 x1 = some res) : CT l yX12_isBook cX12_isBook 2 (some .boolean) rm_X12_isBook D G 0 0 [.int x0, .int x1] w w (some (.int res)) := by
  unfold f_X12_isBook at h
  refine CT.mk (cc := cX12_isBook) (maxL := 2) (ret := (some .boolean)) (own := RX12) (plainFor_of_name (by decide)) rfl (Nat.le_of_ble_eq_true rfl) ?_
  intro p e s m args below meth c A ls C0 hnm hA hP hD hl
  obtain ⟨hx, hb, hr, hml, hown, hts, hlocks, hK, hE⟩ := id C0
  have hS : va_S A s.heap s.heap [] := va_S.rf
  have hl : lv_has ls 2 [(0, .int x0), (1, .int x1)] := hl
  refine lv_iload_n hx hb dX12_isBook_0 rfl (lv_at hl 0 rfl) ?_
  refine lv_i2l (v := (x0 : Int32).toInt64) hx hb dX12_isBook_1 rfl ?_
  refine lv_lconst (v := 1) hx hb dX12_isBook_2 (by decide) ?_
  refine lv_ldc2 (v := 4) hx hb hown (hts _ wd_1859) dX12_isBook_3 ?_
  obtain ⟨q1, hq1, h⟩ := f_b h
  refine cl_S (w := w) (w' := w) (rv := some (.int q1)) (bytes := cX12_isIn) (maxL := 6) (ret := (some .boolean)) (As := [.long (x0 : Int32).toInt64, .long (1 : Int64), .long (4 : Int64)]) (rest := []) (stk := [.int q1]) ⟨hx, hb, hml, hown, hts⟩ hK hE hA hP hD hS (c_X12_isIn l D G w ((x0 : Int32).toInt64) (1 : Int64) (4 : Int64) q1 hq1) (mkS hts wd_1498 wd_1499 wd_11 wd_1500 rfl rfl hd_X12_isIn ⟨Nat.le_of_ble_eq_true rfl, Nat.le_of_ble_eq_true rfl⟩) rfl hl.1 rfl (Nat.le_of_ble_eq_true rfl) dX12_isBook_6 ⟨Nat.zero_le _, Nat.zero_le _⟩ rfl (fun H locs hP hD hS => ?_)
  refine lv_if_eq (tgt := 32) hx hb dX12_isBook_9 (by decide) (fun c2 => ?_) (fun c2 => ?_)
  · skip
    have h := f_t c2 h
    refine lv_iconst (v := 0) hx hb dX12_isBook_32 (by decide) ?_
    obtain rfl := Option.some.inj h
    exact W.zret (v := (0 : Int32)) hx hb hr rfl (q_end hK hP hD hS) hS.2.2 dX12_isBook_33
  · skip
    have h := f_f c2 h
    refine lv_iload_n hx hb dX12_isBook_12 rfl (lv_at hl 1 rfl) ?_
    refine lv_i2l (v := (x1 : Int32).toInt64) hx hb dX12_isBook_13 rfl ?_
    refine lv_lconst (v := 0) hx hb dX12_isBook_14 (by decide) ?_
    refine lv_lconst (v := 1) hx hb dX12_isBook_15 (by decide) ?_
    refine lv_iconst (v := 1) hx hb dX12_isBook_16 (by decide) ?_
    refine lv_iload_n hx hb dX12_isBook_17 rfl (lv_at hl 0 rfl) ?_
    refine lv_ishl hx hb dX12_isBook_18 ?_
    refine lv_lshl (v := ((1 : Int64) <<< ((((1 : Int32) <<< (x0 &&& 31)) : Int32).toInt64 &&& 63))) hx hb dX12_isBook_19 rfl ?_
    refine lv_lconst (v := 1) hx hb dX12_isBook_20 (by decide) ?_
    refine lv_lsub hx hb dX12_isBook_21 ?_
    obtain ⟨q3, hq3, h⟩ := f_b h
    refine cl_S (w := w) (w' := w) (rv := some (.int q3)) (bytes := cX12_isIn) (maxL := 6) (ret := (some .boolean)) (As := [.long (x1 : Int32).toInt64, .long (0 : Int64), .long (((1 : Int64) <<< ((((1 : Int32) <<< (x0 &&& 31)) : Int32).toInt64 &&& 63)) - (1 : Int64))]) (rest := []) (stk := [.int q3]) ⟨hx, hb, hml, hown, hts⟩ hK hE hA hP hD hS (c_X12_isIn l D G w ((x1 : Int32).toInt64) (0 : Int64) (((1 : Int64) <<< ((((1 : Int32) <<< (x0 &&& 31)) : Int32).toInt64 &&& 63)) - (1 : Int64)) q3 hq3) (mkS hts wd_1498 wd_1499 wd_11 wd_1500 rfl rfl hd_X12_isIn ⟨Nat.le_of_ble_eq_true rfl, Nat.le_of_ble_eq_true rfl⟩) rfl hl.1 rfl (Nat.le_of_ble_eq_true rfl) dX12_isBook_22 ⟨Nat.zero_le _, Nat.zero_le _⟩ rfl (fun H locs hP hD hS => ?_)
    refine lv_if_eq (tgt := 32) hx hb dX12_isBook_25 (by decide) (fun c4 => ?_) (fun c4 => ?_)
    · skip
      have h := f_t c4 h
      refine lv_iconst (v := 0) hx hb dX12_isBook_32 (by decide) ?_
      obtain rfl := Option.some.inj h
      exact W.zret (v := (0 : Int32)) hx hb hr rfl (q_end hK hP hD hS) hS.2.2 dX12_isBook_33
    · skip
      have h := f_f c4 h
      refine lv_iconst (v := 1) hx hb dX12_isBook_28 (by decide) ?_
      refine lv_goto (tgt := 33) hx hb dX12_isBook_29 (by decide) ?_
      obtain rfl := Option.some.inj h
      exact W.zret (v := (1 : Int32)) hx hb hr rfl (q_end hK hP hD hS) hS.2.2 dX12_isBook_33
abbrev rm_X12_mended : Room := { frames := 2, cells := 0, slots := 0, locals := 46 }
set_option maxRecDepth 100000 in
set_option maxHeartbeats 8000000 in
theorem W_X12_mended_L36 {p : Program} {e : Env} {s : State} {m : MethodId} {args : Array Value} {below : List Frame} {meth : Method} {c : Code} {A : Nat → Prop} (l : Launch) (D : va_G) (G : hG) (Z : hZ) (Y : va_W) (σ0 : hSt) (F : Nat) (x1 : Int32) (x2 : Int32) (x3 : Int32) (σ1 : hSt) (y1 : Int32) (y2 : Int32) (y3 : Int32) (res : (Int32 × hSt)) (C0 : Cx p s m args meth c cX12_mended (some .int) RX12 6 D G A) (hA : ∀ q : Nat, s.heap.size ≤ q → A q) (k70 : Int32 → Option (Int32 × hSt)) (hk70 : ∀ (z4 : Int32), k70 z4 = some res → ∀ (H : Heap) (locs : List Loc) (ls : Array Slot), va_P D vwCl (mW G Z Y σ1) H → va_D A (mW G Z Y σ1) → va_S A s.heap H locs → lv_has ls 6 [(1, .int y1), (4, .int z4)] → W p l e rm_X12_mended s m args below meth c H locs 0 0 (MQ below (Qg (some (.int res.1)) D (tysG G) (mW G Z Y res.2) A) args s 0 0 A) (F0 m 70 ls [])) : ∀ (n : Nat) (z4 : Int32) (z5 : Int32), f_X12_mended_L36 y1 y2 y3 k70 n z4 z5 = some res → ∀ (H : Heap) (locs : List Loc) (ls : Array Slot), va_P D vwCl (mW G Z Y σ1) H → va_D A (mW G Z Y σ1) → va_S A s.heap H locs → lv_has ls 6 [(1, .int y1), (2, .int y2), (3, .int y3), (4, .int z4), (5, .int z5)] → W p l e rm_X12_mended s m args below meth c H locs 0 0 (MQ below (Qg (some (.int res.1)) D (tysG G) (mW G Z Y res.2) A) args s 0 0 A) (F0 m 36 ls []) := by
  obtain ⟨hx, hb, hr, hml, hown, hts, hlocks, hK, hE⟩ := id C0
  intro n
  induction n with
  | zero =>
    intro z4 z5 h
    cases h
  | succ n ih =>
    intro z4 z5 h H locs ls hP hD hS hl
    rw [f_X12_mended_L36] at h
    refine lv_iload hx hb dX12_mended_36 (lv_at hl 4 rfl) ?_
    refine lv_iconst (v := 1) hx hb dX12_mended_38 (by decide) ?_
    refine lv_iload_n hx hb dX12_mended_39 rfl (lv_at hl 0 rfl) ?_
    refine lv_ishl hx hb dX12_mended_40 ?_
    refine lv_icmp_ge (tgt := 70) hx hb dX12_mended_41 (by decide) (fun c5 => ?_) (fun c5 => ?_)
    · skip
      have h := f_t c5 h
      exact hk70 z4 h _ _ _ hP hD hS (lv_sub hl [0, 3] rfl)
    · skip
      have h := f_f c5 h
      refine lv_iload hx hb dX12_mended_44 (lv_at hl 3 rfl) ?_
      refine lv_iload_n hx hb dX12_mended_46 rfl (lv_at hl 1 rfl) ?_
      refine lv_iload_n hx hb dX12_mended_47 rfl (lv_at hl 2 rfl) ?_
      refine lv_iload hx hb dX12_mended_48 (lv_at hl 4 rfl) ?_
      refine lv_ixor hx hb dX12_mended_50 ?_
      obtain ⟨q6, hq6, h⟩ := f_b h
      refine cl_S (w := (mW G Z Y σ1)) (w' := (mW G Z Y σ1)) (rv := some (.int q6)) (bytes := cX12_cell) (maxL := 2) (ret := (some .int)) (As := [.int y2, .int (y3 ^^^ z5)]) (rest := [.int z4]) (stk := [.int q6, .int z4]) ⟨hx, hb, hml, hown, hts⟩ hK hE hA hP hD hS (c_X12_cell l D G (mW G Z Y σ1) y2 (y3 ^^^ z5) q6 hq6) (mkS hts wd_1863 wd_1864 wd_11 wd_1865 rfl rfl hd_X12_cell ⟨Nat.le_of_ble_eq_true rfl, Nat.le_of_ble_eq_true rfl⟩) rfl hl.1 rfl (Nat.le_of_ble_eq_true rfl) dX12_mended_51 ⟨Nat.zero_le _, Nat.zero_le _⟩ rfl (fun H locs hP hD hS => ?_)
      refine lv_iload_n hx hb dX12_mended_54 rfl (lv_at hl 1 rfl) ?_
      refine lv_iload hx hb dX12_mended_55 (lv_at hl 4 rfl) ?_
      obtain ⟨q7, hq7, h⟩ := f_b h
      refine cl_S (w := (mW G Z Y σ1)) (w' := (mW G Z Y σ1)) (rv := some (.int q7)) (bytes := cX12_cell) (maxL := 2) (ret := (some .int)) (As := [.int y2, .int z5]) (rest := [.int q6, .int z4]) (stk := [.int q7, .int q6, .int z4]) ⟨hx, hb, hml, hown, hts⟩ hK hE hA hP hD hS (c_X12_cell l D G (mW G Z Y σ1) y2 z5 q7 hq7) (mkS hts wd_1863 wd_1864 wd_11 wd_1865 rfl rfl hd_X12_cell ⟨Nat.le_of_ble_eq_true rfl, Nat.le_of_ble_eq_true rfl⟩) rfl hl.1 rfl (Nat.le_of_ble_eq_true rfl) dX12_mended_57 ⟨Nat.zero_le _, Nat.zero_le _⟩ rfl (fun H locs hP hD hS => ?_)
      refine lv_ixor hx hb dX12_mended_60 ?_
      refine lv_iadd hx hb dX12_mended_61 ?_
      refine lv_istore (lv' := [(4, .int (z4 + (q6 ^^^ q7))), (1, .int y1), (2, .int y2), (3, .int y3), (5, .int z5)]) hx hb dX12_mended_62 hl (by decide) rfl (fun ls hl => ?_)
      refine lv_iinc (v := (z5 + 1)) (lv' := [(5, .int (z5 + 1)), (4, .int (z4 + (q6 ^^^ q7))), (1, .int y1), (2, .int y2), (3, .int y3)]) hx hb dX12_mended_64 hl (k := 4) rfl rfl (by decide) rfl (fun ls hl => ?_)
      refine lv_goto (tgt := 36) hx hb dX12_mended_67 (by decide) ?_
      exact ih (z4 + (q6 ^^^ q7)) (z5 + 1) h _ _ _ hP hD hS (lv_sub hl [2, 3, 4, 1, 0] rfl)
set_option maxRecDepth 100000 in
set_option maxHeartbeats 8000000 in
theorem c_X12_mended (l : Launch) (D : va_G) (G : hG) (Z : hZ) (Y : va_W) (σ0 : hSt) (F : Nat) (x1 : Int32) (x2 : Int32) (x3 : Int32) (res : (Int32 × hSt)) (h : f_X12_mended F Z σ0 x1 x2 x3 = some res) : CT l yX12_mended cX12_mended 6 (some .int) rm_X12_mended D G 0 0 [.ref (G.2.1 200), .int x1, .int x2, .int x3] (mW G Z Y σ0) (mW G Z Y res.2) (some (.int res.1)) := by
  unfold f_X12_mended at h
  refine CT.mk (cc := cX12_mended) (maxL := 6) (ret := (some .int)) (own := RX12) (plainFor_of_name (by decide)) rfl (Nat.le_of_ble_eq_true rfl) ?_
  intro p e s m args below meth c A ls C0 hnm hA hP hD hl
  obtain ⟨hx, hb, hr, hml, hown, hts, hlocks, hK, hE⟩ := id C0
  have hS : va_S A s.heap s.heap [] := va_S.rf
  have hl : lv_has ls 6 [(0, .ref (G.2.1 200)), (1, .int x1), (2, .int x2), (3, .int x3)] := hl
  refine lv_aload_n hx hb dX12_mended_0 rfl (lv_at hl 0 rfl) ?_
  refine lv_iconst (v := 0) hx hb dX12_mended_1 (by decide) ?_
  refine va_put (D := D) (ci := 12) (v := .int (0 : Int32)) (ty := .int) (C := RX12) (T := TX12) (N := 59) hx hb hts inU_X12 tyX12 tyX12_ok nmX12 hown hK hP hD hS _ (mg_200 G Z Y σ0) rfl 0 (by decide) (hts _ wd_1248) (fun _ h9 => h9) rfl (by decide +kernel) rfl rfl (Nat.le_of_ble_eq_true rfl) dX12_mended_2 (fun H locs hP hD hS => ?_)
  have hP := wrP (mp_200_0 G Z Y σ0 (0 : Int32)) hP
  have hD := wrD (mp_200_0 G Z Y σ0 (0 : Int32)) hD
  refine lv_iload_n hx hb dX12_mended_5 rfl (lv_at hl 1 rfl) ?_
  refine lv_iload_n hx hb dX12_mended_6 rfl (lv_at hl 2 rfl) ?_
  obtain ⟨q1, hq1, h⟩ := f_b h
  refine cl_S (w := (mW G Z Y (sI σ0 200 0 (0 : Int32)))) (w' := (mW G Z Y (sI σ0 200 0 (0 : Int32)))) (rv := some (.int q1)) (bytes := cX12_isBook) (maxL := 2) (ret := (some .boolean)) (As := [.int x1, .int x2]) (rest := []) (stk := [.int q1]) ⟨hx, hb, hml, hown, hts⟩ hK hE hA hP hD hS (c_X12_isBook l D G (mW G Z Y (sI σ0 200 0 (0 : Int32))) x1 x2 q1 hq1) (mkS hts wd_1856 wd_1857 wd_11 wd_1858 rfl rfl hd_X12_isBook ⟨Nat.le_of_ble_eq_true rfl, Nat.le_of_ble_eq_true rfl⟩) rfl hl.1 rfl (Nat.le_of_ble_eq_true rfl) dX12_mended_7 ⟨Nat.zero_le _, Nat.zero_le _⟩ rfl (fun H locs hP hD hS => ?_)
  refine lv_if_eq (tgt := 28) hx hb dX12_mended_10 (by decide) (fun c2 => ?_) (fun c2 => ?_)
  · skip
    have h := f_t c2 h
    refine lv_iconst (v := (-1)) hx hb dX12_mended_28 (by decide) ?_
    obtain rfl := Option.some.inj h
    exact W.iret (v := (-1 : Int32)) hx hb hr (q_end hK hP hD hS) hS.2.2 dX12_mended_29
  · skip
    have h := f_f c2 h
    refine lv_iload_n hx hb dX12_mended_13 rfl (lv_at hl 3 rfl) ?_
    refine lv_i2l (v := (x3 : Int32).toInt64) hx hb dX12_mended_14 rfl ?_
    refine lv_lconst (v := 0) hx hb dX12_mended_15 (by decide) ?_
    refine lv_iconst (v := 1) hx hb dX12_mended_16 (by decide) ?_
    refine lv_iload_n hx hb dX12_mended_17 rfl (lv_at hl 1 rfl) ?_
    refine lv_ishl hx hb dX12_mended_18 ?_
    refine lv_iconst (v := 1) hx hb dX12_mended_19 (by decide) ?_
    refine lv_isub hx hb dX12_mended_20 ?_
    refine lv_i2l (v := ((((1 : Int32) <<< (x1 &&& 31)) - (1 : Int32)) : Int32).toInt64) hx hb dX12_mended_21 rfl ?_
    obtain ⟨q3, hq3, h⟩ := f_b h
    refine cl_S (w := (mW G Z Y (sI σ0 200 0 (0 : Int32)))) (w' := (mW G Z Y (sI σ0 200 0 (0 : Int32)))) (rv := some (.int q3)) (bytes := cX12_isIn) (maxL := 6) (ret := (some .boolean)) (As := [.long (x3 : Int32).toInt64, .long (0 : Int64), .long ((((1 : Int32) <<< (x1 &&& 31)) - (1 : Int32)) : Int32).toInt64]) (rest := []) (stk := [.int q3]) ⟨hx, hb, hml, hown, hts⟩ hK hE hA hP hD hS (c_X12_isIn l D G (mW G Z Y (sI σ0 200 0 (0 : Int32))) ((x3 : Int32).toInt64) (0 : Int64) (((((1 : Int32) <<< (x1 &&& 31)) - (1 : Int32)) : Int32).toInt64) q3 hq3) (mkS hts wd_1498 wd_1499 wd_11 wd_1500 rfl rfl hd_X12_isIn ⟨Nat.le_of_ble_eq_true rfl, Nat.le_of_ble_eq_true rfl⟩) rfl hl.1 rfl (Nat.le_of_ble_eq_true rfl) dX12_mended_22 ⟨Nat.zero_le _, Nat.zero_le _⟩ rfl (fun H locs hP hD hS => ?_)
    refine lv_if_ne (tgt := 30) hx hb dX12_mended_25 (by decide) (fun c4 => ?_) (fun c4 => ?_)
    · skip
      have h := f_f c4 h
      refine lv_iconst (v := 0) hx hb dX12_mended_30 (by decide) ?_
      refine lv_istore (lv' := [(4, .int (0 : Int32)), (0, .ref (G.2.1 200)), (1, .int x1), (2, .int x2), (3, .int x3)]) hx hb dX12_mended_31 hl (by decide) rfl (fun ls hl => ?_)
      refine lv_iconst (v := 0) hx hb dX12_mended_33 (by decide) ?_
      refine lv_istore (lv' := [(5, .int (0 : Int32)), (4, .int (0 : Int32)), (0, .ref (G.2.1 200)), (1, .int x1), (2, .int x2), (3, .int x3)]) hx hb dX12_mended_34 hl (by decide) rfl (fun ls hl => ?_)
      refine W_X12_mended_L36 l D G Z Y σ0 F x1 x2 x3 (sI σ0 200 0 (0 : Int32)) x1 x2 x3 res C0 hA _ ?_ F (0 : Int32) (0 : Int32) h _ _ _ hP hD hS (lv_sub hl [3, 4, 5, 1, 0] rfl)
      · intro z4 h H locs ls hP hD hS hl
        refine lv_iconst (v := 2) hx hb dX12_mended_70 (by decide) ?_
        refine lv_iload hx hb dX12_mended_71 (lv_at hl 1 rfl) ?_
        refine lv_imul hx hb dX12_mended_73 ?_
        refine lv_iconst (v := 1) hx hb dX12_mended_74 (by decide) ?_
        refine lv_iload_n hx hb dX12_mended_75 rfl (lv_at hl 0 rfl) ?_
        refine lv_ishl hx hb dX12_mended_76 ?_
        refine lv_icmp_le (tgt := 84) hx hb dX12_mended_77 (by decide) (fun c8 => ?_) (fun c8 => ?_)
        · skip
          have h := f_t c8 h
          refine lv_iconst (v := 0) hx hb dX12_mended_84 (by decide) ?_
          obtain rfl := Option.some.inj h
          exact W.iret (v := (0 : Int32)) hx hb hr (q_end hK hP hD hS) hS.2.2 dX12_mended_85
        · skip
          have h := f_f c8 h
          refine lv_iconst (v := 1) hx hb dX12_mended_80 (by decide) ?_
          refine lv_goto (tgt := 85) hx hb dX12_mended_81 (by decide) ?_
          obtain rfl := Option.some.inj h
          exact W.iret (v := (1 : Int32)) hx hb hr (q_end hK hP hD hS) hS.2.2 dX12_mended_85
    · skip
      have h := f_t c4 h
      refine lv_iconst (v := (-1)) hx hb dX12_mended_28 (by decide) ?_
      obtain rfl := Option.some.inj h
      exact W.iret (v := (-1 : Int32)) hx hb hr (q_end hK hP hD hS) hS.2.2 dX12_mended_29
abbrev rm_X12_least : Room := { frames := 2, cells := 0, slots := 0, locals := 45 }
set_option maxRecDepth 100000 in
set_option maxHeartbeats 8000000 in
theorem W_X12_least_L34 {p : Program} {e : Env} {s : State} {m : MethodId} {args : Array Value} {below : List Frame} {meth : Method} {c : Code} {A : Nat → Prop} (l : Launch) (D : va_G) (G : hG) (Z : hZ) (Y : va_W) (σ0 : hSt) (F : Nat) (x1 : Int32) (x2 : Int32) (σ1 : hSt) (y1 : Int32) (y2 : Int32) (res : (Int32 × hSt)) (C0 : Cx p s m args meth c cX12_least (some .int) RX12 6 D G A) (hA : ∀ q : Nat, s.heap.size ≤ q → A q) (k81 : Int32 → Option (Int32 × hSt)) (hk81 : ∀ (z3 : Int32), k81 z3 = some res → ∀ (H : Heap) (locs : List Loc) (ls : Array Slot), va_P D vwCl (mW G Z Y σ1) H → va_D A (mW G Z Y σ1) → va_S A s.heap H locs → lv_has ls 6 [(1, .int y1), (2, .int y2), (3, .int z3)] → W p l e rm_X12_least s m args below meth c H locs 0 0 (MQ below (Qg (some (.int res.1)) D (tysG G) (mW G Z Y res.2) A) args s 0 0 A) (F0 m 81 ls [])) : ∀ (n : Nat) (z3 : Int32) (z4 : Int32), f_X12_least_L34 F y1 y2 k81 n z3 z4 = some res → ∀ (H : Heap) (locs : List Loc) (ls : Array Slot), va_P D vwCl (mW G Z Y σ1) H → va_D A (mW G Z Y σ1) → va_S A s.heap H locs → lv_has ls 6 [(1, .int y1), (2, .int y2), (3, .int z3), (4, .int z4)] → W p l e rm_X12_least s m args below meth c H locs 0 0 (MQ below (Qg (some (.int res.1)) D (tysG G) (mW G Z Y res.2) A) args s 0 0 A) (F0 m 34 ls []) := by
  obtain ⟨hx, hb, hr, hml, hown, hts, hlocks, hK, hE⟩ := id C0
  intro n
  induction n with
  | zero =>
    intro z3 z4 h
    cases h
  | succ n ih =>
    intro z3 z4 h H locs ls hP hD hS hl
    rw [f_X12_least_L34] at h
    refine lv_iload hx hb dX12_least_34 (lv_at hl 3 rfl) ?_
    refine lv_iconst (v := 1) hx hb dX12_least_36 (by decide) ?_
    refine lv_iconst (v := 1) hx hb dX12_least_37 (by decide) ?_
    refine lv_iload_n hx hb dX12_least_38 rfl (lv_at hl 0 rfl) ?_
    refine lv_ishl hx hb dX12_least_39 ?_
    refine lv_ishl hx hb dX12_least_40 ?_
    refine lv_icmp_ge (tgt := 81) hx hb dX12_least_41 (by decide) (fun c5 => ?_) (fun c5 => ?_)
    · skip
      have h := f_t c5 h
      exact hk81 z3 h _ _ _ hP hD hS (lv_sub hl [0, 1, 2] rfl)
    · skip
      have h := f_f c5 h
      refine lv_iload_n hx hb dX12_least_44 rfl (lv_at hl 0 rfl) ?_
      refine lv_iload hx hb dX12_least_45 (lv_at hl 3 rfl) ?_
      obtain ⟨q6, hq6, h⟩ := f_b h
      refine cl_S (w := (mW G Z Y σ1)) (w' := (mW G Z Y σ1)) (rv := some (.int q6)) (bytes := cX12_caughtBy) (maxL := 5) (ret := (some .int)) (As := [.int y1, .int z4]) (rest := []) (stk := [.int q6]) ⟨hx, hb, hml, hown, hts⟩ hK hE hA hP hD hS (c_X12_caughtBy l D G (mW G Z Y σ1) F y1 z4 q6 hq6) (mkS hts wd_1860 wd_1861 wd_11 wd_1862 rfl rfl hd_X12_caughtBy ⟨Nat.le_of_ble_eq_true rfl, Nat.le_of_ble_eq_true rfl⟩) rfl hl.1 rfl (Nat.le_of_ble_eq_true rfl) dX12_least_47 ⟨Nat.zero_le _, Nat.zero_le _⟩ rfl (fun H locs hP hD hS => ?_)
      refine lv_istore (lv' := [(5, .int q6), (1, .int y1), (2, .int y2), (3, .int z3), (4, .int z4)]) hx hb dX12_least_50 hl (by decide) rfl (fun ls hl => ?_)
      refine lv_iload hx hb dX12_least_52 (lv_at hl 0 rfl) ?_
      refine lv_if_le (tgt := 75) hx hb dX12_least_54 (by decide) (fun c7 => ?_) (fun c7 => ?_)
      · skip
        have h := f_t c7 h
        refine lv_iinc (v := (z4 + 1)) (lv' := [(4, .int (z4 + 1)), (5, .int q6), (1, .int y1), (2, .int y2), (3, .int z3)]) hx hb dX12_least_75 hl (k := 4) rfl rfl (by decide) rfl (fun ls hl => ?_)
        refine lv_goto (tgt := 34) hx hb dX12_least_78 (by decide) ?_
        exact ih z3 (z4 + 1) h _ _ _ hP hD hS (lv_sub hl [2, 3, 4, 0] rfl)
      · skip
        have h := f_f c7 h
        refine lv_iload_n hx hb dX12_least_57 rfl (lv_at hl 3 rfl) ?_
        refine lv_iconst (v := (-1)) hx hb dX12_least_58 (by decide) ?_
        refine lv_icmp_eq (tgt := 72) hx hb dX12_least_59 (by decide) (fun c8 => ?_) (fun c8 => ?_)
        · skip
          have h := f_t c8 h
          refine lv_iload hx hb dX12_least_72 (lv_at hl 4 rfl) ?_
          refine lv_istore_n (lv' := [(3, .int z4), (5, .int q6), (1, .int y1), (2, .int y2), (4, .int z4)]) hx hb dX12_least_74 rfl hl (by decide) rfl (fun ls hl => ?_)
          refine lv_iinc (v := (z4 + 1)) (lv' := [(4, .int (z4 + 1)), (3, .int z4), (5, .int q6), (1, .int y1), (2, .int y2)]) hx hb dX12_least_75 hl (k := 4) rfl rfl (by decide) rfl (fun ls hl => ?_)
          refine lv_goto (tgt := 34) hx hb dX12_least_78 (by decide) ?_
          exact ih z4 (z4 + 1) h _ _ _ hP hD hS (lv_sub hl [3, 4, 1, 0] rfl)
        · skip
          have h := f_f c8 h
          refine lv_iload hx hb dX12_least_62 (lv_at hl 0 rfl) ?_
          refine lv_iload_n hx hb dX12_least_64 rfl (lv_at hl 1 rfl) ?_
          refine lv_iload_n hx hb dX12_least_65 rfl (lv_at hl 3 rfl) ?_
          obtain ⟨q9, hq9, h⟩ := f_b h
          refine cl_S (w := (mW G Z Y σ1)) (w' := (mW G Z Y σ1)) (rv := some (.int q9)) (bytes := cX12_caughtBy) (maxL := 5) (ret := (some .int)) (As := [.int y1, .int z3]) (rest := [.int q6]) (stk := [.int q9, .int q6]) ⟨hx, hb, hml, hown, hts⟩ hK hE hA hP hD hS (c_X12_caughtBy l D G (mW G Z Y σ1) F y1 z3 q9 hq9) (mkS hts wd_1860 wd_1861 wd_11 wd_1862 rfl rfl hd_X12_caughtBy ⟨Nat.le_of_ble_eq_true rfl, Nat.le_of_ble_eq_true rfl⟩) rfl hl.1 rfl (Nat.le_of_ble_eq_true rfl) dX12_least_66 ⟨Nat.zero_le _, Nat.zero_le _⟩ rfl (fun H locs hP hD hS => ?_)
          refine lv_icmp_ge (tgt := 75) hx hb dX12_least_69 (by decide) (fun c10 => ?_) (fun c10 => ?_)
          · skip
            have h := f_t c10 h
            refine lv_iinc (v := (z4 + 1)) (lv' := [(4, .int (z4 + 1)), (5, .int q6), (1, .int y1), (2, .int y2), (3, .int z3)]) hx hb dX12_least_75 hl (k := 4) rfl rfl (by decide) rfl (fun ls hl => ?_)
            refine lv_goto (tgt := 34) hx hb dX12_least_78 (by decide) ?_
            exact ih z3 (z4 + 1) h _ _ _ hP hD hS (lv_sub hl [2, 3, 4, 0] rfl)
          · skip
            have h := f_f c10 h
            refine lv_iload hx hb dX12_least_72 (lv_at hl 4 rfl) ?_
            refine lv_istore_n (lv' := [(3, .int z4), (5, .int q6), (1, .int y1), (2, .int y2), (4, .int z4)]) hx hb dX12_least_74 rfl hl (by decide) rfl (fun ls hl => ?_)
            refine lv_iinc (v := (z4 + 1)) (lv' := [(4, .int (z4 + 1)), (3, .int z4), (5, .int q6), (1, .int y1), (2, .int y2)]) hx hb dX12_least_75 hl (k := 4) rfl rfl (by decide) rfl (fun ls hl => ?_)
            refine lv_goto (tgt := 34) hx hb dX12_least_78 (by decide) ?_
            exact ih z4 (z4 + 1) h _ _ _ hP hD hS (lv_sub hl [3, 4, 1, 0] rfl)
set_option maxRecDepth 100000 in
set_option maxHeartbeats 8000000 in
theorem c_X12_least (l : Launch) (D : va_G) (G : hG) (Z : hZ) (Y : va_W) (σ0 : hSt) (F : Nat) (x1 : Int32) (x2 : Int32) (res : (Int32 × hSt)) (h : f_X12_least F Z σ0 x1 x2 = some res) : CT l yX12_least cX12_least 6 (some .int) rm_X12_least D G 0 0 [.ref (G.2.1 200), .int x1, .int x2] (mW G Z Y σ0) (mW G Z Y res.2) (some (.int res.1)) := by
  unfold f_X12_least at h
  refine CT.mk (cc := cX12_least) (maxL := 6) (ret := (some .int)) (own := RX12) (plainFor_of_name (by decide)) rfl (Nat.le_of_ble_eq_true rfl) ?_
  intro p e s m args below meth c A ls C0 hnm hA hP hD hl
  obtain ⟨hx, hb, hr, hml, hown, hts, hlocks, hK, hE⟩ := id C0
  have hS : va_S A s.heap s.heap [] := va_S.rf
  have hl : lv_has ls 6 [(0, .ref (G.2.1 200)), (1, .int x1), (2, .int x2)] := hl
  refine lv_aload_n hx hb dX12_least_0 rfl (lv_at hl 0 rfl) ?_
  refine lv_iconst (v := 0) hx hb dX12_least_1 (by decide) ?_
  refine va_put (D := D) (ci := 12) (v := .int (0 : Int32)) (ty := .int) (C := RX12) (T := TX12) (N := 59) hx hb hts inU_X12 tyX12 tyX12_ok nmX12 hown hK hP hD hS _ (mg_200 G Z Y σ0) rfl 0 (by decide) (hts _ wd_1248) (fun _ h9 => h9) rfl (by decide +kernel) rfl rfl (Nat.le_of_ble_eq_true rfl) dX12_least_2 (fun H locs hP hD hS => ?_)
  have hP := wrP (mp_200_0 G Z Y σ0 (0 : Int32)) hP
  have hD := wrD (mp_200_0 G Z Y σ0 (0 : Int32)) hD
  refine lv_iload_n hx hb dX12_least_5 rfl (lv_at hl 1 rfl) ?_
  refine lv_i2l (v := (x1 : Int32).toInt64) hx hb dX12_least_6 rfl ?_
  refine lv_lconst (v := 1) hx hb dX12_least_7 (by decide) ?_
  refine lv_ldc2 (v := 3) hx hb hown (hts _ wd_1549) dX12_least_8 ?_
  obtain ⟨q1, hq1, h⟩ := f_b h
  refine cl_S (w := (mW G Z Y (sI σ0 200 0 (0 : Int32)))) (w' := (mW G Z Y (sI σ0 200 0 (0 : Int32)))) (rv := some (.int q1)) (bytes := cX12_isIn) (maxL := 6) (ret := (some .boolean)) (As := [.long (x1 : Int32).toInt64, .long (1 : Int64), .long (3 : Int64)]) (rest := []) (stk := [.int q1]) ⟨hx, hb, hml, hown, hts⟩ hK hE hA hP hD hS (c_X12_isIn l D G (mW G Z Y (sI σ0 200 0 (0 : Int32))) ((x1 : Int32).toInt64) (1 : Int64) (3 : Int64) q1 hq1) (mkS hts wd_1498 wd_1499 wd_11 wd_1500 rfl rfl hd_X12_isIn ⟨Nat.le_of_ble_eq_true rfl, Nat.le_of_ble_eq_true rfl⟩) rfl hl.1 rfl (Nat.le_of_ble_eq_true rfl) dX12_least_11 ⟨Nat.zero_le _, Nat.zero_le _⟩ rfl (fun H locs hP hD hS => ?_)
  refine lv_if_eq (tgt := 27) hx hb dX12_least_14 (by decide) (fun c2 => ?_) (fun c2 => ?_)
  · skip
    have h := f_t c2 h
    refine lv_iconst (v := (-1)) hx hb dX12_least_27 (by decide) ?_
    obtain rfl := Option.some.inj h
    exact W.iret (v := (-1 : Int32)) hx hb hr (q_end hK hP hD hS) hS.2.2 dX12_least_28
  · skip
    have h := f_f c2 h
    refine lv_iload_n hx hb dX12_least_17 rfl (lv_at hl 2 rfl) ?_
    refine lv_i2l (v := (x2 : Int32).toInt64) hx hb dX12_least_18 rfl ?_
    refine lv_lconst (v := 0) hx hb dX12_least_19 (by decide) ?_
    refine lv_lconst (v := 1) hx hb dX12_least_20 (by decide) ?_
    obtain ⟨q3, hq3, h⟩ := f_b h
    refine cl_S (w := (mW G Z Y (sI σ0 200 0 (0 : Int32)))) (w' := (mW G Z Y (sI σ0 200 0 (0 : Int32)))) (rv := some (.int q3)) (bytes := cX12_isIn) (maxL := 6) (ret := (some .boolean)) (As := [.long (x2 : Int32).toInt64, .long (0 : Int64), .long (1 : Int64)]) (rest := []) (stk := [.int q3]) ⟨hx, hb, hml, hown, hts⟩ hK hE hA hP hD hS (c_X12_isIn l D G (mW G Z Y (sI σ0 200 0 (0 : Int32))) ((x2 : Int32).toInt64) (0 : Int64) (1 : Int64) q3 hq3) (mkS hts wd_1498 wd_1499 wd_11 wd_1500 rfl rfl hd_X12_isIn ⟨Nat.le_of_ble_eq_true rfl, Nat.le_of_ble_eq_true rfl⟩) rfl hl.1 rfl (Nat.le_of_ble_eq_true rfl) dX12_least_21 ⟨Nat.zero_le _, Nat.zero_le _⟩ rfl (fun H locs hP hD hS => ?_)
    refine lv_if_ne (tgt := 29) hx hb dX12_least_24 (by decide) (fun c4 => ?_) (fun c4 => ?_)
    · skip
      have h := f_f c4 h
      refine lv_iconst (v := (-1)) hx hb dX12_least_29 (by decide) ?_
      refine lv_istore_n (lv' := [(3, .int (-1 : Int32)), (0, .ref (G.2.1 200)), (1, .int x1), (2, .int x2)]) hx hb dX12_least_30 rfl hl (by decide) rfl (fun ls hl => ?_)
      refine lv_iconst (v := 0) hx hb dX12_least_31 (by decide) ?_
      refine lv_istore (lv' := [(4, .int (0 : Int32)), (3, .int (-1 : Int32)), (0, .ref (G.2.1 200)), (1, .int x1), (2, .int x2)]) hx hb dX12_least_32 hl (by decide) rfl (fun ls hl => ?_)
      refine W_X12_least_L34 l D G Z Y σ0 F x1 x2 (sI σ0 200 0 (0 : Int32)) x1 x2 res C0 hA _ ?_ F (-1 : Int32) (0 : Int32) h _ _ _ hP hD hS (lv_sub hl [3, 4, 1, 0] rfl)
      · intro z3 h H locs ls hP hD hS hl
        refine lv_iload_n hx hb dX12_least_81 rfl (lv_at hl 2 rfl) ?_
        refine lv_iconst (v := (-1)) hx hb dX12_least_82 (by decide) ?_
        refine lv_icmp_ne (tgt := 90) hx hb dX12_least_83 (by decide) (fun c11 => ?_) (fun c11 => ?_)
        · skip
          have h := f_f c11 h
          refine lv_iload_n hx hb dX12_least_90 rfl (lv_at hl 1 rfl) ?_
          refine lv_if_ne (tgt := 102) hx hb dX12_least_91 (by decide) (fun c12 => ?_) (fun c12 => ?_)
          · skip
            have h := f_f c12 h
            refine lv_iload_n hx hb dX12_least_102 rfl (lv_at hl 2 rfl) ?_
            obtain rfl := Option.some.inj h
            exact W.iret (v := z3) hx hb hr (q_end hK hP hD hS) hS.2.2 dX12_least_103
          · skip
            have h := f_t c12 h
            refine lv_iload_n hx hb dX12_least_94 rfl (lv_at hl 0 rfl) ?_
            refine lv_iload_n hx hb dX12_least_95 rfl (lv_at hl 2 rfl) ?_
            obtain ⟨q13, hq13, h⟩ := f_b h
            refine cl_S (w := (mW G Z Y (sI σ0 200 0 (0 : Int32)))) (w' := (mW G Z Y (sI σ0 200 0 (0 : Int32)))) (rv := some (.int q13)) (bytes := cX12_caughtBy) (maxL := 5) (ret := (some .int)) (As := [.int x1, .int z3]) (rest := []) (stk := [.int q13]) ⟨hx, hb, hml, hown, hts⟩ hK hE hA hP hD hS (c_X12_caughtBy l D G (mW G Z Y (sI σ0 200 0 (0 : Int32))) F x1 z3 q13 hq13) (mkS hts wd_1860 wd_1861 wd_11 wd_1862 rfl rfl hd_X12_caughtBy ⟨Nat.le_of_ble_eq_true rfl, Nat.le_of_ble_eq_true rfl⟩) rfl hl.1 rfl (Nat.le_of_ble_eq_true rfl) dX12_least_96 ⟨Nat.zero_le _, Nat.zero_le _⟩ rfl (fun H locs hP hD hS => ?_)
            refine lv_goto (tgt := 103) hx hb dX12_least_99 (by decide) ?_
            obtain rfl := Option.some.inj h
            exact W.iret (v := q13) hx hb hr (q_end hK hP hD hS) hS.2.2 dX12_least_103
        · skip
          have h := f_t c11 h
          refine lv_iconst (v := (-1)) hx hb dX12_least_86 (by decide) ?_
          refine lv_goto (tgt := 103) hx hb dX12_least_87 (by decide) ?_
          obtain rfl := Option.some.inj h
          exact W.iret (v := (-1 : Int32)) hx hb hr (q_end hK hP hD hS) hS.2.2 dX12_least_103
    · skip
      have h := f_t c4 h
      refine lv_iconst (v := (-1)) hx hb dX12_least_27 (by decide) ?_
      obtain rfl := Option.some.inj h
      exact W.iret (v := (-1 : Int32)) hx hb hr (q_end hK hP hD hS) hS.2.2 dX12_least_28
abbrev rm_X12_count : Room := { frames := 0, cells := 0, slots := 0, locals := 0 }
set_option maxRecDepth 100000 in
set_option maxHeartbeats 8000000 in
theorem c_X12_count (l : Launch) (D : va_G) (G : hG) (Z : hZ) (Y : va_W) (σ0 : hSt) (x1 : Int32) (res : (Int32 × hSt)) (h : f_X12_count Z σ0 x1 = some res) : CT l yX12_count cX12_count 2 (some .int) rm_X12_count D G 0 0 [.ref (G.2.1 200), .int x1] (mW G Z Y σ0) (mW G Z Y res.2) (some (.int res.1)) := by
  unfold f_X12_count at h
  refine CT.mk (cc := cX12_count) (maxL := 2) (ret := (some .int)) (own := RX12) (plainFor_of_name (by decide)) rfl (Nat.le_of_ble_eq_true rfl) ?_
  intro p e s m args below meth c A ls C0 hnm hA hP hD hl
  obtain ⟨hx, hb, hr, hml, hown, hts, hlocks, hK, hE⟩ := id C0
  have hS : va_S A s.heap s.heap [] := va_S.rf
  have hl : lv_has ls 2 [(0, .ref (G.2.1 200)), (1, .int x1)] := hl
  refine lv_aload_n hx hb dX12_count_0 rfl (lv_at hl 0 rfl) ?_
  refine lv_iconst (v := 0) hx hb dX12_count_1 (by decide) ?_
  refine va_put (D := D) (ci := 12) (v := .int (0 : Int32)) (ty := .int) (C := RX12) (T := TX12) (N := 59) hx hb hts inU_X12 tyX12 tyX12_ok nmX12 hown hK hP hD hS _ (mg_200 G Z Y σ0) rfl 0 (by decide) (hts _ wd_1248) (fun _ h9 => h9) rfl (by decide +kernel) rfl rfl (Nat.le_of_ble_eq_true rfl) dX12_count_2 (fun H locs hP hD hS => ?_)
  have hP := wrP (mp_200_0 G Z Y σ0 (0 : Int32)) hP
  have hD := wrD (mp_200_0 G Z Y σ0 (0 : Int32)) hD
  refine lv_iload_n hx hb dX12_count_5 rfl (lv_at hl 1 rfl) ?_
  by_cases c1 : x1 = 0
  · have h := f_t c1 h
    refine lv_tableIn (off := 42) (tgt := 48) hx hb dX12_count_6 (by rw [c1]; decide) (by rw [c1]; decide) (by rw [c1]; rfl) (by decide) ?_
    refine lv_aload_n hx hb dX12_count_48 rfl (lv_at hl 0 rfl) ?_
    refine va_get (D := D) (ci := 12) (v := .int (σ0.1 200 15)) (C := RX12) (T := TX12) (N := 59) hx hb hts inU_X12 hown hK hP _ (mg_200 G Z Y (sI σ0 200 0 (0 : Int32))) rfl 15 (by decide) (hts _ wd_1263) (fun _ h9 => h9) rfl dX12_count_49 ?_
    obtain rfl := Option.some.inj h
    exact W.iret (v := (σ0.1 200 15)) hx hb hr (q_end hK hP hD hS) hS.2.2 dX12_count_52
  have h := f_f c1 h
  by_cases c2 : x1 = 1
  · have h := f_t c2 h
    refine lv_tableIn (off := 47) (tgt := 53) hx hb dX12_count_6 (by rw [c2]; decide) (by rw [c2]; decide) (by rw [c2]; rfl) (by decide) ?_
    refine lv_aload_n hx hb dX12_count_53 rfl (lv_at hl 0 rfl) ?_
    refine va_get (D := D) (ci := 12) (v := .int (σ0.1 200 25)) (C := RX12) (T := TX12) (N := 59) hx hb hts inU_X12 hown hK hP _ (mg_200 G Z Y (sI σ0 200 0 (0 : Int32))) rfl 25 (by decide) (hts _ wd_1273) (fun _ h9 => h9) rfl dX12_count_54 ?_
    obtain rfl := Option.some.inj h
    exact W.iret (v := (σ0.1 200 25)) hx hb hr (q_end hK hP hD hS) hS.2.2 dX12_count_57
  have h := f_f c2 h
  by_cases c3 : x1 = 2
  · have h := f_t c3 h
    refine lv_tableIn (off := 52) (tgt := 58) hx hb dX12_count_6 (by rw [c3]; decide) (by rw [c3]; decide) (by rw [c3]; rfl) (by decide) ?_
    refine lv_aload_n hx hb dX12_count_58 rfl (lv_at hl 0 rfl) ?_
    refine va_get (D := D) (ci := 12) (v := .int (σ0.1 200 26)) (C := RX12) (T := TX12) (N := 59) hx hb hts inU_X12 hown hK hP _ (mg_200 G Z Y (sI σ0 200 0 (0 : Int32))) rfl 26 (by decide) (hts _ wd_1274) (fun _ h9 => h9) rfl dX12_count_59 ?_
    obtain rfl := Option.some.inj h
    exact W.iret (v := (σ0.1 200 26)) hx hb hr (q_end hK hP hD hS) hS.2.2 dX12_count_62
  have h := f_f c3 h
  by_cases c4 : x1 = 3
  · have h := f_t c4 h
    refine lv_tableIn (off := 57) (tgt := 63) hx hb dX12_count_6 (by rw [c4]; decide) (by rw [c4]; decide) (by rw [c4]; rfl) (by decide) ?_
    refine lv_aload_n hx hb dX12_count_63 rfl (lv_at hl 0 rfl) ?_
    refine va_get (D := D) (ci := 12) (v := .int (σ0.1 200 36)) (C := RX12) (T := TX12) (N := 59) hx hb hts inU_X12 hown hK hP _ (mg_200 G Z Y (sI σ0 200 0 (0 : Int32))) rfl 36 (by decide) (hts _ wd_1284) (fun _ h9 => h9) rfl dX12_count_64 ?_
    obtain rfl := Option.some.inj h
    exact W.iret (v := (σ0.1 200 36)) hx hb hr (q_end hK hP hD hS) hS.2.2 dX12_count_67
  have h := f_f c4 h
  by_cases c5 : x1 = 4
  · have h := f_t c5 h
    refine lv_tableIn (off := 62) (tgt := 68) hx hb dX12_count_6 (by rw [c5]; decide) (by rw [c5]; decide) (by rw [c5]; rfl) (by decide) ?_
    refine lv_aload_n hx hb dX12_count_68 rfl (lv_at hl 0 rfl) ?_
    refine va_get (D := D) (ci := 12) (v := .int (σ0.1 200 58)) (C := RX12) (T := TX12) (N := 59) hx hb hts inU_X12 hown hK hP _ (mg_200 G Z Y (sI σ0 200 0 (0 : Int32))) rfl 58 (by decide) (hts _ wd_1305) (fun _ h9 => h9) rfl dX12_count_69 ?_
    obtain rfl := Option.some.inj h
    exact W.iret (v := (σ0.1 200 58)) hx hb hr (q_end hK hP hD hS) hS.2.2 dX12_count_72
  have h := f_f c5 h
  by_cases c6 : x1 = 5
  · have h := f_t c6 h
    refine lv_tableIn (off := 67) (tgt := 73) hx hb dX12_count_6 (by rw [c6]; decide) (by rw [c6]; decide) (by rw [c6]; rfl) (by decide) ?_
    refine lv_aload_n hx hb dX12_count_73 rfl (lv_at hl 0 rfl) ?_
    refine va_get (D := D) (ci := 12) (v := .int (σ0.1 200 20)) (C := RX12) (T := TX12) (N := 59) hx hb hts inU_X12 hown hK hP _ (mg_200 G Z Y (sI σ0 200 0 (0 : Int32))) rfl 20 (by decide) (hts _ wd_1268) (fun _ h9 => h9) rfl dX12_count_74 ?_
    obtain rfl := Option.some.inj h
    exact W.iret (v := (σ0.1 200 20)) hx hb hr (q_end hK hP hD hS) hS.2.2 dX12_count_77
  have h := f_f c6 h
  by_cases c7 : x1 = 6
  · have h := f_t c7 h
    refine lv_tableIn (off := 72) (tgt := 78) hx hb dX12_count_6 (by rw [c7]; decide) (by rw [c7]; decide) (by rw [c7]; rfl) (by decide) ?_
    refine lv_aload_n hx hb dX12_count_78 rfl (lv_at hl 0 rfl) ?_
    refine va_get (D := D) (ci := 12) (v := .int (σ0.1 200 3)) (C := RX12) (T := TX12) (N := 59) hx hb hts inU_X12 hown hK hP _ (mg_200 G Z Y (sI σ0 200 0 (0 : Int32))) rfl 3 (by decide) (hts _ wd_1251) (fun _ h9 => h9) rfl dX12_count_79 ?_
    obtain rfl := Option.some.inj h
    exact W.iret (v := (σ0.1 200 3)) hx hb hr (q_end hK hP hD hS) hS.2.2 dX12_count_82
  have h := f_f c7 h
  have hne0 := i32ne (z := 0) (by decide) c1
  have hne1 := i32ne (z := 1) (by decide) c2
  have hne2 := i32ne (z := 2) (by decide) c3
  have hne3 := i32ne (z := 3) (by decide) c4
  have hne4 := i32ne (z := 4) (by decide) c5
  have hne5 := i32ne (z := 5) (by decide) c6
  have hne6 := i32ne (z := 6) (by decide) c7
  refine lv_tableOut (tgt := 83) hx hb dX12_count_6 (by omega) (by decide) ?_
  refine lv_iconst (v := (-1)) hx hb dX12_count_83 (by decide) ?_
  obtain rfl := Option.some.inj h
  exact W.iret (v := (-1 : Int32)) hx hb hr (q_end hK hP hD hS) hS.2.2 dX12_count_84
