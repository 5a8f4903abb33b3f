def F_X5_put (N : Nat) (v1 : Int32) (M : xM) : Option xR := (if (60 : Int32) ≤ (M.1 1473 1) then some (M, 0) else xck (xin (M.1 1473 1) 60) (xl (xS M 1474 (upd (M.1 1474) (M.1 1473 1).toNatClampNeg (vp_nar .char v1))) (fun (M3 : xM) => xl (xS M3 1473 (upd (M3.1 1473) 1 ((M3.1 1473 1) + 1))) (fun (M4 : xM) => some (M4, 0)))))
def F_X5_empty (N : Nat) (M : xM) : Option xR := xl (xS M 1473 (upd (M.1 1473) 1 0)) (fun (M1 : xM) => some (M1, 0))
def L_X5_namesFrom_2 (N : Nat) : Nat → Int32 → xM → Option xR
  | 0, _, _ => none
  | n + 1, v2, M => (if (10 : Int32) ≤ v2 then some (M, 0) else xck (xin v2 10) ((if (M.1 1475 v2.toNatClampNeg) = (-1 : Int32) then xl (v2 + 1) (fun (y4 : Int32) => L_X5_namesFrom_2 N n y4 M) else some (M, 1))))
def F_X5_namesFrom (N : Nat) (v1 : Int32) (M : xM) : Option xR := L_X5_namesFrom_2 N N v1 M
def F_X5_takeSign (N : Nat) (v1 : Int32) (M : xM) : Option xR := (if (M.1 1473 1) ≤ (M.1 1473 2) then some (M, 0) else xck (xin (M.1 1473 2) 60) ((if (M.1 1474 (M.1 1473 2).toNatClampNeg) = v1 then xl (xS M 1473 (upd (M.1 1473) 2 ((M.1 1473 2) + 1))) (fun (M4 : xM) => some (M4, 1)) else some (M, 0))))
def F_X5_isAtDigit (N : Nat) (M : xM) : Option xR := (if (M.1 1473 1) ≤ (M.1 1473 2) then some (M, 0) else xck (xin (M.1 1473 2) 60) ((if (M.1 1474 (M.1 1473 2).toNatClampNeg) < (48 : Int32) then some (M, 0) else xck (xin (M.1 1473 2) 60) ((if (57 : Int32) < (M.1 1474 (M.1 1473 2).toNatClampNeg) then some (M, 0) else some (M, 1))))))
def F_X5_takeDigit (N : Nat) (M : xM) : Option xR := xck (xin (M.1 1473 2) 60) (xl ((M.1 1474 (M.1 1473 2).toNatClampNeg) - 48) (fun (y2 : Int32) => xl (xS M 1473 (upd (M.1 1473) 2 ((M.1 1473 2) + 1))) (fun (M3 : xM) => some (M3, y2))))
def L_X5_takeAmount_17 (N : Nat) : Nat → Int32 → Int32 → Int32 → xM → Option xR
  | 0, _, _, _, _ => none
  | n + 1, v1, v2, v3, M => (if v2 ≤ v3 then some (M, v1) else xbd (F_X5_isAtDigit N M) (fun (r2 : xR) => (if r2.2 = 0 then some (r2.1, v1) else xbd (F_X5_takeDigit N r2.1) (fun (r4 : xR) => xl ((v1 * 10) + r4.2) (fun (y5 : Int32) => xl (v3 + 1) (fun (y6 : Int32) => L_X5_takeAmount_17 N n y5 v2 y6 r4.1))))))
def L_X5_takeAmount_14 (N : Nat) (v1 : Int32) (t0 : Int32) (M : xM) : Option xR := L_X5_takeAmount_17 N N v1 t0 1 M
def F_X5_takeAmount (N : Nat) (M : xM) : Option xR := xbd (F_X5_takeDigit N M) (fun (r1 : xR) => xl (r1.2) (fun (y2 : Int32) => (if y2 = 0 then L_X5_takeAmount_14 N y2 1 r1.1 else L_X5_takeAmount_14 N y2 4 r1.1)))
def F_X5_takePart (N : Nat) (M : xM) : Option xR := xbd (F_X5_isAtDigit N M) (fun (r1 : xR) => (if r1.2 = 0 then some (r1.1, 0) else xbd (F_X5_takeDigit N r1.1) (fun (r3 : xR) => xl (r3.2) (fun (y4 : Int32) => xbd (F_X5_takeSign N 61 r3.1) (fun (r5 : xR) => (if r5.2 = 0 then some (r5.1, 0) else xbd (F_X5_isAtDigit N r5.1) (fun (r7 : xR) => (if r7.2 = 0 then some (r7.1, 0) else xbd (F_X5_takeAmount N r7.1) (fun (r9 : xR) => xck (xin y4 10) (xl (xS r9.1 1475 (upd (r9.1.1 1475) y4.toNatClampNeg r9.2)) (fun (M11 : xM) => some (M11, 1))))))))))))
def L_X5_takeParts_49 (N : Nat) (K_7 : Int32 → Int32 → xM → Option xR) (v2 : Int32) (t0 : Int32) (M : xM) : Option xR := xl (v2 + 1) (fun (y1 : Int32) => K_7 t0 y1 M)
def L_X5_takeParts_48 (N : Nat) (K_49 : Int32 → Int32 → xM → Option xR) (v2 : Int32) (M : xM) : Option xR := K_49 v2 0 M
def L_X5_takeParts_7 (N : Nat) : Nat → Int32 → Int32 → xM → Option xR
  | 0, _, _, _ => none
  | n + 1, v1, v2, M => (if (60 : Int32) ≤ v2 then xck (xz v1) (some (M, v1)) else (if v1 = 0 then xck (xz v1) (some (M, v1)) else (if (M.1 1473 1) ≤ (M.1 1473 2) then xck (xz v1) (some (M, v1)) else xbd (F_X5_takeSign N 44 M) (fun (r7 : xR) => (if r7.2 = 0 then L_X5_takeParts_48 N (L_X5_takeParts_49 N (L_X5_takeParts_7 N n)) v2 r7.1 else xbd (F_X5_takePart N r7.1) (fun (r9 : xR) => (if r9.2 = 0 then L_X5_takeParts_48 N (L_X5_takeParts_49 N (L_X5_takeParts_7 N n)) v2 r9.1 else L_X5_takeParts_49 N (L_X5_takeParts_7 N n) v2 1 r9.1)))))))
def F_X5_takeParts (N : Nat) (M : xM) : Option xR := xbd (F_X5_takePart N M) (fun (r1 : xR) => xl (r1.2) (fun (y2 : Int32) => L_X5_takeParts_7 N N y2 1 r1.1))
def F_X5_takeBase (N : Nat) (M : xM) : Option xR := xbd (F_X5_takeSign N 98 M) (fun (r1 : xR) => (if r1.2 = 0 then some (r1.1, 0) else xbd (F_X5_isAtDigit N r1.1) (fun (r3 : xR) => (if r3.2 = 0 then some (r3.1, 0) else xbd (F_X5_takeDigit N r3.1) (fun (r5 : xR) => xl (xS r5.1 1473 (upd (r5.1.1 1473) 3 r5.2)) (fun (M6 : xM) => xbd (F_X5_takeSign N 58 M6) (fun (r7 : xR) => xck (xz r7.2) (some (r7.1, r7.2)))))))))
def L_X5_readAll_7 (N : Nat) : Nat → Int32 → xM → Option xR
  | 0, _, _ => none
  | n + 1, v1, M => (if (10 : Int32) ≤ v1 then xbd (F_X5_takeBase N M) (fun (r2 : xR) => (if r2.2 = 0 then some (r2.1, (r2.1.1 1473 2)) else xbd (F_X5_takeParts N r2.1) (fun (r4 : xR) => (if r4.2 = 0 then some (r4.1, (r4.1.1 1473 2)) else some (r4.1, (-1)))))) else xck (xin v1 10) (xl (xS M 1475 (upd (M.1 1475) v1.toNatClampNeg (-1))) (fun (M7 : xM) => xl (v1 + 1) (fun (y8 : Int32) => L_X5_readAll_7 N n y8 M7))))
def F_X5_readAll (N : Nat) (M : xM) : Option xR := xl (xS M 1473 (upd (M.1 1473) 2 0)) (fun (M1 : xM) => L_X5_readAll_7 N N 0 M1)
