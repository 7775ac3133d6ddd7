-- X0_heldOf
def fX0_heldOf (x0 : Nat) (x1 : Int) (M : xM) : xO := (if x1 < 0 then (xret 0 M) else (if 4 ≤ x1 then (xret 0 M) else xix x1 4 ((xret (M (xr x0 9) x1.toNat) M))))
-- X0_blockedOf
def fX0_blockedOf (x0 : Nat) (x1 : Int) (M : xM) : xO := (if x1 < 0 then (xret 0 M) else (if 4 ≤ x1 then (xret 0 M) else xix x1 4 ((xret (M (xr x0 10) x1.toNat) M))))
-- X0_freeOf
def fX0_freeOf_27 (x0 : Nat) (x1 : Int) (s0 : Int) (M : xM) : xO := (if s0 = 0 then (xret 0 M) else xix x1 4 (xix x1 4 ((xret (w64 ((M (xr x0 9) x1.toNat) - (M (xr x0 10) x1.toNat))) M))))
def fX0_freeOf_26 (x0 : Nat) (x1 : Int) (M : xM) : xO := (fX0_freeOf_27 x0 x1 0 M)
def fX0_freeOf (x0 : Nat) (x1 : Int) (M : xM) : xO := (if x1 < 0 then (fX0_freeOf_26 x0 x1 M) else (if 4 ≤ x1 then (fX0_freeOf_26 x0 x1 M) else (if 4 ≤ x1 then (fX0_freeOf_26 x0 x1 M) else (fX0_freeOf_27 x0 x1 1 M))))
-- X0_freeCash
def fX0_freeCash (x0 : Nat) (M : xM) : xO := (xret (w64 ((M x0 5) - (M x0 6))) M)
-- X0_setBlocked
def fX0_setBlocked (x0 : Nat) (x1 : Int) (x2 : Int) (M : xM) : xO := (if x1 < 0 then (xret 0 M) else (if 4 ≤ x1 then (xret 0 M) else xix x1 4 (xput (xr x0 10) x1.toNat x2 M (fun M1 => (xret 0 M1)))))
-- X0_shift
def fX0_shift (x0 : Nat) (x1 : Int) (x2 : Int) (M : xM) : xO := (if x1 < 0 then (xret 0 M) else (if 4 ≤ x1 then (xret 0 M) else xix x1 4 (xix x1 4 (xput (xr x0 9) x1.toNat (w64 ((M (xr x0 9) x1.toNat) + x2)) M (fun M1 => (xret 0 M1))))))
-- X0_move
def fX0_move (x0 : Nat) (x1 : Int) (x2 : Int) (x4 : Int) (M : xM) : xO := xb (fX0_shift x0 x1 x2 M) (fun z1 M2 => xlet (w32 ((w32 (x4 * 4)) + x1)) (fun y3 => (if y3 < 0 then (xret 0 M2) else (if 44 ≤ y3 then (xret 0 M2) else xix y3 44 (xix y3 44 (xput (xr x0 11) y3.toNat (w64 ((M2 (xr x0 11) y3.toNat) + x2)) M2 (fun M4 => (xret 0 M4))))))))
-- X11_copyAll
def fX11_copyAll (x0 : Nat) (x1 : Nat) (M : xM) : xO := xcopy x0 (xln x0) x1 (xln x1) (min ((xln x0 : Nat) : Int) ((xln x1 : Nat) : Int)) M (fun M1 => (xret 0 M1))
-- X0_copyFrom
def fX0_copyFrom (x0 : Nat) (x1 : Nat) (M : xM) : xO := xput x0 0 (M x1 0) M (fun M1 => xput x0 1 (M1 x1 1) M1 (fun M2 => xput x0 2 (M2 x1 2) M2 (fun M3 => xput x0 3 (M3 x1 3) M3 (fun M4 => xput x0 4 (M4 x1 4) M4 (fun M5 => xput x0 5 (M5 x1 5) M5 (fun M6 => xput x0 6 (M6 x1 6) M6 (fun M7 => xput x0 7 (M7 x1 7) M7 (fun M8 => xput x0 8 (M8 x1 8) M8 (fun M9 => xb (fX11_copyAll (xr x1 9) (xr x0 9) M9) (fun z10 M11 => xb (fX11_copyAll (xr x1 10) (xr x0 10) M11) (fun z12 M13 => xb (fX11_copyAll (xr x1 11) (xr x0 11) M13) (fun z14 M15 => (xret 0 M15)))))))))))))
-- X1_account
def fX1_account_14 (s0 : Nat) (M : xM) : xO := xix 10 11 ((xret (((xr s0 10) : Nat) : Int) M))
def fX1_account (x0 : Nat) (x1 : Int) (M : xM) : xO := (if x1 < 0 then (fX1_account_14 (xr x0 1) M) else (if x1 ≤ 10 then xix x1 11 ((xret (((xr (xr x0 1) x1.toNat) : Nat) : Int) M)) else (fX1_account_14 (xr x0 1) M)))
-- X1_security
def fX1_security_13 (s0 : Nat) (M : xM) : xO := xix 4 5 ((xret (((xr s0 4) : Nat) : Int) M))
def fX1_security (x0 : Nat) (x1 : Int) (M : xM) : xO := (if x1 < 0 then (fX1_security_13 (xr x0 2) M) else (if x1 ≤ 4 then xix x1 5 ((xret (((xr (xr x0 2) x1.toNat) : Nat) : Int) M)) else (fX1_security_13 (xr x0 2) M)))
-- X1_instruction
def fX1_instruction_14 (s0 : Nat) (M : xM) : xO := xix 40 41 ((xret (((xr s0 40) : Nat) : Int) M))
def fX1_instruction (x0 : Nat) (x1 : Int) (M : xM) : xO := (if x1 < 0 then (fX1_instruction_14 (xr x0 3) M) else (if x1 ≤ 40 then xix x1 41 ((xret (((xr (xr x0 3) x1.toNat) : Nat) : Int) M)) else (fX1_instruction_14 (xr x0 3) M)))
-- X1_trade
def fX1_trade_14 (s0 : Nat) (M : xM) : xO := xix 20 21 ((xret (((xr s0 20) : Nat) : Int) M))
def fX1_trade (x0 : Nat) (x1 : Int) (M : xM) : xO := (if x1 < 0 then (fX1_trade_14 (xr x0 4) M) else (if x1 ≤ 20 then xix x1 21 ((xret (((xr (xr x0 4) x1.toNat) : Nat) : Int) M)) else (fX1_trade_14 (xr x0 4) M)))
-- X1_linkAt
def fX1_linkAt_14 (s0 : Nat) (M : xM) : xO := xix 10 11 ((xret (((xr s0 10) : Nat) : Int) M))
def fX1_linkAt (x0 : Nat) (x1 : Int) (M : xM) : xO := (if x1 < 0 then (fX1_linkAt_14 (xr x0 5) M) else (if x1 ≤ 10 then xix x1 11 ((xret (((xr (xr x0 5) x1.toNat) : Nat) : Int) M)) else (fX1_linkAt_14 (xr x0 5) M)))
-- X1_loanAt
def fX1_loanAt_14 (s0 : Nat) (M : xM) : xO := xix 20 21 ((xret (((xr s0 20) : Nat) : Int) M))
def fX1_loanAt (x0 : Nat) (x1 : Int) (M : xM) : xO := (if x1 < 0 then (fX1_loanAt_14 (xr x0 6) M) else (if x1 ≤ 20 then xix x1 21 ((xret (((xr (xr x0 6) x1.toNat) : Nat) : Int) M)) else (fX1_loanAt_14 (xr x0 6) M)))
-- X1_event
def fX1_event_14 (s0 : Nat) (M : xM) : xO := xix 10 11 ((xret (((xr s0 10) : Nat) : Int) M))
def fX1_event (x0 : Nat) (x1 : Int) (M : xM) : xO := (if x1 < 0 then (fX1_event_14 (xr x0 7) M) else (if x1 ≤ 10 then xix x1 11 ((xret (((xr (xr x0 7) x1.toNat) : Nat) : Int) M)) else (fX1_event_14 (xr x0 7) M)))
-- X9_copyFrom
def fX9_copyFrom (x0 : Nat) (x1 : Nat) (M : xM) : xO := xput x0 0 (M x1 0) M (fun M1 => xput x0 1 (M1 x1 1) M1 (fun M2 => xput x0 2 (M2 x1 2) M2 (fun M3 => xput x0 3 (M3 x1 3) M3 (fun M4 => (xret 0 M4)))))
-- X5_copyFrom
def fX5_copyFrom (x0 : Nat) (x1 : Nat) (M : xM) : xO := xput x0 0 (M x1 0) M (fun M1 => xput x0 1 (M1 x1 1) M1 (fun M2 => xput x0 2 (M2 x1 2) M2 (fun M3 => xput x0 3 (M3 x1 3) M3 (fun M4 => xput x0 4 (M4 x1 4) M4 (fun M5 => xput x0 5 (M5 x1 5) M5 (fun M6 => xput x0 6 (M6 x1 6) M6 (fun M7 => xput x0 7 (M7 x1 7) M7 (fun M8 => xput x0 8 (M8 x1 8) M8 (fun M9 => xput x0 9 (M9 x1 9) M9 (fun M10 => xput x0 10 (M10 x1 10) M10 (fun M11 => xput x0 11 (M11 x1 11) M11 (fun M12 => xput x0 12 (M12 x1 12) M12 (fun M13 => (xret 0 M13))))))))))))))
-- X10_copyFrom
def fX10_copyFrom (x0 : Nat) (x1 : Nat) (M : xM) : xO := xput x0 1 (M x1 1) M (fun M1 => xput x0 2 (M1 x1 2) M1 (fun M2 => xput x0 3 (M2 x1 3) M2 (fun M3 => xput x0 4 (M3 x1 4) M3 (fun M4 => xput x0 5 (M4 x1 5) M4 (fun M5 => xput x0 6 (M5 x1 6) M5 (fun M6 => xput x0 7 (M6 x1 7) M6 (fun M7 => xput x0 8 (M7 x1 8) M7 (fun M8 => xput x0 9 (M8 x1 9) M8 (fun M9 => xput x0 10 (M9 x1 10) M9 (fun M10 => xput x0 11 (M10 x1 11) M10 (fun M11 => xput x0 12 (M11 x1 12) M11 (fun M12 => (xret 0 M12)))))))))))))
-- X6_copyFrom
def fX6_copyFrom (x0 : Nat) (x1 : Nat) (M : xM) : xO := xput x0 0 (M x1 0) M (fun M1 => xput x0 1 (M1 x1 1) M1 (fun M2 => xput x0 2 (M2 x1 2) M2 (fun M3 => (xret 0 M3))))
-- X7_copyFrom
def fX7_copyFrom (x0 : Nat) (x1 : Nat) (M : xM) : xO := xput x0 0 (M x1 0) M (fun M1 => xput x0 1 (M1 x1 1) M1 (fun M2 => xput x0 2 (M2 x1 2) M2 (fun M3 => xput x0 3 (M3 x1 3) M3 (fun M4 => xput x0 4 (M4 x1 4) M4 (fun M5 => xput x0 5 (M5 x1 5) M5 (fun M6 => xput x0 6 (M6 x1 6) M6 (fun M7 => (xret 0 M7))))))))
-- X4_copyFrom
def fX4_copyFrom (x0 : Nat) (x1 : Nat) (M : xM) : xO := xput x0 0 (M x1 0) M (fun M1 => xput x0 1 (M1 x1 1) M1 (fun M2 => xput x0 2 (M2 x1 2) M2 (fun M3 => xput x0 3 (M3 x1 3) M3 (fun M4 => xput x0 4 (M4 x1 4) M4 (fun M5 => xput x0 5 (M5 x1 5) M5 (fun M6 => xput x0 6 (M6 x1 6) M6 (fun M7 => xput x0 7 (M7 x1 7) M7 (fun M8 => xput x0 8 (M8 x1 8) M8 (fun M9 => xput x0 9 (M9 x1 9) M9 (fun M10 => xb (fX11_copyAll (xr x1 10) (xr x0 10) M10) (fun z11 M12 => xb (fX11_copyAll (xr x1 11) (xr x0 11) M12) (fun z13 M14 => xb (fX11_copyAll (xr x1 12) (xr x0 12) M14) (fun z15 M16 => (xret 0 M16))))))))))))))
-- X1_copyCounts
def fX1_copyCounts (x0 : Nat) (x1 : Nat) (M : xM) : xO := xput x0 9 (M x1 9) M (fun M1 => xput x0 10 (M1 x1 10) M1 (fun M2 => xput x0 11 (M2 x1 11) M2 (fun M3 => xput x0 12 (M3 x1 12) M3 (fun M4 => xput x0 13 (M4 x1 13) M4 (fun M5 => xput x0 14 (M5 x1 14) M5 (fun M6 => xput x0 15 (M6 x1 15) M6 (fun M7 => xput x0 16 (M7 x1 16) M7 (fun M8 => xput x0 17 (M8 x1 17) M8 (fun M9 => (xret 0 M9))))))))))
-- X1_copyFrom
def fX1_copyFrom_163 (x0 : Nat) (x1 : Nat) : Nat → Int → xM → xO
  | 0, _, _ => none
  | n + 1, x2, M => (if 10 < x2 then xb (fX11_copyAll (xr x1 8) (xr x0 8) M) (fun z1 M2 => xb (fX1_copyCounts x0 x1 M2) (fun z3 M4 => (xret 0 M4))) else xb (fX1_event x0 x2 M) (fun z5 M6 => xb (fX1_event x1 x2 M6) (fun z7 M8 => xb (fX4_copyFrom z5.toNat z7.toNat M8) (fun z9 M10 => ((fX1_copyFrom_163 x0 x1 n) (w32 (x2 + 1)) M10)))))
def fX1_copyFrom_136 (x0 : Nat) (x1 : Nat) : Nat → Int → xM → xO
  | 0, _, _ => none
  | n + 1, x2, M => (if 20 < x2 then (fX1_copyFrom_163 x0 x1 xN 0 M) else xb (fX1_loanAt x0 x2 M) (fun z1 M2 => xb (fX1_loanAt x1 x2 M2) (fun z3 M4 => xb (fX7_copyFrom z1.toNat z3.toNat M4) (fun z5 M6 => ((fX1_copyFrom_136 x0 x1 n) (w32 (x2 + 1)) M6)))))
def fX1_copyFrom_109 (x0 : Nat) (x1 : Nat) : Nat → Int → xM → xO
  | 0, _, _ => none
  | n + 1, x2, M => (if 10 < x2 then (fX1_copyFrom_136 x0 x1 xN 0 M) else xb (fX1_linkAt x0 x2 M) (fun z1 M2 => xb (fX1_linkAt x1 x2 M2) (fun z3 M4 => xb (fX6_copyFrom z1.toNat z3.toNat M4) (fun z5 M6 => ((fX1_copyFrom_109 x0 x1 n) (w32 (x2 + 1)) M6)))))
def fX1_copyFrom_82 (x0 : Nat) (x1 : Nat) : Nat → Int → xM → xO
  | 0, _, _ => none
  | n + 1, x2, M => (if 20 < x2 then (fX1_copyFrom_109 x0 x1 xN 0 M) else xb (fX1_trade x0 x2 M) (fun z1 M2 => xb (fX1_trade x1 x2 M2) (fun z3 M4 => xb (fX10_copyFrom z1.toNat z3.toNat M4) (fun z5 M6 => ((fX1_copyFrom_82 x0 x1 n) (w32 (x2 + 1)) M6)))))
def fX1_copyFrom_55 (x0 : Nat) (x1 : Nat) : Nat → Int → xM → xO
  | 0, _, _ => none
  | n + 1, x2, M => (if 40 < x2 then (fX1_copyFrom_82 x0 x1 xN 0 M) else xb (fX1_instruction x0 x2 M) (fun z1 M2 => xb (fX1_instruction x1 x2 M2) (fun z3 M4 => xb (fX5_copyFrom z1.toNat z3.toNat M4) (fun z5 M6 => ((fX1_copyFrom_55 x0 x1 n) (w32 (x2 + 1)) M6)))))
def fX1_copyFrom_29 (x0 : Nat) (x1 : Nat) : Nat → Int → xM → xO
  | 0, _, _ => none
  | n + 1, x2, M => (if 4 < x2 then (fX1_copyFrom_55 x0 x1 xN 0 M) else xb (fX1_security x0 x2 M) (fun z1 M2 => xb (fX1_security x1 x2 M2) (fun z3 M4 => xb (fX9_copyFrom z1.toNat z3.toNat M4) (fun z5 M6 => ((fX1_copyFrom_29 x0 x1 n) (w32 (x2 + 1)) M6)))))
def fX1_copyFrom_2 (x0 : Nat) (x1 : Nat) : Nat → Int → xM → xO
  | 0, _, _ => none
  | n + 1, x2, M => (if 10 < x2 then (fX1_copyFrom_29 x0 x1 xN 0 M) else xb (fX1_account x0 x2 M) (fun z1 M2 => xb (fX1_account x1 x2 M2) (fun z3 M4 => xb (fX0_copyFrom z1.toNat z3.toNat M4) (fun z5 M6 => ((fX1_copyFrom_2 x0 x1 n) (w32 (x2 + 1)) M6)))))
def fX1_copyFrom (x0 : Nat) (x1 : Nat) (M : xM) : xO := (fX1_copyFrom_2 x0 x1 xN 0 M)
-- X1_treatyTax
def fX1_treatyTax (x0 : Nat) (x1 : Int) (x2 : Int) (M : xM) : xO := xlet (w32 ((w32 (x1 * 3)) + x2)) (fun y1 => (if y1 < 0 then (xret 30 M) else (if 9 ≤ y1 then (xret 30 M) else xix y1 9 ((xret (w32 (M (xr x0 8) y1.toNat)) M)))))
-- X1_worthOf
def fX1_worthOf (x0 : Nat) (x1 : Int) (x2 : Int) (M : xM) : xO := xb (fX1_security x0 x1 M) (fun z1 M2 => (xret (w64 (x2 * (M2 z1.toNat 1))) M2))
-- X1_limitOf
def fX1_limitOf_5 (x0 : Nat) (x1 : Nat) : Nat → Int → Int → xM → xO
  | 0, _, _, _ => none
  | n + 1, x2, x4, M => (if (M x0 10) ≤ x4 then (xret (w64 ((M x1 7) + (Int.tdiv x2 2))) M) else xb (fX0_freeOf x1 x4 M) (fun z1 M2 => xb (fX1_security x0 x4 M2) (fun z3 M4 => xlet (w64 (x2 + (w64 (z1 * (M4 z3.toNat 1))))) (fun y5 => ((fX1_limitOf_5 x0 x1 n) y5 (w32 (x4 + 1)) M4)))))
def fX1_limitOf (x0 : Nat) (x1 : Nat) (M : xM) : xO := (fX1_limitOf_5 x0 x1 xN 0 0 M)
-- X1_isFirm
def fX1_isFirm_8 (x0 : Nat) (x2 : Nat) : Nat → Int → xM → xO
  | 0, _, _ => none
  | n + 1, x3, M => (if (M x0 10) ≤ x3 then xb (fX0_freeCash x2 M) (fun z1 M2 => xb (fX1_limitOf x0 x2 M2) (fun z3 M4 => (if (w64 (z1 + z3)) < 0 then (xret 0 M4) else (xret 1 M4)))) else xb (fX0_freeOf x2 x3 M) (fun z5 M6 => (if 0 ≤ z5 then ((fX1_isFirm_8 x0 x2 n) (w32 (x3 + 1)) M6) else (xret 0 M6))))
def fX1_isFirm (x0 : Nat) (x1 : Int) (M : xM) : xO := xb (fX1_account x0 x1 M) (fun z1 M2 => (fX1_isFirm_8 x0 z1.toNat xN 0 M2))
-- X1_owe
def fX1_owe (x0 : Nat) (x1 : Int) (x2 : Int) (x3 : Int) (M : xM) : xO := xb (fX1_account x0 x1 M) (fun z1 M2 => xput z1.toNat 8 (w64 ((M2 z1.toNat 8) - x3)) M2 (fun M3 => xb (fX1_account x0 x2 M3) (fun z4 M5 => xput z4.toNat 8 (w64 ((M5 z4.toNat 8) + x3)) M5 (fun M6 => (xret 0 M6)))))
-- X5_fits
def fX5_fits (x0 : Nat) (x1 : Nat) (x2 : Int) (M : xM) : xO := (if (M x0 9) = 0 then (if (M x0 0) = (M x1 1) then (if (M x0 1) = (M x1 0) then (if (M x0 2) = (M x1 2) then (xret 0 M) else (if (M x0 3) = (M x1 3) then (if (M x0 4) = (M x1 4) then (if (M x0 6) = (M x1 6) then (if 2 < (w32 (if 0 ≤ (w32 ((M x0 5) - x2)) then (w32 ((M x0 5) - x2)) else -(w32 ((M x0 5) - x2)))) then (xret 0 M) else (xret 1 M)) else (xret 0 M)) else (xret 0 M)) else (xret 0 M))) else (xret 0 M)) else (xret 0 M)) else (xret 0 M))
-- X1_partnerFor
def fX1_partnerFor_61 (rc8 : Int → Int → Int → xM → xO) (x0 : Nat) (x1 : Nat) (x2 : Int) (x3 : Int) (x4 : Int) (x5 : Int) (M : xM) : xO := (rc8 x3 x4 (w32 (x5 + 1)) M)
def fX1_partnerFor_8 (x0 : Nat) (x1 : Nat) (x2 : Int) : Nat → Int → Int → Int → xM → xO
  | 0, _, _, _, _ => none
  | n + 1, x3, x4, x5, M => (if (M x0 11) ≤ x5 then (xret x3 M) else xb (fX1_instruction x0 x5 M) (fun z1 M2 => xlet (w32 (if 0 ≤ (w32 ((M2 z1.toNat 5) - x2)) then (w32 ((M2 z1.toNat 5) - x2)) else -(w32 ((M2 z1.toNat 5) - x2)))) (fun y3 => xb (fX5_fits z1.toNat x1 x2 M2) (fun z4 M5 => (if z4 = 0 then (fX1_partnerFor_61 (fX1_partnerFor_8 x0 x1 x2 n) x0 x1 x2 x3 x4 x5 M5) else (if x4 ≤ y3 then (fX1_partnerFor_61 (fX1_partnerFor_8 x0 x1 x2 n) x0 x1 x2 x3 x4 x5 M5) else (fX1_partnerFor_61 (fX1_partnerFor_8 x0 x1 x2 n) x0 x1 x2 x5 y3 x5 M5)))))))
def fX1_partnerFor (x0 : Nat) (x1 : Nat) (x2 : Int) (M : xM) : xO := (fX1_partnerFor_8 x0 x1 x2 xN (-1) 3 0 M)
-- X1_putStatus
def fX1_putStatus (x0 : Nat) (x1 : Nat) (x2 : Int) (M : xM) : xO := xput x1 12 x2 M (fun M1 => xb (fX1_instruction x0 (M1 x1 1) M1) (fun z2 M3 => xput z2.toNat 9 x2 M3 (fun M4 => xb (fX1_instruction x0 (M4 x1 2) M4) (fun z5 M6 => xput z5.toNat 9 x2 M6 (fun M7 => (xret 0 M7))))))
-- X8_tell
def fX8_tell (x0 : Nat) (x1 : Int) (M : xM) : xO := (if x1 < 0 then (xret 0 M) else (if 10 ≤ x1 then (xret 0 M) else xix x1 10 (xix x1 10 (xput (xr x0 0) x1.toNat (w32 ((M (xr x0 0) x1.toNat) + 1)) M (fun M1 => (xret 0 M1))))))
-- X1_tellBoth
def fX1_tellBoth (x0 : Nat) (x1 : Nat) (M : xM) : xO := xb (fX8_tell (xr x0 0) (M x1 3) M) (fun z1 M2 => xb (fX8_tell (xr x0 0) (M2 x1 4) M2) (fun z3 M4 => (xret 0 M4)))
-- X1_match
def fX1_match_218 (x0 : Nat) (x3 : Nat) (x4 : Nat) (x5 : Int) (x6 : Nat) (s0 : Int) (s1 : Nat) (M : xM) : xO := xput s1 8 s0 M (fun M1 => xput x0 12 (w32 (x5 + 1)) M1 (fun M2 => xput x3 10 x5 M2 (fun M3 => xput x4 10 x5 M3 (fun M4 => xb (fX1_putStatus x0 x6 1 M4) (fun z5 M6 => xb (fX1_tellBoth x0 x6 M6) (fun z7 M8 => (xret x5 M8)))))))
def fX1_match_192 (x0 : Nat) (x3 : Nat) (x4 : Nat) (x5 : Int) (x6 : Nat) (s0 : Int) (M : xM) : xO := (if s0 = 0 then (fX1_match_218 x0 x3 x4 x5 x6 (max (M x3 8) (M x4 8)) x6 M) else (fX1_match_218 x0 x3 x4 x5 x6 0 x6 M))
def fX1_match_187 (x0 : Nat) (x3 : Nat) (x4 : Nat) (x5 : Int) (x6 : Nat) (M : xM) : xO := (fX1_match_192 x0 x3 x4 x5 x6 1 M)
def fX1_match_106 (x0 : Nat) (x3 : Nat) (x4 : Nat) (x5 : Int) (x6 : Nat) (s0 : Int) (s1 : Nat) (M : xM) : xO := xput s1 4 s0 M (fun M1 => xput x6 5 (M1 x3 3) M1 (fun M2 => xput x6 6 (M2 x3 4) M2 (fun M3 => xput x6 7 (min (M3 x3 5) (M3 x4 5)) M3 (fun M4 => xput x6 9 (M4 x3 6) M4 (fun M5 => xput x6 10 (max (M5 x3 7) (M5 x4 7)) M5 (fun M6 => (if (M6 x3 8) = 0 then (fX1_match_187 x0 x3 x4 x5 x6 M6) else (if (M6 x4 8) = 0 then (fX1_match_187 x0 x3 x4 x5 x6 M6) else (fX1_match_192 x0 x3 x4 x5 x6 0 M6)))))))))
def fX1_match_82 (x0 : Nat) (x3 : Nat) (x4 : Nat) (x5 : Int) (x6 : Nat) (s0 : Int) (s1 : Nat) (M : xM) : xO := xput s1 3 s0 M (fun M1 => (if (M1 x3 2) = 0 then (fX1_match_106 x0 x3 x4 x5 x6 (M1 x3 0) x6 M1) else (fX1_match_106 x0 x3 x4 x5 x6 (M1 x4 0) x6 M1)))
def fX1_match_58 (x0 : Nat) (x3 : Nat) (x4 : Nat) (x5 : Int) (x6 : Nat) (s0 : Int) (s1 : Nat) (M : xM) : xO := xput s1 2 s0 M (fun M1 => (if (M1 x3 2) = 0 then (fX1_match_82 x0 x3 x4 x5 x6 (M1 x4 0) x6 M1) else (fX1_match_82 x0 x3 x4 x5 x6 (M1 x3 0) x6 M1)))
def fX1_match_41 (x0 : Nat) (x1 : Int) (x2 : Int) (x3 : Nat) (x4 : Nat) (x5 : Int) (x6 : Nat) (s0 : Int) (s1 : Nat) (M : xM) : xO := xput s1 1 s0 M (fun M1 => (if (M1 x3 2) = 0 then (fX1_match_58 x0 x3 x4 x5 x6 x1 x6 M1) else (fX1_match_58 x0 x3 x4 x5 x6 x2 x6 M1)))
def fX1_match (x0 : Nat) (x1 : Int) (x2 : Int) (M : xM) : xO := xb (fX1_instruction x0 x1 M) (fun z1 M2 => xb (fX1_instruction x0 x2 M2) (fun z3 M4 => xb (fX1_trade x0 (M4 x0 12) M4) (fun z5 M6 => (if (M6 z1.toNat 2) = 0 then (fX1_match_41 x0 x1 x2 z1.toNat z3.toNat (M4 x0 12) z5.toNat x2 z5.toNat M6) else (fX1_match_41 x0 x1 x2 z1.toNat z3.toNat (M4 x0 12) z5.toNat x1 z5.toNat M6)))))
-- X1_cancelInstruction
def fX1_cancelInstruction (x0 : Nat) (x1 : Nat) (M : xM) : xO := xput x1 9 3 M (fun M1 => xb (fX8_tell (xr x0 0) (M1 x1 0) M1) (fun z2 M3 => (xret 0 M3)))
-- X6_names
def fX6_names_16 (M : xM) : xO := (xret 1 M)
def fX6_names (x0 : Nat) (x1 : Int) (M : xM) : xO := (if (M x0 0) = x1 then (fX6_names_16 M) else (if (M x0 1) = x1 then (fX6_names_16 M) else (xret 0 M)))
-- X1_cancelTrade
def fX1_cancelTrade_54 (rc15 : Int → Int → xM → xO) (x0 : Nat) (x1 : Nat) (x2 : Int) (x3 : Int) (M : xM) : xO := (rc15 x2 (w32 (x3 + 1)) M)
def fX1_cancelTrade_15 (x0 : Nat) (x1 : Nat) : Nat → Int → Int → xM → xO
  | 0, _, _, _ => none
  | n + 1, x2, x3, M => (if (M x0 13) ≤ x3 then xput x0 13 x2 M (fun M1 => (xret 0 M1)) else xb (fX1_linkAt x0 x3 M) (fun z2 M3 => xb (fX6_names z2.toNat (M3 x1 0) M3) (fun z4 M5 => (if z4 = 0 then xb (fX1_linkAt x0 x2 M5) (fun z6 M7 => xb (fX1_linkAt x0 x3 M7) (fun z8 M9 => xb (fX6_copyFrom z6.toNat z8.toNat M9) (fun z10 M11 => (fX1_cancelTrade_54 (fX1_cancelTrade_15 x0 x1 n) x0 x1 (w32 (x2 + 1)) x3 M11)))) else (fX1_cancelTrade_54 (fX1_cancelTrade_15 x0 x1 n) x0 x1 x2 x3 M5)))))
def fX1_cancelTrade (x0 : Nat) (x1 : Nat) (M : xM) : xO := xb (fX1_putStatus x0 x1 3 M) (fun z1 M2 => xb (fX1_tellBoth x0 x1 M2) (fun z3 M4 => (fX1_cancelTrade_15 x0 x1 xN 0 0 M4)))
-- X1_isDue
def fX1_isDue (x0 : Nat) (x1 : Nat) (M : xM) : xO := (if (M x1 12) = 1 then (if (M x0 16) < (M x1 9) then (xret 0 M) else (xret 1 M)) else (xret 0 M))
-- X1_isHeldUp
def fX1_isHeldUp_28 (M : xM) : xO := (xret 1 M)
def fX1_isHeldUp (x0 : Nat) (x1 : Nat) (M : xM) : xO := xb (fX1_instruction x0 (M x1 1) M) (fun z1 M2 => (if (M2 z1.toNat 11) = 0 then xb (fX1_instruction x0 (M2 x1 2) M2) (fun z3 M4 => (if (M4 z3.toNat 11) = 0 then (xret 0 M4) else (fX1_isHeldUp_28 M4))) else (fX1_isHeldUp_28 M2)))
-- X1_isLacking
def fX1_isLacking (x0 : Nat) (x1 : Nat) (M : xM) : xO := xb (fX1_account x0 (M x1 3) M) (fun z1 M2 => xb (fX0_freeOf z1.toNat (M2 x1 5) M2) (fun z3 M4 => (if (M4 x1 6) ≤ z3 then (xret 0 M4) else (xret 1 M4))))
-- X1_isLinked
def fX1_isLinked_2 (x0 : Nat) (x1 : Nat) : Nat → Int → xM → xO
  | 0, _, _ => none
  | n + 1, x2, M => (if (M x0 13) ≤ x2 then (xret 0 M) else xb (fX1_linkAt x0 x2 M) (fun z1 M2 => xb (fX6_names z1.toNat (M2 x1 0) M2) (fun z3 M4 => (if z3 = 0 then ((fX1_isLinked_2 x0 x1 n) (w32 (x2 + 1)) M4) else (xret 1 M4)))))
def fX1_isLinked (x0 : Nat) (x1 : Nat) (M : xM) : xO := (fX1_isLinked_2 x0 x1 xN 0 M)
-- X1_isLinkOf
def fX1_isLinkOf_36 (rc2 : Int → xM → xO) (x0 : Nat) (x1 : Int) (x2 : Int) (x3 : Int) (M : xM) : xO := (rc2 (w32 (x3 + 1)) M)
def fX1_isLinkOf_2 (x0 : Nat) (x1 : Int) (x2 : Int) : Nat → Int → xM → xO
  | 0, _, _ => none
  | n + 1, x3, M => (if (M x0 13) ≤ x3 then (xret 0 M) else xb (fX1_linkAt x0 x3 M) (fun z1 M2 => xb (fX6_names z1.toNat x1 M2) (fun z3 M4 => (if z3 = 0 then (fX1_isLinkOf_36 (fX1_isLinkOf_2 x0 x1 x2 n) x0 x1 x2 x3 M4) else xb (fX1_linkAt x0 x3 M4) (fun z5 M6 => xb (fX6_names z5.toNat x2 M6) (fun z7 M8 => (if z7 = 0 then (fX1_isLinkOf_36 (fX1_isLinkOf_2 x0 x1 x2 n) x0 x1 x2 x3 M8) else (xret 1 M8))))))))
def fX1_isLinkOf (x0 : Nat) (x1 : Int) (x2 : Int) (M : xM) : xO := (fX1_isLinkOf_2 x0 x1 x2 xN 0 M)
-- X1_payFor
def fX1_payFor (x0 : Nat) (x1 : Nat) (x2 : Int) (M : xM) : xO := xb (fX1_account x0 (M x1 4) M) (fun z1 M2 => xput z1.toNat 5 (w64 ((M2 z1.toNat 5) - x2)) M2 (fun M3 => xb (fX1_account x0 (M3 x1 3) M3) (fun z4 M5 => xput z4.toNat 5 (w64 ((M5 z4.toNat 5) + x2)) M5 (fun M6 => (xret 0 M6)))))
-- X1_shift
def fX1_shift (x0 : Nat) (x1 : Nat) (x2 : Int) (x4 : Int) (M : xM) : xO := xb (fX1_account x0 (M x1 3) M) (fun z1 M2 => xb (fX0_shift z1.toNat (M2 x1 5) (w64 (-x2)) M2) (fun z3 M4 => xb (fX1_account x0 (M4 x1 4) M4) (fun z5 M6 => xb (fX0_shift z5.toNat (M6 x1 5) x2 M6) (fun z7 M8 => xb (fX1_payFor x0 x1 x4 M8) (fun z9 M10 => (xret 0 M10))))))
-- X1_moveUnits
def fX1_moveUnits (x0 : Nat) (x1 : Int) (x2 : Int) (x3 : Int) (x4 : Int) (M : xM) : xO := xb (fX1_account x0 x1 M) (fun z1 M2 => xb (fX0_move z1.toNat x3 (w64 (-x4)) (M2 x0 17) M2) (fun z3 M4 => xb (fX1_account x0 x2 M4) (fun z5 M6 => xb (fX0_move z5.toNat x3 x4 (M6 x0 17) M6) (fun z7 M8 => (xret 0 M8)))))
-- X1_settleWhole
def fX1_settleWhole (x0 : Nat) (x1 : Nat) (M : xM) : xO := xb (fX1_moveUnits x0 (M x1 3) (M x1 4) (M x1 5) (M x1 6) M) (fun z1 M2 => xb (fX1_payFor x0 x1 (M2 x1 7) M2) (fun z3 M4 => xb (fX1_putStatus x0 x1 2 M4) (fun z5 M6 => xb (fX1_tellBoth x0 x1 M6) (fun z7 M8 => (xret 0 M8)))))
-- X1_settlePart
def fX1_settlePart (x0 : Nat) (x1 : Nat) (x2 : Int) (x4 : Int) (M : xM) : xO := xb (fX1_moveUnits x0 (M x1 3) (M x1 4) (M x1 5) x2 M) (fun z1 M2 => xb (fX1_payFor x0 x1 x4 M2) (fun z3 M4 => xput x1 6 (w64 ((M4 x1 6) - x2)) M4 (fun M5 => xput x1 7 (w64 ((M5 x1 7) - x4)) M5 (fun M6 => xb (fX1_tellBoth x0 x1 M6) (fun z7 M8 => (xret 0 M8))))))
-- X1_sourceOf
def fX1_sourceOf_72 (rc2 : Int → xM → xO) (x0 : Nat) (x1 : Nat) (x2 : Int) (x3 : Int) (M : xM) : xO := (rc2 (w32 (x3 + 1)) M)
def fX1_sourceOf_30 (rc2 : Int → xM → xO) (x0 : Nat) (x1 : Nat) (x2 : Int) (x3 : Int) (x4 : Nat) (s0 : Int) (M : xM) : xO := (if s0 = 0 then (fX1_sourceOf_72 rc2 x0 x1 x2 x3 M) else xb (fX1_isDue x0 x4 M) (fun z1 M2 => (if z1 = 0 then (fX1_sourceOf_72 rc2 x0 x1 x2 x3 M2) else (if (M2 x4 4) = (M2 x1 3) then (if (M2 x4 5) = (M2 x1 5) then (xret x3 M2) else (fX1_sourceOf_72 rc2 x0 x1 x2 x3 M2)) else (fX1_sourceOf_72 rc2 x0 x1 x2 x3 M2)))))
def fX1_sourceOf_2 (x0 : Nat) (x1 : Nat) (x2 : Int) : Nat → Int → xM → xO
  | 0, _, _ => none
  | n + 1, x3, M => (if (M x0 12) ≤ x3 then (xret (-1) M) else xb (fX1_trade x0 x3 M) (fun z1 M2 => (if (xand (xshr x2 x3) 1) = 0 then (fX1_sourceOf_30 (fX1_sourceOf_2 x0 x1 x2 n) x0 x1 x2 x3 z1.toNat 1 M2) else (fX1_sourceOf_30 (fX1_sourceOf_2 x0 x1 x2 n) x0 x1 x2 x3 z1.toNat 0 M2))))
def fX1_sourceOf (x0 : Nat) (x1 : Nat) (x2 : Int) (M : xM) : xO := (fX1_sourceOf_2 x0 x1 x2 xN 0 M)
-- X1_causerOf
def fX1_causerOf_7 (x0 : Nat) : Nat → Nat → Int → Int → xM → xO
  | 0, _, _, _, _ => none
  | n + 1, x2, x3, x4, M => (if 20 ≤ x4 then (xret (M x2 3) M) else xb (fX1_instruction x0 (M x2 1) M) (fun z1 M2 => (if (M2 z1.toNat 11) = 0 then xb (fX1_instruction x0 (M2 x2 2) M2) (fun z3 M4 => (if (M4 z3.toNat 11) = 0 then xb (fX1_isLacking x0 x2 M4) (fun z5 M6 => (if z5 = 0 then (xret (M6 x2 4) M6) else xb (fX1_sourceOf x0 x2 (xor32 x3 (xshl 1 (M6 x2 0))) M6) (fun z7 M8 => (if z7 = (-1) then (xret (M8 x2 3) M8) else xb (fX1_trade x0 z7 M8) (fun z9 M10 => ((fX1_causerOf_7 x0 n) z9.toNat (xor32 x3 (xshl 1 (M6 x2 0))) (w32 (x4 + 1)) M10)))))) else (xret (M4 x2 4) M4))) else (xret (M2 x2 3) M2))))
def fX1_causerOf (x0 : Nat) (x1 : Nat) (M : xM) : xO := (fX1_causerOf_7 x0 xN x1 0 0 M)
-- X2_candidate
def fX2_candidate_27 (s0 : Int) (s1 : Nat) (M : xM) : xO := xb (fX1_trade s1 s0 M) (fun z1 M2 => (xret ((z1.toNat : Nat) : Int) M2))
def fX2_candidate_26 (s0 : Nat) (M : xM) : xO := (fX2_candidate_27 (-1) s0 M)
def fX2_candidate (x0 : Nat) (x1 : Int) (M : xM) : xO := (if x1 < 0 then (fX2_candidate_26 (xr x0 0) M) else (if 20 ≤ x1 then (fX2_candidate_26 (xr x0 0) M) else xix x1 20 ((fX2_candidate_27 (M (xr x0 1) x1.toNat) (xr x0 0) M))))
-- X2_rankOf
def fX2_rankOf (x0 : Nat) (M : xM) : xO := (xret (w32 ((M x0 10) + (M x0 11))) M)
-- X2_insertCandidate
def fX2_insertCandidate_46 (x0 : Nat) (x1 : Nat) (x2 : Int) : Nat → Int → xM → xO
  | 0, _, _ => none
  | n + 1, x3, M => (if x3 ≤ x2 then (if 20 ≤ x2 then (xret 0 M) else xix x2 20 (xput (xr x0 1) x2.toNat (M x1 0) M (fun M1 => xput x0 4 (w32 ((M1 x0 4) + 1)) M1 (fun M2 => (xret 0 M2))))) else xix (w32 (x3 - 1)) 20 (xix x3 20 (xput (xr x0 1) x3.toNat (M (xr x0 1) (w32 (x3 - 1)).toNat) M (fun M3 => ((fX2_insertCandidate_46 x0 x1 x2 n) (w32 (x3 + (-1))) M3)))))
def fX2_insertCandidate_31 (x0 : Nat) (x1 : Nat) (x2 : Int) (M : xM) : xO := xlet (min (M x0 4) (w32 (20 - 1))) (fun y1 => (fX2_insertCandidate_46 x0 x1 x2 xN y1 M))
def fX2_insertCandidate_2 (x0 : Nat) (x1 : Nat) : Nat → Int → xM → xO
  | 0, _, _ => none
  | n + 1, x2, M => (if (M x0 4) ≤ x2 then (fX2_insertCandidate_31 x0 x1 x2 M) else xb (fX2_candidate x0 x2 M) (fun z1 M2 => xb (fX2_rankOf z1.toNat M2) (fun z3 M4 => xb (fX2_rankOf x1 M4) (fun z5 M6 => (if z3 < z5 then (fX2_insertCandidate_31 x0 x1 x2 M6) else ((fX2_insertCandidate_2 x0 x1 n) (w32 (x2 + 1)) M6))))))
def fX2_insertCandidate (x0 : Nat) (x1 : Nat) (M : xM) : xO := (fX2_insertCandidate_2 x0 x1 xN 0 M)
-- X2_findCandidates
def fX2_findCandidates_54 (rc7 : Int → xM → xO) (x0 : Nat) (x1 : Int) (M : xM) : xO := (rc7 (w32 (x1 + 1)) M)
def fX2_findCandidates_7 (x0 : Nat) : Nat → Int → xM → xO
  | 0, _, _ => none
  | n + 1, x1, M => (if (M (xr x0 0) 12) ≤ x1 then xput x0 4 (min (M x0 4) 10) M (fun M1 => (xret 0 M1)) else xb (fX1_trade (xr x0 0) x1 M) (fun z2 M3 => xb (fX1_isDue (xr x0 0) z2.toNat M3) (fun z4 M5 => (if z4 = 0 then (fX2_findCandidates_54 (fX2_findCandidates_7 x0 n) x0 x1 M5) else xb (fX1_isHeldUp (xr x0 0) z2.toNat M5) (fun z6 M7 => (if z6 = 0 then xb (fX2_insertCandidate x0 z2.toNat M7) (fun z8 M9 => (fX2_findCandidates_54 (fX2_findCandidates_7 x0 n) x0 x1 M9)) else (fX2_findCandidates_54 (fX2_findCandidates_7 x0 n) x0 x1 M7)))))))
def fX2_findCandidates (x0 : Nat) (M : xM) : xO := xput x0 4 0 M (fun M1 => (fX2_findCandidates_7 x0 xN 0 M1))
-- X2_worthOf
def fX2_worthOf (x0 : Nat) (x1 : Nat) (M : xM) : xO := xb (fX1_worthOf (xr x0 0) (M x1 5) (M x1 6) M) (fun z1 M2 => (xret (w64 ((M x1 7) + z1)) M2))
-- X2_beginSearch
def fX2_beginSearch_70 (rc44 : Int → Int → xM → xO) (x0 : Nat) (x3 : Int) (s0 : Int) (s1 : Int) (M : xM) : xO := xlet (w64 (s1 + s0)) (fun y1 => xix x3 11 (xput (xr x0 2) x3.toNat y1 M (fun M2 => (rc44 y1 (w32 (x3 + (-1))) M2))))
def fX2_beginSearch_44 (x0 : Nat) : Nat → Int → Int → xM → xO
  | 0, _, _, _ => none
  | n + 1, x1, x3, M => (if x3 < 0 then (xret 0 M) else (if (M x0 4) ≤ x3 then (fX2_beginSearch_70 (fX2_beginSearch_44 x0 n) x0 x3 0 x1 M) else xb (fX2_candidate x0 x3 M) (fun z1 M2 => xb (fX2_worthOf x0 z1.toNat M2) (fun z3 M4 => (fX2_beginSearch_70 (fX2_beginSearch_44 x0 n) x0 x3 z3 x1 M4)))))
def fX2_beginSearch (x0 : Nat) (M : xM) : xO := xb (fX2_findCandidates x0 M) (fun z1 M2 => xput x0 5 0 M2 (fun M3 => xput x0 6 0 M3 (fun M4 => xput x0 7 0 M4 (fun M5 => xput x0 8 0 M5 (fun M6 => xput x0 9 0 M6 (fun M7 => xput x0 10 0 M7 (fun M8 => xlet (w32 (11 - 1)) (fun y9 => (fX2_beginSearch_44 x0 xN 0 y9 M8)))))))))
-- X2_isIn
def fX2_isIn (x0 : Int) (x1 : Int) (M : xM) : xO := (if (xand (xshr x1 x0) 1) = 0 then (xret 0 M) else (xret 1 M))
-- X2_isInOrSettled
def fX2_isInOrSettled_26 (M : xM) : xO := (xret 1 M)
def fX2_isInOrSettled (x0 : Nat) (x1 : Int) (M : xM) : xO := xb (fX2_isIn x1 (M x0 5) M) (fun z1 M2 => (if z1 = 0 then xb (fX1_trade (xr x0 0) x1 M2) (fun z3 M4 => (if (M4 z3.toNat 12) = 2 then (fX2_isInOrSettled_26 M4) else (xret 0 M4))) else (fX2_isInOrSettled_26 M2)))
-- X2_areLinksKept
def fX2_areLinksKept_103 (rc2 : Int → xM → xO) (x0 : Nat) (x1 : Int) (M : xM) : xO := (rc2 (w32 (x1 + 1)) M)
def fX2_areLinksKept_83 (rc2 : Int → xM → xO) (x0 : Nat) (x1 : Int) (x2 : Nat) (x3 : Int) (s0 : Int) (M : xM) : xO := (if x3 = 0 then (if (M x2 2) = 0 then (fX2_areLinksKept_103 rc2 x0 x1 M) else (if s0 = 0 then (fX2_areLinksKept_103 rc2 x0 x1 M) else (xret 0 M))) else (xret 0 M))
def fX2_areLinksKept_82 (rc2 : Int → xM → xO) (x0 : Nat) (x1 : Int) (x2 : Nat) (x3 : Int) (M : xM) : xO := (fX2_areLinksKept_83 rc2 x0 x1 x2 x3 0 M)
def fX2_areLinksKept_52 (rc2 : Int → xM → xO) (x0 : Nat) (x1 : Int) (x2 : Nat) (s0 : Int) (M : xM) : xO := xb (fX2_isIn (M x2 1) (M x0 5) M) (fun z1 M2 => (if z1 = 0 then (fX2_areLinksKept_82 rc2 x0 x1 x2 s0 M2) else xb (fX2_isInOrSettled x0 (M2 x2 0) M2) (fun z3 M4 => (if z3 = 0 then (fX2_areLinksKept_83 rc2 x0 x1 x2 s0 1 M4) else (fX2_areLinksKept_82 rc2 x0 x1 x2 s0 M4)))))
def fX2_areLinksKept_51 (rc2 : Int → xM → xO) (x0 : Nat) (x1 : Int) (x2 : Nat) (M : xM) : xO := (fX2_areLinksKept_52 rc2 x0 x1 x2 0 M)
def fX2_areLinksKept_2 (x0 : Nat) : Nat → Int → xM → xO
  | 0, _, _ => none
  | n + 1, x1, M => (if (M (xr x0 0) 13) ≤ x1 then (xret 1 M) else xb (fX1_linkAt (xr x0 0) x1 M) (fun z1 M2 => xb (fX2_isIn (M2 z1.toNat 0) (M2 x0 5) M2) (fun z3 M4 => (if z3 = 0 then (fX2_areLinksKept_51 (fX2_areLinksKept_2 x0 n) x0 x1 z1.toNat M4) else xb (fX2_isInOrSettled x0 (M4 z1.toNat 1) M4) (fun z5 M6 => (if z5 = 0 then (fX2_areLinksKept_52 (fX2_areLinksKept_2 x0 n) x0 x1 z1.toNat 1 M6) else (fX2_areLinksKept_51 (fX2_areLinksKept_2 x0 n) x0 x1 z1.toNat M6)))))))
def fX2_areLinksKept (x0 : Nat) (M : xM) : xO := (fX2_areLinksKept_2 x0 xN 0 M)
-- X2_areAllFirm
def fX2_areAllFirm_60 (rc2 : Int → xM → xO) (x0 : Nat) (x1 : Int) (M : xM) : xO := (rc2 (w32 (x1 + 1)) M)
def fX2_areAllFirm_2 (x0 : Nat) : Nat → Int → xM → xO
  | 0, _, _ => none
  | n + 1, x1, M => (if (M x0 4) ≤ x1 then (xret 1 M) else xb (fX2_candidate x0 x1 M) (fun z1 M2 => xb (fX2_isIn (M2 z1.toNat 0) (M2 x0 5) M2) (fun z3 M4 => (if z3 = 0 then (fX2_areAllFirm_60 (fX2_areAllFirm_2 x0 n) x0 x1 M4) else xb (fX1_isFirm (xr x0 0) (M4 z1.toNat 3) M4) (fun z5 M6 => (if z5 = 0 then (xret 0 M6) else xb (fX1_isFirm (xr x0 0) (M6 z1.toNat 4) M6) (fun z7 M8 => (if z7 = 0 then (xret 0 M8) else (fX2_areAllFirm_60 (fX2_areAllFirm_2 x0 n) x0 x1 M8)))))))))
def fX2_areAllFirm (x0 : Nat) (M : xM) : xO := (fX2_areAllFirm_2 x0 xN 0 M)
-- X2_weigh
def fX2_weigh_40 (x0 : Nat) (s0 : Int) (M : xM) : xO := (if s0 = 0 then (xret 0 M) else xb (fX2_areLinksKept x0 M) (fun z1 M2 => (if z1 = 0 then (xret 0 M2) else xb (fX2_areAllFirm x0 M2) (fun z3 M4 => (if z3 = 0 then (xret 0 M4) else xput x0 8 (M4 x0 5) M4 (fun M5 => xput x0 9 (M5 x0 6) M5 (fun M6 => xput x0 10 (M6 x0 7) M6 (fun M7 => (xret 0 M7)))))))))
def fX2_weigh_39 (x0 : Nat) (M : xM) : xO := (fX2_weigh_40 x0 0 M)
def fX2_weigh_35 (x0 : Nat) (M : xM) : xO := (fX2_weigh_40 x0 1 M)
def fX2_weigh (x0 : Nat) (M : xM) : xO := (if (M x0 10) < (M x0 7) then (fX2_weigh_35 x0 M) else (if (M x0 7) = (M x0 10) then (if (M x0 6) ≤ (M x0 9) then (fX2_weigh_39 x0 M) else (fX2_weigh_35 x0 M)) else (fX2_weigh_39 x0 M)))
-- X2_putIn
def fX2_putIn (x0 : Nat) (x1 : Nat) (M : xM) : xO := xb (fX1_shift (xr x0 0) x1 (M x1 6) (M x1 7) M) (fun z1 M2 => xput x0 5 (xor32 (M2 x0 5) (xshl 1 (M2 x1 0))) M2 (fun M3 => xput x0 6 (w32 ((M3 x0 6) + 1)) M3 (fun M4 => xb (fX2_worthOf x0 x1 M4) (fun z5 M6 => xput x0 7 (w64 ((M4 x0 7) + z5)) M6 (fun M7 => (xret 0 M7))))))
-- X2_takeOut
def fX2_takeOut (x0 : Nat) (x1 : Nat) (M : xM) : xO := xb (fX1_shift (xr x0 0) x1 (w64 (-(M x1 6))) (w64 (-(M x1 7))) M) (fun z1 M2 => xput x0 5 (xand (M2 x0 5) (xxor (xshl 1 (M2 x1 0)) (-1))) M2 (fun M3 => xput x0 6 (w32 ((M3 x0 6) - 1)) M3 (fun M4 => xb (fX2_worthOf x0 x1 M4) (fun z5 M6 => xput x0 7 (w64 ((M4 x0 7) - z5)) M6 (fun M7 => (xret 0 M7))))))
-- X2_choose
def fX2_choose : Nat → Nat → Int → xM → xO
  | 0, _, _, _ => none
  | n + 1, x0, x1, M => (if 11 ≤ x1 then (xret 0 M) else (if 0 ≤ x1 then xix x1 11 ((if (M x0 10) ≤ (w64 ((M x0 7) + (M (xr x0 2) x1.toNat))) then (if x1 < (M x0 4) then xb (fX2_candidate x0 x1 M) (fun z1 M2 => xb (fX2_putIn x0 z1.toNat M2) (fun z3 M4 => xb (fX2_choose n x0 (w32 (x1 + 1)) M4) (fun z5 M6 => xb (fX2_takeOut x0 z1.toNat M6) (fun z7 M8 => xb (fX2_choose n x0 (w32 (x1 + 1)) M8) (fun z9 M10 => (xret 0 M10)))))) else xb (fX2_weigh x0 M) (fun z11 M12 => (xret 0 M12))) else (xret 0 M))) else (xret 0 M)))
-- X2_bestByBranches
def fX2_bestByBranches (x0 : Nat) (M : xM) : xO := xb (fX2_beginSearch x0 M) (fun z1 M2 => xb (fX2_choose 12 x0 0 M2) (fun z3 M4 => (xret (M4 x0 10) M4)))
-- X2_bestOfAllSets
def fX2_bestOfAllSets_80 (rc55 : Int → xM → xO) (x0 : Nat) (x1 : Int) (x2 : Int) (M : xM) : xO := (rc55 (w32 (x2 + 1)) M)
def fX2_bestOfAllSets_55 (rc6 : Int → xM → xO) (x0 : Nat) (x1 : Int) : Nat → Int → xM → xO
  | 0, _, _ => none
  | n + 1, x2, M => (if (M x0 4) ≤ x2 then (rc6 (w32 (x1 + 1)) M) else (if (xand (xshr x1 x2) 1) = 0 then (fX2_bestOfAllSets_80 (fX2_bestOfAllSets_55 rc6 x0 x1 n) x0 x1 x2 M) else xb (fX2_candidate x0 x2 M) (fun z2 M3 => xb (fX2_takeOut x0 z2.toNat M3) (fun z4 M5 => (fX2_bestOfAllSets_80 (fX2_bestOfAllSets_55 rc6 x0 x1 n) x0 x1 x2 M5)))))
def fX2_bestOfAllSets_43 (rc18 : Int → xM → xO) (x0 : Nat) (x1 : Int) (x2 : Int) (M : xM) : xO := (rc18 (w32 (x2 + 1)) M)
def fX2_bestOfAllSets_18 (rc6 : Int → xM → xO) (x0 : Nat) (x1 : Int) : Nat → Int → xM → xO
  | 0, _, _ => none
  | n + 1, x2, M => (if (M x0 4) ≤ x2 then xb (fX2_weigh x0 M) (fun z1 M2 => (fX2_bestOfAllSets_55 rc6 x0 x1 xN 0 M2)) else (if (xand (xshr x1 x2) 1) = 0 then (fX2_bestOfAllSets_43 (fX2_bestOfAllSets_18 rc6 x0 x1 n) x0 x1 x2 M) else xb (fX2_candidate x0 x2 M) (fun z3 M4 => xb (fX2_putIn x0 z3.toNat M4) (fun z5 M6 => (fX2_bestOfAllSets_43 (fX2_bestOfAllSets_18 rc6 x0 x1 n) x0 x1 x2 M6)))))
def fX2_bestOfAllSets_6 (x0 : Nat) : Nat → Int → xM → xO
  | 0, _, _ => none
  | n + 1, x1, M => (if (xshl 1 (M x0 4)) ≤ x1 then (xret (M x0 10) M) else (fX2_bestOfAllSets_18 (fX2_bestOfAllSets_6 x0 n) x0 x1 xN 0 M))
def fX2_bestOfAllSets (x0 : Nat) (M : xM) : xO := xb (fX2_beginSearch x0 M) (fun z1 M2 => (fX2_bestOfAllSets_6 x0 xN 0 M2))
-- X2_giveLoansBack
def fX2_giveLoansBack_98 (rc2 : Int → xM → xO) (x0 : Nat) (x1 : Int) (M : xM) : xO := (rc2 (w32 (x1 + 1)) M)
def fX2_giveLoansBack_2 (x0 : Nat) : Nat → Int → xM → xO
  | 0, _, _ => none
  | n + 1, x1, M => (if (M (xr x0 0) 14) ≤ x1 then (xret 0 M) else xb (fX1_loanAt (xr x0 0) x1 M) (fun z1 M2 => xb (fX1_account (xr x0 0) (M2 z1.toNat 1) M2) (fun z3 M4 => (if (M4 z1.toNat 6) = 0 then xb (fX0_freeOf z3.toNat (M4 z1.toNat 2) M4) (fun z5 M6 => (if z5 < (M6 z1.toNat 3) then (fX2_giveLoansBack_98 (fX2_giveLoansBack_2 x0 n) x0 x1 M6) else xb (fX1_moveUnits (xr x0 0) (M6 z1.toNat 1) (M6 z1.toNat 0) (M6 z1.toNat 2) (M6 z1.toNat 3) M6) (fun z7 M8 => xput z3.toNat 6 (w64 ((M8 z3.toNat 6) - (M8 z1.toNat 4))) M8 (fun M9 => xput z1.toNat 6 1 M9 (fun M10 => (fX2_giveLoansBack_98 (fX2_giveLoansBack_2 x0 n) x0 x1 M10)))))) else (fX2_giveLoansBack_98 (fX2_giveLoansBack_2 x0 n) x0 x1 M4)))))
def fX2_giveLoansBack (x0 : Nat) (M : xM) : xO := (fX2_giveLoansBack_2 x0 xN 0 M)
-- X2_settleBestSet
def fX2_settleBestSet_38 (rc2 : Int → xM → xO) (x0 : Nat) (x1 : Int) (M : xM) : xO := (rc2 (w32 (x1 + 1)) M)
def fX2_settleBestSet_2 (x0 : Nat) : Nat → Int → xM → xO
  | 0, _, _ => none
  | n + 1, x1, M => (if (M x0 4) ≤ x1 then (xret (M x0 9) M) else xb (fX2_candidate x0 x1 M) (fun z1 M2 => xb (fX2_isIn (M2 z1.toNat 0) (M2 x0 8) M2) (fun z3 M4 => (if z3 = 0 then (fX2_settleBestSet_38 (fX2_settleBestSet_2 x0 n) x0 x1 M4) else xb (fX1_settleWhole (xr x0 0) z1.toNat M4) (fun z5 M6 => (fX2_settleBestSet_38 (fX2_settleBestSet_2 x0 n) x0 x1 M6))))))
def fX2_settleBestSet (x0 : Nat) (M : xM) : xO := (fX2_settleBestSet_2 x0 xN 0 M)
-- X2_findLenders
def fX2_findLenders_99 (rc27 : Int → Int → xM → xO) (x0 : Nat) (x1 : Nat) (x2 : Int) (x4 : Int) (s0 : Int) (M : xM) : xO := xix x4 10 (xput (xr x0 3) x4.toNat (max 0 (min x2 s0)) M (fun M1 => xix x4 10 (xlet (w64 (x2 - (M1 (xr x0 3) x4.toNat))) (fun y2 => (rc27 y2 (w32 (x4 + 1)) M1)))))
def fX2_findLenders_79 (rc27 : Int → Int → xM → xO) (x0 : Nat) (x1 : Nat) (x2 : Int) (x4 : Int) (x5 : Nat) (s0 : Int) (M : xM) : xO := (if s0 = 0 then (fX2_findLenders_99 rc27 x0 x1 x2 x4 0 M) else xb (fX0_freeOf x5 (M x1 5) M) (fun z1 M2 => (fX2_findLenders_99 rc27 x0 x1 x2 x4 z1 M2)))
def fX2_findLenders_78 (rc27 : Int → Int → xM → xO) (x0 : Nat) (x1 : Nat) (x2 : Int) (x4 : Int) (x5 : Nat) (M : xM) : xO := (fX2_findLenders_79 rc27 x0 x1 x2 x4 x5 0 M)
def fX2_findLenders_27 (x0 : Nat) (x1 : Nat) : Nat → Int → Int → xM → xO
  | 0, _, _, _ => none
  | n + 1, x2, x4, M => (if 10 ≤ x4 then (xret 0 M) else xb (fX1_account (xr x0 0) x4 M) (fun z1 M2 => (if (M2 z1.toNat 3) = 0 then (fX2_findLenders_78 (fX2_findLenders_27 x0 x1 n) x0 x1 x2 x4 z1.toNat M2) else (if x4 = (M2 x1 3) then (fX2_findLenders_78 (fX2_findLenders_27 x0 x1 n) x0 x1 x2 x4 z1.toNat M2) else (if x4 = (M2 x1 4) then (fX2_findLenders_78 (fX2_findLenders_27 x0 x1 n) x0 x1 x2 x4 z1.toNat M2) else (fX2_findLenders_79 (fX2_findLenders_27 x0 x1 n) x0 x1 x2 x4 z1.toNat 1 M2))))))
def fX2_findLenders (x0 : Nat) (x1 : Nat) (M : xM) : xO := xb (fX1_account (xr x0 0) (M x1 3) M) (fun z1 M2 => xb (fX0_freeOf z1.toNat (M2 x1 5) M2) (fun z3 M4 => xlet (w64 ((M x1 6) - z3)) (fun y5 => (fX2_findLenders_27 x0 x1 xN y5 0 M4))))
-- X11_sumOf
def fX11_sumOf_4 (x0 : Nat) : Nat → Int → Int → xM → xO
  | 0, _, _, _ => none
  | n + 1, x1, x3, M => (if ((xln x0 : Nat) : Int) ≤ x3 then (xret x1 M) else xix x3 (xln x0) (xlet (w64 (x1 + (M x0 x3.toNat))) (fun y1 => ((fX11_sumOf_4 x0 n) y1 (w32 (x3 + 1)) M))))
def fX11_sumOf (x0 : Nat) (M : xM) : xO := (fX11_sumOf_4 x0 xN 0 0 M)
-- X2_shiftLoans
def fX2_shiftLoans_15 (x0 : Nat) (x1 : Nat) (x2 : Int) (x3 : Nat) : Nat → Int → xM → xO
  | 0, _, _ => none
  | n + 1, x4, M => (if 10 ≤ x4 then (xret 0 M) else xix x4 10 (xlet (w64 (x2 * (M (xr x0 3) x4.toNat))) (fun y1 => xb (fX1_account (xr x0 0) x4 M) (fun z2 M3 => xb (fX0_shift z2.toNat (M3 x1 5) (w64 (-y1)) M3) (fun z4 M5 => xb (fX0_shift x3 (M5 x1 5) y1 M5) (fun z6 M7 => xb (fX1_worthOf (xr x0 0) (M7 x1 5) y1 M7) (fun z8 M9 => xput x3 6 (w64 ((M7 x3 6) + z8)) M9 (fun M10 => ((fX2_shiftLoans_15 x0 x1 x2 x3 n) (w32 (x4 + 1)) M10)))))))))
def fX2_shiftLoans (x0 : Nat) (x1 : Nat) (x2 : Int) (M : xM) : xO := xb (fX1_account (xr x0 0) (M x1 3) M) (fun z1 M2 => (fX2_shiftLoans_15 x0 x1 x2 z1.toNat xN 0 M2))
-- X2_areLendersFirm
def fX2_areLendersFirm_35 (rc2 : Int → xM → xO) (x0 : Nat) (x1 : Int) (M : xM) : xO := (rc2 (w32 (x1 + 1)) M)
def fX2_areLendersFirm_2 (x0 : Nat) : Nat → Int → xM → xO
  | 0, _, _ => none
  | n + 1, x1, M => (if 10 ≤ x1 then (xret 1 M) else xix x1 10 ((if (M (xr x0 3) x1.toNat) ≤ 0 then (fX2_areLendersFirm_35 (fX2_areLendersFirm_2 x0 n) x0 x1 M) else xb (fX1_isFirm (xr x0 0) x1 M) (fun z1 M2 => (if z1 = 0 then (xret 0 M2) else (fX2_areLendersFirm_35 (fX2_areLendersFirm_2 x0 n) x0 x1 M2))))))
def fX2_areLendersFirm (x0 : Nat) (M : xM) : xO := (fX2_areLendersFirm_2 x0 xN 0 M)
-- X2_makeLoans
def fX2_makeLoans_156 (rc14 : Int → xM → xO) (x0 : Nat) (x1 : Nat) (x2 : Nat) (x3 : Int) (M : xM) : xO := (rc14 (w32 (x3 + 1)) M)
def fX2_makeLoans_14 (x0 : Nat) (x1 : Nat) (x2 : Nat) : Nat → Int → xM → xO
  | 0, _, _ => none
  | n + 1, x3, M => (if 10 ≤ x3 then (xret 0 M) else xix x3 10 ((if (M (xr x0 3) x3.toNat) ≤ 0 then (fX2_makeLoans_156 (fX2_makeLoans_14 x0 x1 x2 n) x0 x1 x2 x3 M) else xb (fX1_loanAt (xr x0 0) (M (xr x0 0) 14) M) (fun z1 M2 => xput z1.toNat 0 x3 M2 (fun M3 => xput z1.toNat 1 (M3 x1 3) M3 (fun M4 => xput z1.toNat 2 (M4 x1 5) M4 (fun M5 => xix x3 10 (xput z1.toNat 3 (M5 (xr x0 3) x3.toNat) M5 (fun M6 => xix x3 10 (xb (fX1_worthOf (xr x0 0) (M6 x1 5) (M6 (xr x0 3) x3.toNat) M6) (fun z7 M8 => xput z1.toNat 4 z7 M8 (fun M9 => xput (xr x0 0) 14 (w32 ((M9 (xr x0 0) 14) + 1)) M9 (fun M10 => xix x3 10 (xb (fX1_moveUnits (xr x0 0) x3 (M10 x1 3) (M10 x1 5) (M10 (xr x0 3) x3.toNat) M10) (fun z11 M12 => xput x2 6 (w64 ((M12 x2 6) + (M12 z1.toNat 4))) M12 (fun M13 => (fX2_makeLoans_156 (fX2_makeLoans_14 x0 x1 x2 n) x0 x1 x2 x3 M13)))))))))))))))))
def fX2_makeLoans (x0 : Nat) (x1 : Nat) (M : xM) : xO := xb (fX1_account (xr x0 0) (M x1 3) M) (fun z1 M2 => (fX2_makeLoans_14 x0 x1 z1.toNat xN 0 M2))
-- X2_settleByLoan
def fX2_settleByLoan_166 (x0 : Nat) (x1 : Nat) (s0 : Int) (M : xM) : xO := xb (fX1_shift (xr x0 0) x1 (w64 (-(M x1 6))) (w64 (-(M x1 7))) M) (fun z1 M2 => xb (fX2_shiftLoans x0 x1 (-1) M2) (fun z3 M4 => (if s0 = 0 then (xret s0 M4) else xb (fX2_makeLoans x0 x1 M4) (fun z5 M6 => xb (fX1_settleWhole (xr x0 0) x1 M6) (fun z7 M8 => (xret s0 M8))))))
def fX2_settleByLoan_165 (x0 : Nat) (x1 : Nat) (M : xM) : xO := (fX2_settleByLoan_166 x0 x1 0 M)
def fX2_settleByLoan_66 (rc37 : Int → Int → xM → xO) (x0 : Nat) (x1 : Nat) (x3 : Int) (x6 : Int) (s0 : Int) (s1 : Int) (M : xM) : xO := xlet (w32 (s1 + s0)) (fun y1 => (rc37 y1 (w32 (x6 + 1)) M))
def fX2_settleByLoan_37 (x0 : Nat) (x1 : Nat) (x3 : Int) : Nat → Int → Int → xM → xO
  | 0, _, _, _ => none
  | n + 1, x5, x6, M => (if 10 ≤ x6 then xb (fX11_sumOf (xr x0 3) M) (fun z1 M2 => (if z1 < x3 then (xret 0 M2) else (if (w32 ((M2 (xr x0 0) 14) + x5)) ≤ 20 then xb (fX2_shiftLoans x0 x1 1 M2) (fun z3 M4 => xb (fX1_shift (xr x0 0) x1 (M4 x1 6) (M4 x1 7) M4) (fun z5 M6 => xb (fX1_isFirm (xr x0 0) (M6 x1 3) M6) (fun z7 M8 => (if z7 = 0 then (fX2_settleByLoan_165 x0 x1 M8) else xb (fX1_isFirm (xr x0 0) (M8 x1 4) M8) (fun z9 M10 => (if z9 = 0 then (fX2_settleByLoan_165 x0 x1 M10) else xb (fX2_areLendersFirm x0 M10) (fun z11 M12 => (if z11 = 0 then (fX2_settleByLoan_165 x0 x1 M12) else (fX2_settleByLoan_166 x0 x1 1 M12))))))))) else (xret 0 M2)))) else xix x6 10 ((if (M (xr x0 3) x6.toNat) ≤ 0 then (fX2_settleByLoan_66 (fX2_settleByLoan_37 x0 x1 x3 n) x0 x1 x3 x6 0 x5 M) else (fX2_settleByLoan_66 (fX2_settleByLoan_37 x0 x1 x3 n) x0 x1 x3 x6 1 x5 M))))
def fX2_settleByLoan (x0 : Nat) (x1 : Nat) (M : xM) : xO := xb (fX2_findLenders x0 x1 M) (fun z1 M2 => xb (fX1_account (xr x0 0) (M2 x1 3) M2) (fun z3 M4 => xb (fX0_freeOf z3.toNat (M4 x1 5) M4) (fun z5 M6 => xlet (w64 ((M4 x1 6) - z5)) (fun y7 => (fX2_settleByLoan_37 x0 x1 y7 xN 0 0 M6)))))
-- X2_settleByLoans
def fX2_settleByLoans_59 (rc4 : Int → Int → xM → xO) (x0 : Nat) (x1 : Int) (x2 : Int) (M : xM) : xO := (rc4 x1 (w32 (x2 + 1)) M)
def fX2_settleByLoans_4 (x0 : Nat) : Nat → Int → Int → xM → xO
  | 0, _, _, _ => none
  | n + 1, x1, x2, M => (if (M x0 4) ≤ x2 then (xret x1 M) else xb (fX2_candidate x0 x2 M) (fun z1 M2 => (if (M2 z1.toNat 12) = 1 then xb (fX1_isLacking (xr x0 0) z1.toNat M2) (fun z3 M4 => (if z3 = 0 then (fX2_settleByLoans_59 (fX2_settleByLoans_4 x0 n) x0 x1 x2 M4) else xb (fX1_isLinked (xr x0 0) z1.toNat M4) (fun z5 M6 => (if z5 = 0 then xb (fX2_settleByLoan x0 z1.toNat M6) (fun z7 M8 => (if z7 = 0 then (fX2_settleByLoans_59 (fX2_settleByLoans_4 x0 n) x0 x1 x2 M8) else (fX2_settleByLoans_59 (fX2_settleByLoans_4 x0 n) x0 (w32 (x1 + 1)) x2 M8))) else (fX2_settleByLoans_59 (fX2_settleByLoans_4 x0 n) x0 x1 x2 M6))))) else (fX2_settleByLoans_59 (fX2_settleByLoans_4 x0 n) x0 x1 x2 M2))))
def fX2_settleByLoans (x0 : Nat) (M : xM) : xO := (fX2_settleByLoans_4 x0 xN 0 0 M)
-- X2_settlePartOf
def fX2_settlePartOf_67 (x0 : Nat) (x1 : Nat) (x2 : Int) (x4 : Int) (s0 : Int) (M : xM) : xO := xb (fX1_shift (xr x0 0) x1 (w64 (-x2)) (w64 (-x4)) M) (fun z1 M2 => (if s0 = 0 then (xret 0 M2) else xb (fX1_settlePart (xr x0 0) x1 x2 x4 M2) (fun z3 M4 => (xret 0 M4))))
def fX2_settlePartOf_66 (x0 : Nat) (x1 : Nat) (x2 : Int) (x4 : Int) (M : xM) : xO := (fX2_settlePartOf_67 x0 x1 x2 x4 0 M)
def fX2_settlePartOf (x0 : Nat) (x1 : Nat) (x2 : Int) (M : xM) : xO := (if 0 < (M x1 6) then xnz (M x1 6) (xlet (Int.tdiv (w64 ((M x1 7) * x2)) (M x1 6)) (fun y2 => xb (fX1_shift (xr x0 0) x1 x2 y2 M) (fun z3 M4 => xb (fX1_isFirm (xr x0 0) (M4 x1 3) M4) (fun z5 M6 => (if z5 = 0 then (fX2_settlePartOf_66 x0 x1 x2 y2 M6) else xb (fX1_isFirm (xr x0 0) (M6 x1 4) M6) (fun z7 M8 => (if z7 = 0 then (fX2_settlePartOf_66 x0 x1 x2 y2 M8) else (fX2_settlePartOf_67 x0 x1 x2 y2 1 M8)))))))) else (xret 0 M))
-- X2_settleInPart
def fX2_settleInPart_99 (rc2 : Int → xM → xO) (x0 : Nat) (x1 : Int) (M : xM) : xO := (rc2 (w32 (x1 + 1)) M)
def fX2_settleInPart_58 (rc2 : Int → xM → xO) (x0 : Nat) (x1 : Int) (x2 : Nat) (x3 : Int) (s0 : Int) (M : xM) : xO := (if (M x2 12) = 1 then (if (M x2 8) ≤ 0 then (fX2_settleInPart_99 rc2 x0 x1 M) else (if s0 = 0 then (fX2_settleInPart_99 rc2 x0 x1 M) else xb (fX1_isLinked (xr x0 0) x2 M) (fun z1 M2 => (if z1 = 0 then xb (fX2_settlePartOf x0 x2 x3 M2) (fun z3 M4 => (fX2_settleInPart_99 rc2 x0 x1 M4)) else (fX2_settleInPart_99 rc2 x0 x1 M2))))) else (fX2_settleInPart_99 rc2 x0 x1 M))
def fX2_settleInPart_57 (rc2 : Int → xM → xO) (x0 : Nat) (x1 : Int) (x2 : Nat) (x3 : Int) (M : xM) : xO := (fX2_settleInPart_58 rc2 x0 x1 x2 x3 0 M)
def fX2_settleInPart_2 (x0 : Nat) : Nat → Int → xM → xO
  | 0, _, _ => none
  | n + 1, x1, M => (if (M x0 4) ≤ x1 then (xret 0 M) else xb (fX2_candidate x0 x1 M) (fun z1 M2 => xb (fX1_account (xr x0 0) (M2 z1.toNat 3) M2) (fun z3 M4 => xb (fX0_freeOf z3.toNat (M4 z1.toNat 5) M4) (fun z5 M6 => (if (M6 z1.toNat 6) ≤ z5 then (fX2_settleInPart_57 (fX2_settleInPart_2 x0 n) x0 x1 z1.toNat z5 M6) else (if z5 < (M6 z1.toNat 8) then (fX2_settleInPart_57 (fX2_settleInPart_2 x0 n) x0 x1 z1.toNat z5 M6) else (fX2_settleInPart_58 (fX2_settleInPart_2 x0 n) x0 x1 z1.toNat z5 1 M6)))))))
def fX2_settleInPart (x0 : Nat) (M : xM) : xO := (fX2_settleInPart_2 x0 xN 0 M)
-- X4_setEntitled
def fX4_setEntitled (x0 : Nat) (x1 : Int) (x2 : Int) (M : xM) : xO := (if x1 < 0 then (xret 0 M) else (if 10 ≤ x1 then (xret 0 M) else xix x1 10 (xput (xr x0 10) x1.toNat x2 M (fun M1 => (xret 0 M1)))))
-- X4_setClaimed
def fX4_setClaimed (x0 : Nat) (x1 : Int) (x2 : Int) (M : xM) : xO := (if x1 < 0 then (xret 0 M) else (if 20 ≤ x1 then (xret 0 M) else xix x1 20 (xput (xr x0 12) x1.toNat x2 M (fun M1 => (xret 0 M1)))))
-- X3_note
def fX3_note_113 (rc41 : Int → xM → xO) (x0 : Nat) (x1 : Nat) (x2 : Int) (s0 : Int) (s1 : Int) (s2 : Nat) (M : xM) : xO := xb (fX4_setClaimed s2 s1 s0 M) (fun z1 M2 => (rc41 (w32 (x2 + 1)) M2))
def fX3_note_96 (rc41 : Int → xM → xO) (x0 : Nat) (x1 : Nat) (x2 : Int) (x3 : Nat) (s0 : Int) (M : xM) : xO := (if s0 = 0 then (fX3_note_113 rc41 x0 x1 x2 0 x2 x1 M) else (fX3_note_113 rc41 x0 x1 x2 (M x3 6) x2 x1 M))
def fX3_note_95 (rc41 : Int → xM → xO) (x0 : Nat) (x1 : Nat) (x2 : Int) (x3 : Nat) (M : xM) : xO := (fX3_note_96 rc41 x0 x1 x2 x3 0 M)
def fX3_note_41 (x0 : Nat) (x1 : Nat) : Nat → Int → xM → xO
  | 0, _, _ => none
  | n + 1, x2, M => (if (M (xr x0 0) 12) ≤ x2 then xput x1 9 (M (xr x0 0) 17) M (fun M1 => xput x1 7 1 M1 (fun M2 => xput (xr x0 0) 17 (w32 ((M2 (xr x0 0) 17) + 1)) M2 (fun M3 => (xret 0 M3)))) else xb (fX1_trade (xr x0 0) x2 M) (fun z4 M5 => (if (M5 x1 0) = 1 then (fX3_note_95 (fX3_note_41 x0 x1 n) x0 x1 x2 z4.toNat M5) else xb (fX1_isDue (xr x0 0) z4.toNat M5) (fun z6 M7 => (if z6 = 0 then (fX3_note_95 (fX3_note_41 x0 x1 n) x0 x1 x2 z4.toNat M7) else (if (M7 z4.toNat 5) = (M7 x1 1) then (fX3_note_96 (fX3_note_41 x0 x1 n) x0 x1 x2 z4.toNat 1 M7) else (fX3_note_95 (fX3_note_41 x0 x1 n) x0 x1 x2 z4.toNat M7)))))))
def fX3_note_2 (x0 : Nat) (x1 : Nat) : Nat → Int → xM → xO
  | 0, _, _ => none
  | n + 1, x2, M => (if (M (xr x0 0) 9) ≤ x2 then (fX3_note_41 x0 x1 xN 0 M) else xb (fX1_account (xr x0 0) x2 M) (fun z1 M2 => xb (fX0_heldOf z1.toNat (M2 x1 1) M2) (fun z3 M4 => xb (fX4_setEntitled x1 x2 z3 M4) (fun z5 M6 => ((fX3_note_2 x0 x1 n) (w32 (x2 + 1)) M6)))))
def fX3_note (x0 : Nat) (x1 : Nat) (M : xM) : xO := (fX3_note_2 x0 x1 xN 0 M)
-- X4_splitOf
def fX4_splitOf (x0 : Nat) (x1 : Int) (M : xM) : xO := (if (M x0 3) = 0 then (xret x1 M) else xnz (M x0 3) ((xret (Int.tdiv (w64 (x1 * (M x0 2))) (M x0 3)) M)))
-- X3_splitAccount
def fX3_splitAccount (x0 : Nat) (x1 : Nat) (x2 : Nat) (x3 : Int) (M : xM) : xO := xb (fX0_heldOf x2 (M x1 1) M) (fun z1 M2 => xb (fX0_move x2 (M x1 1) (w64 (x3 - z1)) (M2 (xr x0 0) 17) M2) (fun z3 M4 => xb (fX0_blockedOf x2 (M4 x1 1) M4) (fun z5 M6 => xb (fX4_splitOf x1 z5 M6) (fun z7 M8 => xb (fX0_setBlocked x2 (M4 x1 1) z7 M8) (fun z9 M10 => (xret 0 M10))))))
-- X3_splitWithPool
def fX3_splitWithPool_107 (rc25 : Int → Int → Int → xM → xO) (x0 : Nat) (x1 : Nat) (x2 : Int) (x5 : Int) (x7 : Int) (x9 : Int) (M : xM) : xO := (rc25 x5 x7 (w32 (x9 + 1)) M)
def fX3_splitWithPool_25 (x0 : Nat) (x1 : Nat) (x2 : Int) : Nat → Int → Int → Int → xM → xO
  | 0, _, _, _, _ => none
  | n + 1, x5, x7, x9, M => (if (M (xr x0 0) 9) ≤ x9 then xb (fX4_splitOf x1 x5 M) (fun z1 M2 => xb (fX1_account (xr x0 0) x2 M2) (fun z3 M4 => xb (fX3_splitAccount x0 x1 z3.toNat (w64 (z1 - x7)) M4) (fun z5 M6 => (xret z1 M6)))) else xb (fX1_account (xr x0 0) x9 M) (fun z7 M8 => (if (M8 z7.toNat 2) = 0 then (fX3_splitWithPool_107 (fX3_splitWithPool_25 x0 x1 x2 n) x0 x1 x2 x5 x7 x9 M8) else (if (M8 z7.toNat 1) = x2 then xb (fX0_heldOf z7.toNat (M8 x1 1) M8) (fun z9 M10 => xlet (w64 (x5 + z9)) (fun y11 => xb (fX4_splitOf x1 z9 M10) (fun z12 M13 => xlet (w64 (x7 + z12)) (fun y14 => xb (fX4_splitOf x1 z9 M13) (fun z15 M16 => xb (fX3_splitAccount x0 x1 z7.toNat z15 M16) (fun z17 M18 => (fX3_splitWithPool_107 (fX3_splitWithPool_25 x0 x1 x2 n) x0 x1 x2 y11 y14 x9 M18))))))) else (fX3_splitWithPool_107 (fX3_splitWithPool_25 x0 x1 x2 n) x0 x1 x2 x5 x7 x9 M8)))))
def fX3_splitWithPool (x0 : Nat) (x1 : Nat) (x2 : Int) (M : xM) : xO := xb (fX1_account (xr x0 0) x2 M) (fun z1 M2 => xb (fX0_heldOf z1.toNat (M2 x1 1) M2) (fun z3 M4 => (fX3_splitWithPool_25 x0 x1 x2 xN z3 0 0 M4)))
-- X3_splitHoldings
def fX3_splitHoldings_42 (rc5 : Int → Int → xM → xO) (x0 : Nat) (x1 : Nat) (x2 : Int) (x4 : Int) (M : xM) : xO := (rc5 x2 (w32 (x4 + 1)) M)
def fX3_splitHoldings_5 (x0 : Nat) (x1 : Nat) : Nat → Int → Int → xM → xO
  | 0, _, _, _ => none
  | n + 1, x2, x4, M => (if (M (xr x0 0) 9) ≤ x4 then xb (fX1_security (xr x0 0) (M x1 1) M) (fun z1 M2 => xput z1.toNat 3 x2 M2 (fun M3 => (xret 0 M3))) else xb (fX1_account (xr x0 0) x4 M) (fun z4 M5 => (if (M5 z4.toNat 2) = 0 then xb (fX3_splitWithPool x0 x1 x4 M5) (fun z6 M7 => xlet (w64 (x2 + z6)) (fun y8 => (fX3_splitHoldings_42 (fX3_splitHoldings_5 x0 x1 n) x0 x1 y8 x4 M7))) else (fX3_splitHoldings_42 (fX3_splitHoldings_5 x0 x1 n) x0 x1 x2 x4 M5))))
def fX3_splitHoldings (x0 : Nat) (x1 : Nat) (M : xM) : xO := (fX3_splitHoldings_5 x0 x1 xN 0 0 M)
-- X3_splitLoans
def fX3_splitLoans_45 (rc2 : Int → xM → xO) (x0 : Nat) (x1 : Nat) (x2 : Int) (M : xM) : xO := (rc2 (w32 (x2 + 1)) M)
def fX3_splitLoans_2 (x0 : Nat) (x1 : Nat) : Nat → Int → xM → xO
  | 0, _, _ => none
  | n + 1, x2, M => (if (M (xr x0 0) 14) ≤ x2 then (xret 0 M) else xb (fX1_loanAt (xr x0 0) x2 M) (fun z1 M2 => (if (M2 z1.toNat 2) = (M2 x1 1) then xb (fX4_splitOf x1 (M2 z1.toNat 3) M2) (fun z3 M4 => xput z1.toNat 3 z3 M4 (fun M5 => (fX3_splitLoans_45 (fX3_splitLoans_2 x0 x1 n) x0 x1 x2 M5))) else (fX3_splitLoans_45 (fX3_splitLoans_2 x0 x1 n) x0 x1 x2 M2))))
def fX3_splitLoans (x0 : Nat) (x1 : Nat) (M : xM) : xO := (fX3_splitLoans_2 x0 x1 xN 0 M)
-- X3_splitTrades
def fX3_splitTrades_82 (rc2 : Int → xM → xO) (x0 : Nat) (x1 : Nat) (x2 : Int) (M : xM) : xO := (rc2 (w32 (x2 + 1)) M)
def fX3_splitTrades_2 (x0 : Nat) (x1 : Nat) : Nat → Int → xM → xO
  | 0, _, _ => none
  | n + 1, x2, M => (if (M (xr x0 0) 12) ≤ x2 then (xret 0 M) else xb (fX1_trade (xr x0 0) x2 M) (fun z1 M2 => (if (M2 z1.toNat 12) = 1 then (if (M2 z1.toNat 5) = (M2 x1 1) then xb (fX4_splitOf x1 (M2 z1.toNat 6) M2) (fun z3 M4 => xput z1.toNat 6 z3 M4 (fun M5 => xb (fX4_splitOf x1 (M5 z1.toNat 8) M5) (fun z6 M7 => xput z1.toNat 8 z6 M7 (fun M8 => (if (M8 z1.toNat 6) = 0 then xb (fX1_cancelTrade (xr x0 0) z1.toNat M8) (fun z9 M10 => (fX3_splitTrades_82 (fX3_splitTrades_2 x0 x1 n) x0 x1 x2 M10)) else (fX3_splitTrades_82 (fX3_splitTrades_2 x0 x1 n) x0 x1 x2 M8)))))) else (fX3_splitTrades_82 (fX3_splitTrades_2 x0 x1 n) x0 x1 x2 M2)) else (fX3_splitTrades_82 (fX3_splitTrades_2 x0 x1 n) x0 x1 x2 M2))))
def fX3_splitTrades (x0 : Nat) (x1 : Nat) (M : xM) : xO := (fX3_splitTrades_2 x0 x1 xN 0 M)
-- X4_entitledOf
def fX4_entitledOf (x0 : Nat) (x1 : Int) (M : xM) : xO := (if x1 < 0 then (xret 0 M) else (if 10 ≤ x1 then (xret 0 M) else xix x1 10 ((xret (M (xr x0 10) x1.toNat) M))))
-- X3_payLessTax
def fX3_payLessTax_46 (x3 : Int) (x5 : Nat) (s0 : Int) (M : xM) : xO := xput x5 5 (w64 ((M x5 5) + (w64 (x3 - (Int.tdiv (w64 (x3 * s0)) 100))))) M (fun M1 => (xret 0 M1))
def fX3_payLessTax (x0 : Nat) (x1 : Int) (x2 : Int) (x3 : Int) (M : xM) : xO := xb (fX1_account (xr x0 0) x1 M) (fun z1 M2 => (if (M2 z1.toNat 4) = 0 then (fX3_payLessTax_46 x3 z1.toNat 30 M2) else xb (fX1_security (xr x0 0) x2 M2) (fun z3 M4 => xb (fX1_treatyTax (xr x0 0) (M4 z3.toNat 0) (M4 z1.toNat 0) M4) (fun z5 M6 => (fX3_payLessTax_46 x3 z1.toNat z5 M6)))))
-- X3_payDividend
def fX3_payDividend_2 (x0 : Nat) (x1 : Nat) : Nat → Int → xM → xO
  | 0, _, _ => none
  | n + 1, x2, M => (if (M (xr x0 0) 9) ≤ x2 then (xret 0 M) else xb (fX4_entitledOf x1 x2 M) (fun z1 M2 => xb (fX3_payLessTax x0 x2 (M x1 1) (w64 ((M x1 2) * z1)) M2) (fun z3 M4 => ((fX3_payDividend_2 x0 x1 n) (w32 (x2 + 1)) M4))))
def fX3_payDividend (x0 : Nat) (x1 : Nat) (M : xM) : xO := (fX3_payDividend_2 x0 x1 xN 0 M)
-- X4_electedOf
def fX4_electedOf (x0 : Nat) (x1 : Int) (M : xM) : xO := (if x1 < 0 then (xret 0 M) else (if 10 ≤ x1 then (xret 0 M) else xix x1 10 ((xret (M (xr x0 11) x1.toNat) M))))
-- X4_askedBy
def fX4_askedBy (x0 : Nat) (x1 : Int) (M : xM) : xO := (if (M x0 3) = 0 then (xret 0 M) else xb (fX4_electedOf x0 x1 M) (fun z1 M2 => xnz (M2 x0 3) ((xret (Int.tdiv z1 (M2 x0 3)) M2))))
-- X3_payOption
def fX3_payOption_83 (rc35 : Int → xM → xO) (x0 : Nat) (x1 : Nat) (x2 : Int) (x4 : Int) (x5 : Int) (M : xM) : xO := xb (fX1_account (xr x0 0) x4 M) (fun z1 M2 => xb (fX0_move z1.toNat (M2 x1 1) x5 (M2 (xr x0 0) 17) M2) (fun z3 M4 => xb (fX1_security (xr x0 0) (M4 x1 1) M4) (fun z5 M6 => xput z5.toNat 3 (w64 ((M6 z5.toNat 3) + x5)) M6 (fun M7 => xb (fX4_entitledOf x1 x4 M7) (fun z8 M9 => xb (fX3_payLessTax x0 x4 (M7 x1 1) (w64 ((M7 x1 2) * (w64 (z8 - (w64 ((M9 x1 3) * x5)))))) M9) (fun z10 M11 => (rc35 (w32 (x4 + 1)) M11)))))))
def fX3_payOption_35 (x0 : Nat) (x1 : Nat) (x2 : Int) : Nat → Int → xM → xO
  | 0, _, _ => none
  | n + 1, x4, M => (if (M (xr x0 0) 9) ≤ x4 then (xret 0 M) else xb (fX4_askedBy x1 x4 M) (fun z1 M2 => (if x2 ≤ (M2 x1 4) then (fX3_payOption_83 (fX3_payOption_35 x0 x1 x2 n) x0 x1 x2 x4 z1 M2) else (if x2 ≤ 0 then (fX3_payOption_83 (fX3_payOption_35 x0 x1 x2 n) x0 x1 x2 x4 z1 M2) else xnz x2 (xlet (Int.tdiv (w64 (z1 * (M2 x1 4))) x2) (fun y4 => (fX3_payOption_83 (fX3_payOption_35 x0 x1 x2 n) x0 x1 x2 x4 y4 M2)))))))
def fX3_payOption_5 (x0 : Nat) (x1 : Nat) : Nat → Int → Int → xM → xO
  | 0, _, _, _ => none
  | n + 1, x2, x4, M => (if (M (xr x0 0) 9) ≤ x4 then (fX3_payOption_35 x0 x1 x2 xN 0 M) else xb (fX4_askedBy x1 x4 M) (fun z1 M2 => xlet (w64 (x2 + z1)) (fun y3 => ((fX3_payOption_5 x0 x1 n) y3 (w32 (x4 + 1)) M2))))
def fX3_payOption (x0 : Nat) (x1 : Nat) (M : xM) : xO := (fX3_payOption_5 x0 x1 xN 0 0 M)
-- X4_claimedOf
def fX4_claimedOf (x0 : Nat) (x1 : Int) (M : xM) : xO := (if x1 < 0 then (xret 0 M) else (if 20 ≤ x1 then (xret 0 M) else xix x1 20 ((xret (M (xr x0 12) x1.toNat) M))))
-- X3_payClaims
def fX3_payClaims_2 (x0 : Nat) (x1 : Nat) : Nat → Int → xM → xO
  | 0, _, _ => none
  | n + 1, x2, M => (if (M (xr x0 0) 12) ≤ x2 then (xret 0 M) else xb (fX1_trade (xr x0 0) x2 M) (fun z1 M2 => xb (fX4_claimedOf x1 x2 M2) (fun z3 M4 => xb (fX1_owe (xr x0 0) (M2 z1.toNat 3) (M2 z1.toNat 4) (w64 ((M2 x1 2) * z3)) M4) (fun z5 M6 => ((fX3_payClaims_2 x0 x1 n) (w32 (x2 + 1)) M6)))))
def fX3_payClaims (x0 : Nat) (x1 : Nat) (M : xM) : xO := (fX3_payClaims_2 x0 x1 xN 0 M)
-- X3_payOut
def fX3_payOut_46 (x0 : Nat) (x1 : Nat) (M : xM) : xO := xb (fX3_payClaims x0 x1 M) (fun z1 M2 => xput x1 8 1 M2 (fun M3 => (xret 0 M3)))
def fX3_payOut (x0 : Nat) (x1 : Nat) (M : xM) : xO := (if (M x1 0) = 1 then xb (fX3_splitHoldings x0 x1 M) (fun z1 M2 => xb (fX3_splitLoans x0 x1 M2) (fun z3 M4 => xb (fX3_splitTrades x0 x1 M4) (fun z5 M6 => (fX3_payOut_46 x0 x1 M6)))) else (if (M x1 0) = 0 then xb (fX3_payDividend x0 x1 M) (fun z7 M8 => (fX3_payOut_46 x0 x1 M8)) else xb (fX3_payOption x0 x1 M) (fun z9 M10 => (fX3_payOut_46 x0 x1 M10))))
-- X3_takeTurns
def fX3_takeTurns_60 (rc2 : Int → xM → xO) (x0 : Nat) (x1 : Int) (M : xM) : xO := (rc2 (w32 (x1 + 1)) M)
def fX3_takeTurns_41 (rc2 : Int → xM → xO) (x0 : Nat) (x1 : Int) (x2 : Nat) (M : xM) : xO := (if (M x2 6) = (M (xr x0 0) 16) then xb (fX3_payOut x0 x2 M) (fun z1 M2 => (fX3_takeTurns_60 rc2 x0 x1 M2)) else (fX3_takeTurns_60 rc2 x0 x1 M))
def fX3_takeTurns_2 (x0 : Nat) : Nat → Int → xM → xO
  | 0, _, _ => none
  | n + 1, x1, M => (if (M (xr x0 0) 15) ≤ x1 then (xret 0 M) else xb (fX1_event (xr x0 0) x1 M) (fun z1 M2 => (if (M2 z1.toNat 5) = (M2 (xr x0 0) 16) then xb (fX3_note x0 z1.toNat M2) (fun z3 M4 => (fX3_takeTurns_41 (fX3_takeTurns_2 x0 n) x0 x1 z1.toNat M4)) else (fX3_takeTurns_41 (fX3_takeTurns_2 x0 n) x0 x1 z1.toNat M2))))
def fX3_takeTurns (x0 : Nat) (M : xM) : xO := (fX3_takeTurns_2 x0 xN 0 M)
-- X3_finedFor
def fX3_finedFor_44 (x1 : Nat) (s0 : Int) (M : xM) : xO := (if s0 = 0 then (xret (M x1 3) M) else (xret (M x1 4) M))
def fX3_finedFor_43 (x1 : Nat) (M : xM) : xO := (fX3_finedFor_44 x1 0 M)
def fX3_finedFor_39 (x1 : Nat) (M : xM) : xO := (fX3_finedFor_44 x1 1 M)
def fX3_finedFor (x0 : Nat) (x1 : Nat) (M : xM) : xO := xb (fX1_instruction (xr x0 0) (M x1 1) M) (fun z1 M2 => (if (M2 z1.toNat 11) = 0 then xb (fX1_isHeldUp (xr x0 0) x1 M2) (fun z3 M4 => (if z3 = 0 then xb (fX1_isLacking (xr x0 0) x1 M4) (fun z5 M6 => (if z5 = 0 then (fX3_finedFor_43 x1 M6) else (fX3_finedFor_39 x1 M6))) else (fX3_finedFor_43 x1 M4))) else (fX3_finedFor_39 x1 M2)))
-- X3_tellFine
def fX3_tellFine (x0 : Nat) (x1 : Int) (x2 : Int) (x3 : Int) (x4 : Int) (M : xM) : xO := (if x1 = x2 then (xret 0 M) else xb (fX1_worthOf (xr x0 0) x3 x4 M) (fun z1 M2 => xb (fX1_security (xr x0 0) x3 M2) (fun z3 M4 => xlet (w64 ((Int.tdiv (w64 (z1 * (M4 z3.toNat 2))) 10000) + 1)) (fun y5 => xb (fX1_owe (xr x0 0) x1 x2 y5 M4) (fun z6 M7 => xb (fX8_tell (xr (xr x0 0) 0) x1 M7) (fun z8 M9 => xb (fX8_tell (xr (xr x0 0) 0) x2 M9) (fun z10 M11 => (xret 1 M11))))))))
-- X3_tellFinesOfTrades
def fX3_tellFinesOfTrades_67 (rc4 : Int → Int → xM → xO) (x0 : Nat) (x1 : Int) (x2 : Int) (M : xM) : xO := (rc4 x1 (w32 (x2 + 1)) M)
def fX3_tellFinesOfTrades_4 (x0 : Nat) : Nat → Int → Int → xM → xO
  | 0, _, _, _ => none
  | n + 1, x1, x2, M => (if (M (xr x0 0) 12) ≤ x2 then (xret x1 M) else xb (fX1_trade (xr x0 0) x2 M) (fun z1 M2 => xb (fX1_isDue (xr x0 0) z1.toNat M2) (fun z3 M4 => (if z3 = 0 then (fX3_tellFinesOfTrades_67 (fX3_tellFinesOfTrades_4 x0 n) x0 x1 x2 M4) else xb (fX1_causerOf (xr x0 0) z1.toNat M4) (fun z5 M6 => xb (fX3_finedFor x0 z1.toNat M6) (fun z7 M8 => xb (fX3_tellFine x0 z5 z7 (M8 z1.toNat 5) (M8 z1.toNat 6) M8) (fun z9 M10 => xlet (w32 (x1 + z9)) (fun y11 => (fX3_tellFinesOfTrades_67 (fX3_tellFinesOfTrades_4 x0 n) x0 y11 x2 M10)))))))))
def fX3_tellFinesOfTrades (x0 : Nat) (M : xM) : xO := (fX3_tellFinesOfTrades_4 x0 xN 0 0 M)
-- X3_tellFinesOfLoans
def fX3_tellFinesOfLoans_61 (rc4 : Int → Int → xM → xO) (x0 : Nat) (x1 : Int) (x2 : Int) (M : xM) : xO := (rc4 x1 (w32 (x2 + 1)) M)
def fX3_tellFinesOfLoans_4 (x0 : Nat) : Nat → Int → Int → xM → xO
  | 0, _, _, _ => none
  | n + 1, x1, x2, M => (if (M (xr x0 0) 14) ≤ x2 then (xret x1 M) else xb (fX1_loanAt (xr x0 0) x2 M) (fun z1 M2 => (if (M2 z1.toNat 5) = 0 then (fX3_tellFinesOfLoans_61 (fX3_tellFinesOfLoans_4 x0 n) x0 x1 x2 M2) else (if (M2 z1.toNat 6) = 0 then xb (fX3_tellFine x0 (M2 z1.toNat 1) (M2 z1.toNat 0) (M2 z1.toNat 2) (M2 z1.toNat 3) M2) (fun z3 M4 => xlet (w32 (x1 + z3)) (fun y5 => (fX3_tellFinesOfLoans_61 (fX3_tellFinesOfLoans_4 x0 n) x0 y5 x2 M4))) else (fX3_tellFinesOfLoans_61 (fX3_tellFinesOfLoans_4 x0 n) x0 x1 x2 M2)))))
def fX3_tellFinesOfLoans (x0 : Nat) (M : xM) : xO := (fX3_tellFinesOfLoans_4 x0 xN 0 0 M)
-- X3_buyIn
def fX3_buyIn (x0 : Nat) (x1 : Nat) (M : xM) : xO := xb (fX1_worthOf (xr x0 0) (M x1 5) (M x1 6) M) (fun z1 M2 => xb (fX1_owe (xr x0 0) (M2 x1 3) (M2 x1 4) (max 0 (w64 (z1 - (M2 x1 7)))) M2) (fun z3 M4 => xb (fX1_cancelTrade (xr x0 0) x1 M4) (fun z5 M6 => (xret 0 M6))))
-- X3_growOlder
def fX3_growOlder_67 (rc2 : Int → xM → xO) (x0 : Nat) (x1 : Int) (M : xM) : xO := (rc2 (w32 (x1 + 1)) M)
def fX3_growOlder_2 (x0 : Nat) : Nat → Int → xM → xO
  | 0, _, _ => none
  | n + 1, x1, M => (if (M (xr x0 0) 12) ≤ x1 then (xret 0 M) else xb (fX1_trade (xr x0 0) x1 M) (fun z1 M2 => xb (fX1_isDue (xr x0 0) z1.toNat M2) (fun z3 M4 => (if z3 = 0 then (fX3_growOlder_67 (fX3_growOlder_2 x0 n) x0 x1 M4) else xput z1.toNat 11 (w32 ((M4 z1.toNat 11) + 1)) M4 (fun M5 => (if (M5 z1.toNat 11) = 5 then xb (fX1_isLacking (xr x0 0) z1.toNat M5) (fun z6 M7 => (if z6 = 0 then (fX3_growOlder_67 (fX3_growOlder_2 x0 n) x0 x1 M7) else xb (fX3_buyIn x0 z1.toNat M7) (fun z8 M9 => (fX3_growOlder_67 (fX3_growOlder_2 x0 n) x0 x1 M9)))) else (fX3_growOlder_67 (fX3_growOlder_2 x0 n) x0 x1 M5)))))))
def fX3_growOlder (x0 : Nat) (M : xM) : xO := (fX3_growOlder_2 x0 xN 0 M)
-- X5_isAlive
def fX5_isAlive_15 (M : xM) : xO := (xret 1 M)
def fX5_isAlive (x0 : Nat) (M : xM) : xO := (if (M x0 9) = 0 then (fX5_isAlive_15 M) else (if (M x0 9) = 1 then (fX5_isAlive_15 M) else (xret 0 M)))
-- X11_needIndex
def fX11_needIndex_9 (M : xM) : xO := (xthr 0 M)
def fX11_needIndex (x0 : Int) (x1 : Int) (M : xM) : xO := (if x0 < 0 then (fX11_needIndex_9 M) else (if x0 < x1 then (xret 0 M) else (fX11_needIndex_9 M)))
-- X11_needAccount
def fX11_needAccount (x0 : Nat) (x1 : Int) (M : xM) : xO := xb (fX11_needIndex x1 (M (xr x0 1) 9) M) (fun z1 M2 => (xret 0 M2))
-- X11_needArgument
def fX11_needArgument (x0 : Int) (M : xM) : xO := (if x0 = 0 then (xthr 1 M) else (xret 0 M))
-- X11_needRange
def fX11_needRange_15 (s0 : Int) (M : xM) : xO := xb (fX11_needArgument s0 M) (fun z1 M2 => (xret 0 M2))
def fX11_needRange_14 (M : xM) : xO := (fX11_needRange_15 0 M)
def fX11_needRange (x0 : Int) (x1 : Int) (x2 : Int) (M : xM) : xO := (if x0 < x1 then (fX11_needRange_14 M) else (if x2 < x0 then (fX11_needRange_14 M) else (fX11_needRange_15 1 M)))
-- X11_needState
def fX11_needState (x0 : Int) (M : xM) : xO := (if x0 = 0 then (xthr 2 M) else (xret 0 M))
-- X11_open
def fX11_open_122 (x0 : Nat) (x3 : Int) (x4 : Int) (x5 : Int) (x6 : Int) (x7 : Nat) (s0 : Int) (s1 : Nat) (M : xM) : xO := xput s1 2 s0 M (fun M1 => xput x7 0 x3 M1 (fun M2 => xput x7 5 x4 M2 (fun M3 => xput x7 7 x5 M3 (fun M4 => xput (xr x0 1) 9 (w32 (x6 + 1)) M4 (fun M5 => (xret x6 M5))))))
def fX11_open_121 (x0 : Nat) (x3 : Int) (x4 : Int) (x5 : Int) (x6 : Int) (x7 : Nat) (s0 : Nat) (M : xM) : xO := (fX11_open_122 x0 x3 x4 x5 x6 x7 0 s0 M)
def fX11_open_77 (x0 : Nat) (x1 : Int) (x2 : Int) (x3 : Int) (x4 : Int) (x5 : Int) (s0 : Int) (M : xM) : xO := xb (fX11_needState s0 M) (fun z1 M2 => xb (fX1_account (xr x0 1) (M2 (xr x0 1) 9) M2) (fun z3 M4 => xput z3.toNat 1 x1 M4 (fun M5 => (if x2 = 0 then (fX11_open_121 x0 x3 x4 x5 (M2 (xr x0 1) 9) z3.toNat z3.toNat M5) else (if x1 = (-1) then (fX11_open_121 x0 x3 x4 x5 (M2 (xr x0 1) 9) z3.toNat z3.toNat M5) else (fX11_open_122 x0 x3 x4 x5 (M2 (xr x0 1) 9) z3.toNat 1 z3.toNat M5))))))
def fX11_open_57 (x0 : Nat) (x1 : Int) (x2 : Int) (x3 : Int) (x4 : Int) (x5 : Int) (s0 : Int) (M : xM) : xO := xb (fX11_needState s0 M) (fun z1 M2 => (if 10 ≤ (M2 (xr x0 1) 9) then (fX11_open_77 x0 x1 x2 x3 x4 x5 0 M2) else (fX11_open_77 x0 x1 x2 x3 x4 x5 1 M2)))
def fX11_open_52 (x0 : Nat) (x1 : Int) (x2 : Int) (x3 : Int) (x4 : Int) (x5 : Int) (M : xM) : xO := (fX11_open_57 x0 x1 x2 x3 x4 x5 1 M)
def fX11_open_10 (x0 : Nat) (x1 : Int) (x2 : Int) (x3 : Int) (x4 : Int) (x5 : Int) (M : xM) : xO := xb (fX11_needRange x3 0 2 M) (fun z1 M2 => xb (fX11_needRange x4 0 1000000 M2) (fun z3 M4 => xb (fX11_needRange x5 0 1000000 M4) (fun z5 M6 => (if x1 = (-1) then (fX11_open_52 x0 x1 x2 x3 x4 x5 M6) else xb (fX1_account (xr x0 1) x1 M6) (fun z7 M8 => (if (M8 z7.toNat 1) = (-1) then (fX11_open_52 x0 x1 x2 x3 x4 x5 M8) else (fX11_open_57 x0 x1 x2 x3 x4 x5 0 M8)))))))
def fX11_open (x0 : Nat) (x1 : Int) (x2 : Int) (x3 : Int) (x4 : Int) (x5 : Int) (M : xM) : xO := (if x1 = (-1) then (fX11_open_10 x0 x1 x2 x3 x4 x5 M) else xb (fX11_needAccount x0 x1 M) (fun z1 M2 => (fX11_open_10 x0 x1 x2 x3 x4 x5 M2)))
-- X11_lend
def fX11_lend_27 (x2 : Nat) (s0 : Int) (s1 : Nat) (M : xM) : xO := xput s1 3 s0 M (fun M1 => (xret (M1 x2 3) M1))
def fX11_lend (x0 : Nat) (x1 : Int) (M : xM) : xO := xb (fX11_needAccount x0 x1 M) (fun z1 M2 => xb (fX1_account (xr x0 1) x1 M2) (fun z3 M4 => (if (M4 z3.toNat 3) = 0 then (fX11_lend_27 z3.toNat 1 z3.toNat M4) else (fX11_lend_27 z3.toNat 0 z3.toNat M4))))
-- X11_issue
def fX11_issue_52 (x0 : Nat) (x1 : Int) (x2 : Int) (x3 : Int) (x4 : Int) (x5 : Int) (s0 : Int) (M : xM) : xO := xb (fX11_needState s0 M) (fun z1 M2 => xb (fX1_security (xr x0 1) (M2 (xr x0 1) 10) M2) (fun z3 M4 => xput z3.toNat 0 x2 M4 (fun M5 => xput z3.toNat 1 x4 M5 (fun M6 => xput z3.toNat 2 x5 M6 (fun M7 => xput z3.toNat 3 x3 M7 (fun M8 => xput (xr x0 1) 10 (w32 ((M2 (xr x0 1) 10) + 1)) M8 (fun M9 => xb (fX1_account (xr x0 1) x1 M9) (fun z10 M11 => xb (fX0_move z10.toNat (M2 (xr x0 1) 10) x3 (M11 (xr x0 1) 17) M11) (fun z12 M13 => (xret (M2 (xr x0 1) 10) M13))))))))))
def fX11_issue (x0 : Nat) (x1 : Int) (x2 : Int) (x3 : Int) (x4 : Int) (x5 : Int) (M : xM) : xO := xb (fX11_needAccount x0 x1 M) (fun z1 M2 => xb (fX11_needRange x2 0 2 M2) (fun z3 M4 => xb (fX11_needRange x3 1 100000 M4) (fun z5 M6 => xb (fX11_needRange x4 1 1000 M6) (fun z7 M8 => xb (fX11_needRange x5 0 500 M8) (fun z9 M10 => (if 4 ≤ (M10 (xr x0 1) 10) then (fX11_issue_52 x0 x1 x2 x3 x4 x5 0 M10) else (fX11_issue_52 x0 x1 x2 x3 x4 x5 1 M10)))))))
-- X11_needSecurity
def fX11_needSecurity (x0 : Nat) (x1 : Int) (M : xM) : xO := xb (fX11_needIndex x1 (M (xr x0 1) 10) M) (fun z1 M2 => (xret 0 M2))
-- X11_setPrice
def fX11_setPrice (x0 : Nat) (x1 : Int) (x2 : Int) (M : xM) : xO := xb (fX11_needSecurity x0 x1 M) (fun z1 M2 => xb (fX11_needRange x2 1 1000 M2) (fun z3 M4 => xb (fX1_security (xr x0 1) x1 M4) (fun z5 M6 => xput z5.toNat 1 x2 M6 (fun M7 => (xret (M6 z5.toNat 1) M7)))))
-- X11_block
def fX11_block_49 (x2 : Int) (x3 : Int) (x4 : Nat) (s0 : Int) (M : xM) : xO := xb (fX11_needState s0 M) (fun z1 M2 => xb (fX0_blockedOf x4 x2 M2) (fun z3 M4 => xb (fX0_setBlocked x4 x2 x3 M4) (fun z5 M6 => (xret z3 M6))))
def fX11_block_19 (x0 : Nat) (x1 : Int) (x2 : Int) (x3 : Int) (s0 : Int) (M : xM) : xO := xb (fX11_needArgument s0 M) (fun z1 M2 => xb (fX1_account (xr x0 1) x1 M2) (fun z3 M4 => xb (fX0_heldOf z3.toNat x2 M4) (fun z5 M6 => (if z5 < x3 then (fX11_block_49 x2 x3 z3.toNat 0 M6) else (fX11_block_49 x2 x3 z3.toNat 1 M6)))))
def fX11_block (x0 : Nat) (x1 : Int) (x2 : Int) (x3 : Int) (M : xM) : xO := xb (fX11_needAccount x0 x1 M) (fun z1 M2 => xb (fX11_needSecurity x0 x2 M2) (fun z3 M4 => (if x3 < 0 then (fX11_block_19 x0 x1 x2 x3 0 M4) else (fX11_block_19 x0 x1 x2 x3 1 M4))))
-- X11_instruct
def fX11_instruct_212 (x0 : Nat) (x10 : Int) (x12 : Int) (s0 : Int) (M : xM) : xO := xb (fX11_needState s0 M) (fun z1 M2 => xput (xr x0 1) 11 (w32 (x10 + 1)) M2 (fun M3 => (if x12 = (-1) then (xret x10 M3) else xb (fX1_match (xr x0 1) x10 x12 M3) (fun z4 M5 => (xret x10 M5)))))
def fX11_instruct_207 (x0 : Nat) (x10 : Int) (x12 : Int) (M : xM) : xO := (fX11_instruct_212 x0 x10 x12 1 M)
def fX11_instruct_93 (x0 : Nat) (x1 : Int) (x2 : Int) (x3 : Int) (x4 : Int) (x5 : Int) (x6 : Int) (x7 : Int) (x8 : Int) (x9 : Int) (s0 : Int) (M : xM) : xO := xb (fX11_needState s0 M) (fun z1 M2 => xb (fX1_instruction (xr x0 1) (M2 (xr x0 1) 11) M2) (fun z3 M4 => xput z3.toNat 0 x1 M4 (fun M5 => xput z3.toNat 1 x2 M5 (fun M6 => xput z3.toNat 2 x3 M6 (fun M7 => xput z3.toNat 3 x4 M7 (fun M8 => xput z3.toNat 4 x5 M8 (fun M9 => xput z3.toNat 5 x6 M9 (fun M10 => xput z3.toNat 6 x7 M10 (fun M11 => xput z3.toNat 7 x8 M11 (fun M12 => xput z3.toNat 8 x9 M12 (fun M13 => xb (fX1_partnerFor (xr x0 1) z3.toNat x6 M13) (fun z14 M15 => (if z14 = (-1) then (fX11_instruct_207 x0 (M2 (xr x0 1) 11) z14 M15) else (if 20 ≤ (M15 (xr x0 1) 12) then (fX11_instruct_212 x0 (M2 (xr x0 1) 11) z14 0 M15) else (fX11_instruct_207 x0 (M2 (xr x0 1) 11) z14 M15)))))))))))))))
def fX11_instruct_26 (x0 : Nat) (x1 : Int) (x2 : Int) (x3 : Int) (x4 : Int) (x5 : Int) (x6 : Int) (x7 : Int) (x8 : Int) (x9 : Int) (s0 : Int) (M : xM) : xO := xb (fX11_needArgument s0 M) (fun z1 M2 => xb (fX11_needRange x5 1 100000 M2) (fun z3 M4 => xb (fX11_needRange x6 0 100000000 M4) (fun z5 M6 => xb (fX11_needRange x7 (M6 (xr x0 1) 16) 2000 M6) (fun z7 M8 => xb (fX11_needRange x8 0 9 M8) (fun z9 M10 => xb (fX11_needRange x9 0 x5 M10) (fun z11 M12 => (if 40 ≤ (M12 (xr x0 1) 11) then (fX11_instruct_93 x0 x1 x2 x3 x4 x5 x6 x7 x8 x9 0 M12) else (fX11_instruct_93 x0 x1 x2 x3 x4 x5 x6 x7 x8 x9 1 M12))))))))
def fX11_instruct (x0 : Nat) (x1 : Int) (x2 : Int) (x3 : Int) (x4 : Int) (x5 : Int) (x6 : Int) (x7 : Int) (x8 : Int) (x9 : Int) (M : xM) : xO := xb (fX11_needAccount x0 x1 M) (fun z1 M2 => xb (fX11_needAccount x0 x2 M2) (fun z3 M4 => xb (fX11_needSecurity x0 x4 M4) (fun z5 M6 => (if x1 = x2 then (fX11_instruct_26 x0 x1 x2 x3 x4 x5 x6 x7 x8 x9 0 M6) else (fX11_instruct_26 x0 x1 x2 x3 x4 x5 x6 x7 x8 x9 1 M6)))))
-- X11_needInstruction
def fX11_needInstruction (x0 : Nat) (x1 : Int) (M : xM) : xO := xb (fX11_needIndex x1 (M (xr x0 1) 11) M) (fun z1 M2 => (xret 0 M2))
-- X11_cancel
def fX11_cancel (x0 : Nat) (x1 : Int) (M : xM) : xO := xb (fX11_needInstruction x0 x1 M) (fun z1 M2 => xb (fX1_instruction (xr x0 1) x1 M2) (fun z3 M4 => xb (fX5_isAlive z3.toNat M4) (fun z5 M6 => xb (fX11_needState z5 M6) (fun z7 M8 => (if (M8 z3.toNat 9) = 0 then xb (fX1_cancelInstruction (xr x0 1) z3.toNat M8) (fun z9 M10 => (xret 1 M10)) else xput z3.toNat 12 1 M8 (fun M11 => xb (fX1_trade (xr x0 1) (M11 z3.toNat 10) M11) (fun z12 M13 => xb (fX1_instruction (xr x0 1) (M13 z12.toNat 1) M13) (fun z14 M15 => (if (M15 z14.toNat 12) = 0 then (xret 0 M15) else xb (fX1_instruction (xr x0 1) (M15 z12.toNat 2) M15) (fun z16 M17 => (if (M17 z16.toNat 12) = 0 then (xret 0 M17) else xb (fX1_cancelTrade (xr x0 1) z12.toNat M17) (fun z18 M19 => (xret 1 M19)))))))))))))
-- X11_hold
def fX11_hold_34 (x2 : Nat) (s0 : Int) (s1 : Nat) (M : xM) : xO := xput s1 11 s0 M (fun M1 => (xret (M1 x2 11) M1))
def fX11_hold (x0 : Nat) (x1 : Int) (M : xM) : xO := xb (fX11_needInstruction x0 x1 M) (fun z1 M2 => xb (fX1_instruction (xr x0 1) x1 M2) (fun z3 M4 => xb (fX5_isAlive z3.toNat M4) (fun z5 M6 => xb (fX11_needState z5 M6) (fun z7 M8 => (if (M8 z3.toNat 11) = 0 then (fX11_hold_34 z3.toNat 1 z3.toNat M8) else (fX11_hold_34 z3.toNat 0 z3.toNat M8))))))
-- X11_needTrade
def fX11_needTrade (x0 : Nat) (x1 : Int) (M : xM) : xO := xb (fX11_needIndex x1 (M (xr x0 1) 12) M) (fun z1 M2 => (xret 0 M2))
-- X11_link
def fX11_link_90 (x0 : Nat) (x1 : Int) (x2 : Int) (x3 : Int) (s0 : Int) (M : xM) : xO := xb (fX11_needState s0 M) (fun z1 M2 => xb (fX1_linkAt (xr x0 1) (M2 (xr x0 1) 13) M2) (fun z3 M4 => xput z3.toNat 0 x1 M4 (fun M5 => xput z3.toNat 1 x2 M5 (fun M6 => xput z3.toNat 2 x3 M6 (fun M7 => xput (xr x0 1) 13 (w32 ((M7 (xr x0 1) 13) + 1)) M7 (fun M8 => (xret (M8 (xr x0 1) 13) M8)))))))
def fX11_link_89 (x0 : Nat) (x1 : Int) (x2 : Int) (x3 : Int) (M : xM) : xO := (fX11_link_90 x0 x1 x2 x3 0 M)
def fX11_link_58 (x0 : Nat) (x1 : Int) (x2 : Int) (x3 : Int) (s0 : Int) (M : xM) : xO := xb (fX11_needState s0 M) (fun z1 M2 => xb (fX1_isLinkOf (xr x0 1) x1 x2 M2) (fun z3 M4 => (if z3 = 0 then (if 10 ≤ (M4 (xr x0 1) 13) then (fX11_link_89 x0 x1 x2 x3 M4) else (fX11_link_90 x0 x1 x2 x3 1 M4)) else (fX11_link_89 x0 x1 x2 x3 M4))))
def fX11_link_57 (x0 : Nat) (x1 : Int) (x2 : Int) (x3 : Int) (M : xM) : xO := (fX11_link_58 x0 x1 x2 x3 0 M)
def fX11_link_20 (x0 : Nat) (x1 : Int) (x2 : Int) (x3 : Int) (s0 : Int) (M : xM) : xO := xb (fX11_needArgument s0 M) (fun z1 M2 => xb (fX1_trade (xr x0 1) x1 M2) (fun z3 M4 => (if (M4 z3.toNat 12) = 1 then xb (fX1_trade (xr x0 1) x2 M4) (fun z5 M6 => (if (M6 z5.toNat 12) = 1 then (fX11_link_58 x0 x1 x2 x3 1 M6) else (fX11_link_57 x0 x1 x2 x3 M6))) else (fX11_link_57 x0 x1 x2 x3 M4))))
def fX11_link (x0 : Nat) (x1 : Int) (x2 : Int) (x3 : Int) (M : xM) : xO := xb (fX11_needTrade x0 x1 M) (fun z1 M2 => xb (fX11_needTrade x0 x2 M2) (fun z3 M4 => (if x1 = x2 then (fX11_link_20 x0 x1 x2 x3 0 M4) else (fX11_link_20 x0 x1 x2 x3 1 M4))))
-- X11_cycle
def fX11_cycle (x0 : Nat) (M : xM) : xO := xb (fX2_giveLoansBack (xr x0 3) M) (fun z1 M2 => xb (fX2_bestByBranches (xr x0 3) M2) (fun z3 M4 => xb (fX2_settleBestSet (xr x0 3) M4) (fun z5 M6 => xb (fX2_settleByLoans (xr x0 3) M6) (fun z7 M8 => xlet (w32 (z5 + z7)) (fun y9 => xb (fX2_settleInPart (xr x0 3) M8) (fun z10 M11 => (xret y9 M11)))))))
-- X11_best
def fX11_best (x0 : Nat) (M : xM) : xO := xb (fX2_bestByBranches (xr x0 3) M) (fun z1 M2 => (xret z1 M2))
-- X11_bestByAll
def fX11_bestByAll (x0 : Nat) (M : xM) : xO := xb (fX2_bestOfAllSets (xr x0 3) M) (fun z1 M2 => (xret z1 M2))
-- X11_endDay
def fX11_endDay_18 (x0 : Nat) (s0 : Int) (M : xM) : xO := xb (fX11_needState s0 M) (fun z1 M2 => xb (fX3_takeTurns (xr x0 4) M2) (fun z3 M4 => xb (fX3_tellFinesOfTrades (xr x0 4) M4) (fun z5 M6 => xb (fX3_tellFinesOfLoans (xr x0 4) M6) (fun z7 M8 => xlet (w32 (z5 + z7)) (fun y9 => xb (fX3_growOlder (xr x0 4) M8) (fun z10 M11 => xput (xr x0 1) 16 (w32 ((M11 (xr x0 1) 16) + 1)) M11 (fun M12 => (xret y9 M12))))))))
def fX11_endDay (x0 : Nat) (M : xM) : xO := (if 2000 ≤ (M (xr x0 1) 16) then (fX11_endDay_18 x0 0 M) else (fX11_endDay_18 x0 1 M))
-- X11_today
def fX11_today (x0 : Nat) (M : xM) : xO := (xret (M (xr x0 1) 16) M)
-- X11_needLoan
def fX11_needLoan (x0 : Nat) (x1 : Int) (M : xM) : xO := xb (fX11_needIndex x1 (M (xr x0 1) 14) M) (fun z1 M2 => (xret 0 M2))
-- X11_recall
def fX11_recall_33 (x2 : Nat) (s0 : Int) (M : xM) : xO := xb (fX11_needState s0 M) (fun z1 M2 => xput x2 5 1 M2 (fun M3 => (xret (M3 x2 3) M3)))
def fX11_recall_32 (x2 : Nat) (M : xM) : xO := (fX11_recall_33 x2 0 M)
def fX11_recall (x0 : Nat) (x1 : Int) (M : xM) : xO := xb (fX11_needLoan x0 x1 M) (fun z1 M2 => xb (fX1_loanAt (xr x0 1) x1 M2) (fun z3 M4 => (if (M4 z3.toNat 6) = 0 then (if (M4 z3.toNat 5) = 0 then (fX11_recall_33 z3.toNat 1 M4) else (fX11_recall_32 z3.toNat M4)) else (fX11_recall_32 z3.toNat M4))))
-- X11_keep
def fX11_keep (x0 : Nat) (M : xM) : xO := xb (fX1_copyFrom (xr x0 2) (xr x0 1) M) (fun z1 M2 => xput x0 5 1 M2 (fun M3 => (xret (M3 (xr x0 1) 16) M3)))
-- X11_goBack
def fX11_goBack (x0 : Nat) (M : xM) : xO := xb (fX11_needState (M x0 5) M) (fun z1 M2 => xb (fX1_copyFrom (xr x0 1) (xr x0 2) M2) (fun z3 M4 => (xret (M4 (xr x0 1) 16) M4)))
-- X11_announce
def fX11_announce_104 (x0 : Nat) (x1 : Int) (x2 : Int) (x3 : Int) (x4 : Int) (x5 : Int) (x6 : Int) (x7 : Int) (s0 : Int) (M : xM) : xO := xb (fX11_needState s0 M) (fun z1 M2 => xb (fX1_event (xr x0 1) (M2 (xr x0 1) 15) M2) (fun z3 M4 => xput z3.toNat 0 x1 M4 (fun M5 => xput z3.toNat 1 x2 M5 (fun M6 => xput z3.toNat 2 x3 M6 (fun M7 => xput z3.toNat 3 x4 M7 (fun M8 => xput z3.toNat 4 x5 M8 (fun M9 => xput z3.toNat 5 x6 M9 (fun M10 => xput z3.toNat 6 x7 M10 (fun M11 => xput (xr x0 1) 15 (w32 ((M2 (xr x0 1) 15) + 1)) M11 (fun M12 => (xret (M2 (xr x0 1) 15) M12)))))))))))
def fX11_announce_62 (x0 : Nat) (x1 : Int) (x2 : Int) (x3 : Int) (x4 : Int) (x5 : Int) (x6 : Int) (x7 : Int) (M : xM) : xO := xb (fX11_needRange x6 (M (xr x0 1) 16) 2000 M) (fun z1 M2 => xb (fX11_needRange x7 x6 2000 M2) (fun z3 M4 => (if 10 ≤ (M4 (xr x0 1) 15) then (fX11_announce_104 x0 x1 x2 x3 x4 x5 x6 x7 0 M4) else (fX11_announce_104 x0 x1 x2 x3 x4 x5 x6 x7 1 M4))))
def fX11_announce_49 (x0 : Nat) (x1 : Int) (x2 : Int) (x3 : Int) (x4 : Int) (x5 : Int) (x6 : Int) (x7 : Int) (M : xM) : xO := (if x1 = 2 then xb (fX11_needRange x5 0 100000 M) (fun z1 M2 => (fX11_announce_62 x0 x1 x2 x3 x4 x5 x6 x7 M2)) else (fX11_announce_62 x0 x1 x2 x3 x4 x5 x6 x7 M))
def fX11_announce_46 (x0 : Nat) (x1 : Int) (x2 : Int) (x3 : Int) (x4 : Int) (x5 : Int) (x6 : Int) (x7 : Int) (s0 : Int) (s1 : Int) (s2 : Int) (M : xM) : xO := xb (fX11_needRange s2 s1 s0 M) (fun z1 M2 => (fX11_announce_49 x0 x1 x2 x3 x4 x5 x6 x7 M2))
def fX11_announce_25 (x0 : Nat) (x1 : Int) (x2 : Int) (x3 : Int) (x4 : Int) (x5 : Int) (x6 : Int) (x7 : Int) (s0 : Int) (s1 : Int) (s2 : Int) (M : xM) : xO := xb (fX11_needRange s2 s1 s0 M) (fun z1 M2 => (if x1 = 0 then (fX11_announce_49 x0 x1 x2 x3 x4 x5 x6 x7 M2) else (if x1 = 1 then (fX11_announce_46 x0 x1 x2 x3 x4 x5 x6 x7 3 1 x4 M2) else (fX11_announce_46 x0 x1 x2 x3 x4 x5 x6 x7 10 1 x4 M2))))
def fX11_announce (x0 : Nat) (x1 : Int) (x2 : Int) (x3 : Int) (x4 : Int) (x5 : Int) (x6 : Int) (x7 : Int) (M : xM) : xO := xb (fX11_needSecurity x0 x2 M) (fun z1 M2 => xb (fX11_needRange x1 0 2 M2) (fun z3 M4 => (if x1 = 1 then (fX11_announce_25 x0 x1 x2 x3 x4 x5 x6 x7 3 1 x3 M4) else (fX11_announce_25 x0 x1 x2 x3 x4 x5 x6 x7 1000 1 x3 M4))))
-- X11_units
def fX11_units (x0 : Nat) (x1 : Int) (x2 : Int) (M : xM) : xO := xb (fX11_needAccount x0 x1 M) (fun z1 M2 => xb (fX11_needSecurity x0 x2 M2) (fun z3 M4 => xb (fX1_account (xr x0 1) x1 M4) (fun z5 M6 => xb (fX0_heldOf z5.toNat x2 M6) (fun z7 M8 => (xret z7 M8)))))
-- X11_free
def fX11_free (x0 : Nat) (x1 : Int) (x2 : Int) (M : xM) : xO := xb (fX11_needAccount x0 x1 M) (fun z1 M2 => xb (fX11_needSecurity x0 x2 M2) (fun z3 M4 => xb (fX1_account (xr x0 1) x1 M4) (fun z5 M6 => xb (fX0_freeOf z5.toNat x2 M6) (fun z7 M8 => (xret z7 M8)))))
-- X11_out
def fX11_out (x0 : Nat) (x1 : Int) (M : xM) : xO := xb (fX11_needSecurity x0 x1 M) (fun z1 M2 => xb (fX1_security (xr x0 1) x1 M2) (fun z3 M4 => (xret (M4 z3.toNat 3) M4)))
-- X11_cash
def fX11_cash (x0 : Nat) (x1 : Int) (M : xM) : xO := xb (fX11_needAccount x0 x1 M) (fun z1 M2 => xb (fX1_account (xr x0 1) x1 M2) (fun z3 M4 => (xret (M4 z3.toNat 5) M4)))
-- X11_pledged
def fX11_pledged (x0 : Nat) (x1 : Int) (M : xM) : xO := xb (fX11_needAccount x0 x1 M) (fun z1 M2 => xb (fX1_account (xr x0 1) x1 M2) (fun z3 M4 => (xret (M4 z3.toNat 6) M4)))
-- X11_limit
def fX11_limit (x0 : Nat) (x1 : Int) (M : xM) : xO := xb (fX11_needAccount x0 x1 M) (fun z1 M2 => xb (fX1_account (xr x0 1) x1 M2) (fun z3 M4 => xb (fX1_limitOf (xr x0 1) z3.toNat M4) (fun z5 M6 => (xret z5 M6))))
-- X11_isSound
def fX11_isSound (x0 : Nat) (x1 : Int) (M : xM) : xO := xb (fX11_needAccount x0 x1 M) (fun z1 M2 => xb (fX1_isFirm (xr x0 1) x1 M2) (fun z3 M4 => (xret z3 M4)))
-- X11_used
def fX11_used (x0 : Nat) (x1 : Int) (M : xM) : xO := xb (fX11_needAccount x0 x1 M) (fun z1 M2 => xb (fX1_account (xr x0 1) x1 M2) (fun z3 M4 => xb (fX0_freeCash z3.toNat M4) (fun z5 M6 => (if z5 < 0 then xb (fX1_limitOf (xr x0 1) z3.toNat M6) (fun z7 M8 => (if z7 = 0 then xnn (FP.dmul (9094988921128908188 : UInt64) (9094988921128908188 : UInt64)) ((xret (((FP.dmul (9094988921128908188 : UInt64) (9094988921128908188 : UInt64)) : UInt64).toNat : Int) M8)) else xnn (FP.ddiv (xl2d (w64 (-z5))) (xl2d z7)) ((xret (((FP.ddiv (xl2d (w64 (-z5))) (xl2d z7)) : UInt64).toNat : Int) M8)))) else (xret ((0 : UInt64).toNat : Int) M6)))))
-- X11_ledger
def fX11_ledger (x0 : Nat) (x1 : Int) (M : xM) : xO := xb (fX11_needAccount x0 x1 M) (fun z1 M2 => xb (fX1_account (xr x0 1) x1 M2) (fun z3 M4 => (xret (M4 z3.toNat 8) M4)))
-- X11_status
def fX11_status (x0 : Nat) (x1 : Int) (M : xM) : xO := xb (fX11_needInstruction x0 x1 M) (fun z1 M2 => xb (fX1_instruction (xr x0 1) x1 M2) (fun z3 M4 => (xret (M4 z3.toNat 9) M4)))
-- X11_tradeOf
def fX11_tradeOf (x0 : Nat) (x1 : Int) (M : xM) : xO := xb (fX11_needInstruction x0 x1 M) (fun z1 M2 => xb (fX1_instruction (xr x0 1) x1 M2) (fun z3 M4 => (xret (M4 z3.toNat 10) M4)))
-- X11_tradeUnits
def fX11_tradeUnits (x0 : Nat) (x1 : Int) (M : xM) : xO := xb (fX11_needTrade x0 x1 M) (fun z1 M2 => xb (fX1_trade (xr x0 1) x1 M2) (fun z3 M4 => (xret (M4 z3.toNat 6) M4)))
-- X11_tradeAmount
def fX11_tradeAmount (x0 : Nat) (x1 : Int) (M : xM) : xO := xb (fX11_needTrade x0 x1 M) (fun z1 M2 => xb (fX1_trade (xr x0 1) x1 M2) (fun z3 M4 => (xret (M4 z3.toNat 7) M4)))
-- X11_causer
def fX11_causer (x0 : Nat) (x1 : Int) (M : xM) : xO := xb (fX11_needTrade x0 x1 M) (fun z1 M2 => xb (fX1_trade (xr x0 1) x1 M2) (fun z3 M4 => xb (fX1_isDue (xr x0 1) z3.toNat M4) (fun z5 M6 => xb (fX11_needState z5 M6) (fun z7 M8 => xb (fX1_causerOf (xr x0 1) z3.toNat M8) (fun z9 M10 => (xret z9 M10))))))
-- X11_loans
def fX11_loans (x0 : Nat) (M : xM) : xO := (xret (M (xr x0 1) 14) M)
-- L_cell
def fL_cell (sl : Nat) (sx : Nat → Int32) (x1 : Int) (M : xM) : xO := (if ((sl : Nat) : Int) ≤ x1 then (xret (w32 ((w32 (2752637 * x1)) + 1499)) M) else xix x1 sl ((xret (sx x1.toNat).toInt M)))
-- L_low
def fL_low (x0 : Int) (x1 : Int) (M : xM) : xO := xnz x1 ((xret ((xand x0 2147483647) - Int.tdiv (xand x0 2147483647) x1 * x1) M))
-- L_opens
def fL_opens (x0 : Nat) (x1 : Int) (x2 : Int) (x3 : Int) (x4 : Int) (x5 : Int) (M : xM) : xO := xbc (fX11_open x0 x1 x2 x3 x4 x5 M) (fun z1 M2 => (xret z1 M2)) (fun e M3 => xcs e (xret (-2) M3) (xret (-3) M3) (xret (-4) M3))
-- L_issues
def fL_issues (x0 : Nat) (x1 : Int) (x2 : Int) (x3 : Int) (M : xM) : xO := xbc (fX11_issue x0 x1 0 x2 x3 100 M) (fun z1 M2 => (xret z1 M2)) (fun e M3 => xcs e (xret (-2) M3) (xret (-3) M3) (xret (-4) M3))
-- L_blocks
def fL_blocks (x0 : Nat) (x1 : Int) (x2 : Int) (x3 : Int) (M : xM) : xO := xbc (fX11_block x0 x1 x2 x3 M) (fun z1 M2 => (xret z1 M2)) (fun e M3 => xcs e (xret (-2) M3) (xret (-3) M3) (xret (-4) M3))
-- L_instructs
def fL_instructs (x0 : Nat) (x1 : Int) (x2 : Int) (x3 : Int) (x4 : Int) (x5 : Int) (x6 : Int) (x7 : Int) (x8 : Int) (M : xM) : xO := xbc (fL_low x5 10 M) (fun z1 M2 => xbc (fX11_instruct x0 x1 x2 x3 x4 x5 x6 x7 z1 x8 M2) (fun z3 M4 => (xret z3 M4)) (fun e M5 => xcs e (xret (-2) M5) (xret (-3) M5) (xret (-4) M5))) (fun _ _ => none)
-- L_cancels
def fL_cancels (x0 : Nat) (x1 : Int) (M : xM) : xO := xbc (fX11_cancel x0 x1 M) (fun z1 M2 => (if z1 = 0 then (xret 0 M2) else (xret 1 M2))) (fun e M3 => xcs e (xret (-2) M3) none (xret (-4) M3))
-- L_holds
def fL_holds (x0 : Nat) (x1 : Int) (M : xM) : xO := xbc (fX11_hold x0 x1 M) (fun z1 M2 => (if z1 = 0 then (xret 0 M2) else (xret 1 M2))) (fun e M3 => xcs e (xret (-2) M3) none (xret (-4) M3))
-- L_links
def fL_links (x0 : Nat) (x1 : Int) (x2 : Int) (x3 : Int) (M : xM) : xO := xbc (fX11_link x0 x1 x2 x3 M) (fun z1 M2 => (xret z1 M2)) (fun e M3 => xcs e (xret (-2) M3) (xret (-3) M3) (xret (-4) M3))
-- L_recalls
def fL_recalls (x0 : Nat) (x1 : Int) (M : xM) : xO := xbc (fX11_recall x0 x1 M) (fun z1 M2 => (xret z1 M2)) (fun e M3 => xcs e (xret (-2) M3) none (xret (-4) M3))
-- L_announces
def fL_announces (x0 : Nat) (x1 : Int) (x2 : Int) (x3 : Int) (x4 : Int) (x5 : Int) (M : xM) : xO := xbc (fX11_announce x0 x1 x2 x3 x4 20 x5 (w32 (x5 + 1)) M) (fun z1 M2 => (xret z1 M2)) (fun e M3 => xcs e (xret (-2) M3) (xret (-3) M3) (xret (-4) M3))
-- L_causers
def fL_causers (x0 : Nat) (x1 : Int) (M : xM) : xO := xbc (fX11_causer x0 x1 M) (fun z1 M2 => (xret z1 M2)) (fun e M3 => xcs e (xret (-2) M3) none (xret (-4) M3))
-- L_tell
def fL_tell_133 (x0 : Nat) (x1 : Nat) (x2 : Nat) : Nat → Int → xM → xO
  | 0, _, _ => none
  | n + 1, x3, M => (if (M x1 3) ≤ x3 then xb (fX11_today x0 M) (fun z1 M2 => xix 55 60 (xput x2 55 z1 M2 (fun M3 => xb (fX11_loans x0 M3) (fun z4 M5 => xix 56 60 (xput x2 56 z4 M5 (fun M6 => xb (fX11_best x0 M6) (fun z7 M8 => xix 57 60 (xput x2 57 z7 M8 (fun M9 => (xret ((x2 : Nat) : Int) M9)))))))))) else xb (fX11_tradeUnits x0 x3 M) (fun z10 M11 => xb (fX11_tradeAmount x0 x3 M11) (fun z12 M13 => xix (w32 (33 + x3)) 60 (xput x2 (w32 (33 + x3)).toNat (w64 ((w64 (1000000 * z10)) + z12)) M13 (fun M14 => ((fL_tell_133 x0 x1 x2 n) (w32 (x3 + 1)) M14))))))
def fL_tell_99 (x0 : Nat) (x1 : Nat) (x2 : Nat) : Nat → Int → xM → xO
  | 0, _, _ => none
  | n + 1, x3, M => (if (M x1 2) ≤ x3 then (fL_tell_133 x0 x1 x2 15 0 M) else xix 32 60 (xb (fX11_status x0 x3 M) (fun z1 M2 => xix 32 60 (xput x2 32 (w64 ((w64 (5 * (w64 (M x2 32)))) + z1)) M2 (fun M3 => ((fL_tell_99 x0 x1 x2 n) (w32 (x3 + 1)) M3))))))
def fL_tell_47 (rc7 : Int → xM → xO) (x0 : Nat) (x1 : Nat) (x2 : Nat) (x3 : Int) : Nat → Int → xM → xO
  | 0, _, _ => none
  | n + 1, x4, M => (if (M x1 1) ≤ x4 then (rc7 (w32 (x3 + 1)) M) else xb (fX11_units x0 x3 x4 M) (fun z2 M3 => xb (fX11_free x0 x3 x4 M3) (fun z4 M5 => xix (w32 ((w32 (18 + (w32 (2 * x3)))) + x4)) 60 (xput x2 (w32 ((w32 (18 + (w32 (2 * x3)))) + x4)).toNat (w64 ((w64 (1000000 * z2)) + z4)) M5 (fun M6 => ((fL_tell_47 rc7 x0 x1 x2 x3 n) (w32 (x4 + 1)) M6))))))
def fL_tell_7 (x0 : Nat) (x1 : Nat) (x2 : Nat) : Nat → Int → xM → xO
  | 0, _, _ => none
  | n + 1, x3, M => (if (M x1 0) ≤ x3 then (fL_tell_99 x0 x1 x2 29 0 M) else xb (fX11_cash x0 x3 M) (fun z1 M2 => xix x3 60 (xput x2 x3.toNat z1 M2 (fun M3 => xb (fX11_ledger x0 x3 M3) (fun z4 M5 => xix (w32 (6 + x3)) 60 (xput x2 (w32 (6 + x3)).toNat z4 M5 (fun M6 => xb (fX11_pledged x0 x3 M6) (fun z7 M8 => xix (w32 (12 + x3)) 60 (xput x2 (w32 (12 + x3)).toNat z7 M8 (fun M9 => (fL_tell_47 (fL_tell_7 x0 x1 x2 n) x0 x1 x2 x3 3 0 M9)))))))))))
def fL_tell (x0 : Nat) (x1 : Nat) (x2 : Nat) (M : xM) : xO := (fL_tell_7 x0 x1 x2 7 0 M)
-- L_same
def fL_same_2 (x0 : Nat) (x1 : Nat) : Nat → Int → xM → xO
  | 0, _, _ => none
  | n + 1, x2, M => (if 60 ≤ x2 then (xret 1 M) else xix x2 60 (xix x2 60 ((if (w64 (M x0 x2.toNat)) = (w64 (M x1 x2.toNat)) then ((fL_same_2 x0 x1 n) (w32 (x2 + 1)) M) else (xret 0 M)))))
def fL_same (x0 : Nat) (x1 : Nat) (M : xM) : xO := (fL_same_2 x0 x1 61 0 M)
-- L_cash
def fL_cash_5 (x0 : Nat) (x1 : Nat) : Nat → Int → Int → xM → xO
  | 0, _, _, _ => none
  | n + 1, x2, x4, M => (if (M x1 0) ≤ x4 then (xret x2 M) else xb (fX11_cash x0 x4 M) (fun z1 M2 => xlet (w64 (x2 + z1)) (fun y3 => ((fL_cash_5 x0 x1 n) y3 (w32 (x4 + 1)) M2))))
def fL_cash (x0 : Nat) (x1 : Nat) (M : xM) : xO := (fL_cash_5 x0 x1 7 0 0 M)
-- L_asks
def fL_asks_336 (rc264 : Int → xM → xO) (x0 : Nat) (x1 : Nat) (x2 : Int) (x4 : Int) (M : xM) : xO := (rc264 (w32 (x4 + 1)) M)
def fL_asks_324 (rc264 : Int → xM → xO) (x0 : Nat) (x1 : Nat) (x2 : Int) (x4 : Int) (x5 : Int) (x6 : Int) (M : xM) : xO := (if x6 = 0 then (if x5 < 0 then (fL_asks_336 rc264 x0 x1 x2 x4 M) else (xret 0 M)) else (fL_asks_336 rc264 x0 x1 x2 x4 M))
def fL_asks_313 (rc264 : Int → xM → xO) (x0 : Nat) (x1 : Nat) (x2 : Int) (x4 : Int) (x5 : Int) (x6 : Int) (M : xM) : xO := (if x6 = 2 then (if x5 < 0 then (xret 0 M) else (fL_asks_324 rc264 x0 x1 x2 x4 x5 x6 M)) else (fL_asks_324 rc264 x0 x1 x2 x4 x5 x6 M))
def fL_asks_264 (x0 : Nat) (x1 : Nat) (x2 : Int) : Nat → Int → xM → xO
  | 0, _, _ => none
  | n + 1, x4, M => (if (M x1 2) ≤ x4 then (if x2 = 0 then xb (fX11_best x0 M) (fun z1 M2 => xb (fX11_bestByAll x0 M2) (fun z3 M4 => (if z1 = z3 then xbc (fL_causers x0 (M4 x1 3) M4) (fun z5 M6 => (if z5 = (-2) then (xret 1 M6) else (xret 0 M6))) (fun _ _ => none) else (xret 0 M4)))) else (xret 0 M)) else xb (fX11_tradeOf x0 x4 M) (fun z7 M8 => xb (fX11_status x0 x4 M8) (fun z9 M10 => (if z7 < (-1) then (xret 0 M10) else (if (M10 x1 3) ≤ z7 then (xret 0 M10) else (if z9 = 1 then (if z7 < 0 then (xret 0 M10) else (fL_asks_313 (fL_asks_264 x0 x1 x2 n) x0 x1 x2 x4 z7 z9 M10)) else (fL_asks_313 (fL_asks_264 x0 x1 x2 n) x0 x1 x2 x4 z7 z9 M10)))))))
def fL_asks_214 (rc200 : Int → xM → xO) (x0 : Nat) (x1 : Nat) (x2 : Int) (x4 : Int) : Nat → Int → Int → xM → xO
  | 0, _, _, _ => none
  | n + 1, x5, x7, M => (if (M x1 0) ≤ x7 then xb (fX11_out x0 x4 M) (fun z1 M2 => (if x5 = z1 then (rc200 (w32 (x4 + 1)) M2) else (xret 0 M2))) else xb (fX11_units x0 x7 x4 M) (fun z4 M5 => xlet (w64 (x5 + z4)) (fun y6 => ((fL_asks_214 rc200 x0 x1 x2 x4 n) y6 (w32 (x7 + 1)) M5))))
def fL_asks_200 (x0 : Nat) (x1 : Nat) (x2 : Int) : Nat → Int → xM → xO
  | 0, _, _ => none
  | n + 1, x4, M => (if (M x1 1) ≤ x4 then (fL_asks_264 x0 x1 x2 29 0 M) else (fL_asks_214 (fL_asks_200 x0 x1 x2 n) x0 x1 x2 x4 7 0 0 M))
def fL_asks_191 (rc5 : Int → Int → xM → xO) (x0 : Nat) (x1 : Nat) (x2 : Int) (x4 : Int) (M : xM) : xO := (rc5 x2 (w32 (x4 + 1)) M)
def fL_asks_162 (rc5 : Int → Int → xM → xO) (x0 : Nat) (x1 : Nat) (x2 : Int) (x4 : Int) (M : xM) : xO := xb (fX11_cash x0 x4 M) (fun z1 M2 => xb (fX11_pledged x0 x4 M2) (fun z3 M4 => (if z1 < z3 then (fL_asks_191 rc5 x0 x1 x2 x4 M4) else xb (fX11_used x0 x4 M4) (fun z5 M6 => (if (xdcl (UInt64.ofNat z5.toNat) 0) = 0 then (fL_asks_191 rc5 x0 x1 x2 x4 M6) else (xret 0 M6))))))
def fL_asks_85 (rc57 : Int → Int → xM → xO) (x0 : Nat) (x1 : Nat) (x2 : Int) (x4 : Int) (x6 : Int) (s0 : Int) (s1 : Int) (M : xM) : xO := xb (fX11_free x0 x4 x6 M) (fun z1 M2 => xb (fX11_units x0 x4 x6 M2) (fun z3 M4 => (if z3 < z1 then (xret 0 M4) else xb (fX11_units x0 x4 x6 M4) (fun z5 M6 => (if 0 ≤ z5 then (rc57 (xand s1 s0) (w32 (x6 + 1)) M6) else (xret 0 M6))))))
def fL_asks_57 (rc5 : Int → Int → xM → xO) (x0 : Nat) (x1 : Nat) (x2 : Int) (x4 : Int) : Nat → Int → Int → xM → xO
  | 0, _, _, _ => none
  | n + 1, x5, x6, M => (if (M x1 1) ≤ x6 then xb (fX11_isSound x0 x4 M) (fun z1 M2 => (if z1 = x5 then xb (fX11_used x0 x4 M2) (fun z3 M4 => (if 0 ≤ (xdcg (UInt64.ofNat z3.toNat) 0) then (fL_asks_162 rc5 x0 x1 x2 x4 M4) else xb (fX11_limit x0 x4 M4) (fun z5 M6 => (if 0 ≤ z5 then (xret 0 M6) else (fL_asks_162 rc5 x0 x1 x2 x4 M6))))) else (xret 0 M2))) else xb (fX11_free x0 x4 x6 M) (fun z7 M8 => (if z7 < 0 then (fL_asks_85 (fL_asks_57 rc5 x0 x1 x2 x4 n) x0 x1 x2 x4 x6 0 x5 M8) else (fL_asks_85 (fL_asks_57 rc5 x0 x1 x2 x4 n) x0 x1 x2 x4 x6 1 x5 M8))))
def fL_asks_52 (rc5 : Int → Int → xM → xO) (x0 : Nat) (x1 : Nat) (x2 : Int) (x4 : Int) (s0 : Int) (M : xM) : xO := (fL_asks_57 rc5 x0 x1 x2 x4 3 s0 0 M)
def fL_asks_5 (x0 : Nat) (x1 : Nat) : Nat → Int → Int → xM → xO
  | 0, _, _, _ => none
  | n + 1, x2, x4, M => (if (M x1 0) ≤ x4 then (fL_asks_200 x0 x1 x2 3 0 M) else xb (fX11_ledger x0 x4 M) (fun z1 M2 => xlet (w64 (x2 + z1)) (fun y3 => xb (fX11_cash x0 x4 M2) (fun z4 M5 => xb (fX11_pledged x0 x4 M5) (fun z6 M7 => xb (fX11_limit x0 x4 M7) (fun z8 M9 => (if (w64 ((w64 (z4 - z6)) + z8)) < 0 then (fL_asks_52 (fL_asks_5 x0 x1 n) x0 x1 y3 x4 0 M9) else (fL_asks_52 (fL_asks_5 x0 x1 n) x0 x1 y3 x4 1 M9))))))))
def fL_asks (x0 : Nat) (x1 : Nat) (M : xM) : xO := (fL_asks_5 x0 x1 7 0 0 M)
-- L_instruct
def fL_instruct_269 (x10 : Int) (s0 : Int) (s1 : Int) (s2 : Int) (s3 : Nat) (M : xM) : xO := xix s2 5 (xput s3 s2.toNat (w32 (s1 + s0)) M (fun M1 => (xret x10 M1)))
def fL_instruct_198 (x0 : Nat) (x1 : Nat) (x2 : Int) (x3 : Int) (x4 : Int) (x5 : Int) (x6 : Int) (x7 : Int) (x8 : Int) (x9 : Int) (x10 : Int) (s0 : Int) (s1 : Int) (s2 : Int) (s3 : Nat) (M : xM) : xO := xix s2 5 (xput s3 s2.toNat (w32 (s1 + s0)) M (fun M1 => xb (fL_low (xshr x2 13) 4 M1) (fun z2 M3 => xbc (fL_instructs x0 x4 x3 0 x5 x6 (w32 (x7 + z2)) x8 x9 M3) (fun z4 M5 => (if z4 = (w32 (x10 + 1)) then xput x1 2 (w32 ((M5 x1 2) + 1)) M5 (fun M6 => xb (fX11_tradeOf x0 z4 M6) (fun z7 M8 => (if z7 = (M8 x1 3) then (fL_instruct_269 x10 1 (M6 x1 3) 3 x1 M8) else (fL_instruct_269 x10 0 (M6 x1 3) 3 x1 M8)))) else (xret (-100) M5))) (fun _ _ => none))))
def fL_instruct_143 (x0 : Nat) (x1 : Nat) (x2 : Int) (x3 : Int) (x4 : Int) (x5 : Int) (x6 : Int) (x7 : Int) (x8 : Int) (s0 : Int) (M : xM) : xO := xbc (fL_instructs x0 x3 x4 1 x5 x6 x7 x8 s0 M) (fun z1 M2 => (if z1 < 0 then (xret z1 M2) else xput x1 2 (w32 ((M2 x1 2) + 1)) M2 (fun M3 => xb (fX11_tradeOf x0 z1 M3) (fun z4 M5 => (if z4 = (M5 x1 3) then (fL_instruct_198 x0 x1 x2 x3 x4 x5 x6 x7 x8 s0 z1 1 (M3 x1 3) 3 x1 M5) else (fL_instruct_198 x0 x1 x2 x3 x4 x5 x6 x7 x8 s0 z1 0 (M3 x1 3) 3 x1 M5)))))) (fun _ _ => none)
def fL_instruct (x0 : Nat) (x1 : Nat) (x2 : Int) (M : xM) : xO := (if 28 ≤ (M x1 2) then (xret (-9) M) else (if (M x1 3) = 14 then (xret (-9) M) else xb (fL_low x2 (M x1 0) M) (fun z1 M2 => xb (fL_low (xshr x2 3) (w32 ((M2 x1 0) + 1)) M2) (fun z3 M4 => xb (fL_low (xshr x2 9) 31 M4) (fun z5 M6 => xlet (w32 (z3 - (Int.tdiv z5 30))) (fun y7 => xb (fL_low (xshr x2 5) (M6 x1 1) M6) (fun z8 M9 => xb (fL_low (xshr x2 6) 60 M9) (fun z10 M11 => xlet (w32 (1 + z10)) (fun y12 => xb (fL_low (xshr x2 8) 900 M11) (fun z13 M14 => xb (fX11_today x0 M14) (fun z15 M16 => xb (fL_low (xshr x2 10) 3 M16) (fun z17 M18 => xb (fL_low (xshr x2 12) 19 M18) (fun z19 M20 => xlet (w32 ((w32 (z15 + z17)) - (Int.tdiv z19 18))) (fun y21 => xb (fL_low (xshr x2 11) 3 M20) (fun z22 M23 => (if z22 = 0 then xb (fL_low (xshr x2 12) 9 M23) (fun z24 M25 => (fL_instruct_143 x0 x1 x2 z1 y7 z8 y12 z13 y21 (w32 (1 + z24)) M25)) else (fL_instruct_143 x0 x1 x2 z1 y7 z8 y12 z13 y21 0 M23)))))))))))))))))
-- L_act
def fL_act_297 (x0 : Nat) (x1 : Nat) (x2 : Int) (M : xM) : xO := xb (fL_low x2 (M x1 1) M) (fun z1 M2 => xb (fL_low (xshr x2 2) 40 M2) (fun z3 M4 => xb (fX11_setPrice x0 z1 (w32 (1 + z3)) M4) (fun z5 M6 => (xret z5 M6))))
def fL_act_292 (x6 : Int) (s0 : Int) (s1 : Int) (s2 : Int) (s3 : Nat) (M : xM) : xO := xix s2 5 (xput s3 s2.toNat (w32 (s1 + s0)) M (fun M1 => (xret x6 M1)))
def fL_act_276 (x1 : Nat) (s0 : Int) (M : xM) : xO := (if 0 ≤ s0 then (fL_act_292 s0 1 (M x1 4) 4 x1 M) else (fL_act_292 s0 0 (M x1 4) 4 x1 M))
def fL_act_212 (x0 : Nat) (x1 : Nat) (x2 : Int) (M : xM) : xO := (if (M x1 4) = 5 then (fL_act_276 x1 (-9) M) else xb (fL_low x2 4 M) (fun z1 M2 => xb (fL_low (xshr x2 2) (w32 ((M2 x1 1) + 1)) M2) (fun z3 M4 => xb (fL_low (xshr x2 4) 3 M4) (fun z5 M6 => xb (fL_low (xshr x2 6) 3 M6) (fun z7 M8 => xb (fX11_today x0 M8) (fun z9 M10 => xb (fL_low (xshr x2 8) 2 M10) (fun z11 M12 => xbc (fL_announces x0 z1 z3 (w32 (1 + z5)) (w32 (1 + z7)) (w32 (z9 + z11)) M12) (fun z13 M14 => (fL_act_276 x1 z13 M14)) (fun _ _ => none))))))))
def fL_act_196 (x0 : Nat) (x2 : Int) (M : xM) : xO := xb (fX11_loans x0 M) (fun z1 M2 => xb (fL_low x2 (w32 (z1 + 1)) M2) (fun z3 M4 => xbc (fL_recalls x0 z3 M4) (fun z5 M6 => (xret (w32 z5) M6)) (fun _ _ => none)))
def fL_act_192 (s0 : Int) (s1 : Int) (s2 : Int) (s3 : Nat) (M : xM) : xO := xbc (fL_links s3 s2 s1 s0 M) (fun z1 M2 => (xret z1 M2)) (fun _ _ => none)
def fL_act_152 (x0 : Nat) (x1 : Nat) (x2 : Int) (M : xM) : xO := xb (fL_low (xshr x2 3) (w32 ((M x1 3) + 1)) M) (fun z1 M2 => xb (fL_low (xshr x2 6) (w32 ((M2 x1 3) + 1)) M2) (fun z3 M4 => xb (fL_low (xshr x2 9) 2 M4) (fun z5 M6 => (if z5 = 0 then (fL_act_192 1 z3 z1 x0 M6) else (fL_act_192 0 z3 z1 x0 M6)))))
def fL_act_125 (x0 : Nat) (x2 : Int) (x5 : Int) (M : xM) : xO := xb (fL_low (xshr x2 8) 3 M) (fun z1 M2 => (if z1 = 0 then xbc (fL_cancels x0 x5 M2) (fun z3 M4 => (xret z3 M4)) (fun _ _ => none) else xbc (fL_holds x0 x5 M2) (fun z5 M6 => (xret z5 M6)) (fun _ _ => none)))
def fL_act_95 (x0 : Nat) (x1 : Nat) (x2 : Int) (x4 : Int) (M : xM) : xO := xb (fL_low (xshr x2 4) (w32 ((M x1 1) + 1)) M) (fun z1 M2 => xb (fL_low (xshr x2 6) 40 M2) (fun z3 M4 => xbc (fL_blocks x0 x4 z1 (w32 (z3 - 1)) M4) (fun z5 M6 => (xret (w32 z5) M6)) (fun _ _ => none)))
def fL_act_88 (x0 : Nat) (x1 : Nat) (x2 : Int) (M : xM) : xO := xb (fL_instruct x0 x1 x2 M) (fun z1 M2 => (xret z1 M2))
def fL_act (x0 : Nat) (x1 : Nat) (x2 : Int) (x3 : Int) (M : xM) : xO := xb (fL_low x2 (w32 ((M x1 0) + 1)) M) (fun z1 M2 => xb (fL_low (xshr x2 9) 31 M2) (fun z3 M4 => xlet (w32 (z1 - (Int.tdiv z3 30))) (fun y5 => xb (fL_low (xshr x2 2) (w32 ((M4 x1 2) + 1)) M4) (fun z6 M7 => xsw x3 0 8 (fL_act_297 x0 x1 x2 M7) [(fL_act_88 x0 x1 x2 M7), (fL_act_88 x0 x1 x2 M7), (fL_act_88 x0 x1 x2 M7), (fL_act_88 x0 x1 x2 M7), (fL_act_95 x0 x1 x2 y5 M7), (fL_act_125 x0 x2 z6 M7), (fL_act_152 x0 x1 x2 M7), (fL_act_196 x0 x2 M7), (fL_act_212 x0 x1 x2 M7)]))))
