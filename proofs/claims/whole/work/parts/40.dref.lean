def D_M_thrown (f : Nat) (s : rx_S) : Option (Int32 × rx_S) :=
  some (s 0 0, s)
def D_M_in (f : Nat) (l0 : Int32) (l1 : Int32) (l2 : Int32) (s : rx_S) : Option (Int32 × rx_S) :=
  oj (fun (x2 : Int32) => ozb x2 (some (x2, s))) fun J1 => oj (fun (_ : Unit) => J1 (nI 0)) fun J3 => if l0 < l1 then J3 () else if l2 < l0 then J3 () else J1 (nI 1)
def D_M_unit (f : Nat) (l1 : Int32) (l2 : Int32) (s : rx_S) : Option (Int32 × rx_S) :=
  ob (D_M_in f l1 (nI 0) (nI 5) (rx_up s 0 0 (nI 0))) fun x1 s2 => oj (fun (s4 : rx_S) => some (nI 0, s4)) fun J3 => if x1 = 0 then J3 s2 else ob (D_M_in f l2 (nI 0) (nI 2) s2) fun x5 s6 => if x5 = 0 then J3 s6 else og 6 l1 fun j7 => if (s6 2 j7) = ((-1)) then some (nI 1, rx_up s6 1 j7 l2) else J3 s6
def D_M_isOpen (f : Nat) (l1 : Int32) (s : rx_S) : Option (Int32 × rx_S) :=
  ob (D_M_in f l1 (nI 0) (nI 3) s) fun x1 s2 => oj (fun (x4 : Int32) => ozb x4 (some (x4, s2))) fun J3 => oj (fun (_ : Unit) => J3 (nI 0)) fun J5 => if x1 = 0 then J5 () else og 4 l1 fun j6 => if (s2 8 j6) = 0 then J3 (nI 1) else J5 ()
def D_M_role (f : Nat) (l1 : Int32) (l2 : Int32) (l3 : Int32) (s : rx_S) : Option (Int32 × rx_S) :=
  ob (D_M_isOpen f l1 (rx_up s 0 0 (nI 0))) fun x1 s2 => oj (fun (s4 : rx_S) => some (nI 0, s4)) fun J3 => if x1 = 0 then J3 s2 else ob (D_M_in f l2 (nI 0) (nI 2) s2) fun x5 s6 => if x5 = 0 then J3 s6 else ob (D_M_in f l3 (nI 0) (nI 3) s6) fun x7 s8 => if x7 = 0 then J3 s8 else og 12 (((nI 3) * l1) + l2) fun j9 => some (nI 1, rx_up s8 6 j9 l3)
def D_M_step (f : Nat) (l1 : Int32) (l2 : Int32) (l3 : Int32) (l4 : Int32) (l5 : Int32) (s : rx_S) : Option (Int32 × rx_S) :=
  ob (D_M_isOpen f l1 (rx_up s 0 0 (nI 0))) fun x1 s2 => oj (fun (s4 : rx_S) => some ((-1), s4)) fun J3 => if x1 = 0 then J3 s2 else ob (D_M_in f l2 (nI 0) (nI 9) s2) fun x5 s6 => if x5 = 0 then J3 s6 else og 4 l1 fun j7 => if (s6 7 j7) = (nI 12) then J3 s6 else og 48 (((nI 12) * l1) + (s6 7 j7)) fun j8 => some (((rx_up (rx_up (rx_up (rx_up (rx_up (rx_up (rx_up s6 9 j8 l2) 10 j8 l3) 11 j8 l4) 12 j8 l5) 13 j8 ((-1))) 14 j8 ((-1))) 7 j7 (((rx_up (rx_up (rx_up (rx_up (rx_up (rx_up s6 9 j8 l2) 10 j8 l3) 11 j8 l4) 12 j8 l5) 13 j8 ((-1))) 14 j8 ((-1))) 7 j7) + (nI 1))) 7 j7) - (nI 1), rx_up (rx_up (rx_up (rx_up (rx_up (rx_up (rx_up s6 9 j8 l2) 10 j8 l3) 11 j8 l4) 12 j8 l5) 13 j8 ((-1))) 14 j8 ((-1))) 7 j7 (((rx_up (rx_up (rx_up (rx_up (rx_up (rx_up s6 9 j8 l2) 10 j8 l3) 11 j8 l4) 12 j8 l5) 13 j8 ((-1))) 14 j8 ((-1))) 7 j7) + (nI 1)))
def D_M_link (f : Nat) (l1 : Int32) (l2 : Int32) (l3 : Int32) (l4 : Int32) (s : rx_S) : Option (Int32 × rx_S) :=
  ob (D_M_isOpen f l1 (rx_up s 0 0 (nI 0))) fun x1 s2 => oj (fun (s4 : rx_S) => some (nI 0, s4)) fun J3 => if x1 = 0 then J3 s2 else og 4 l1 fun j5 => ob (D_M_in f l2 (nI 0) ((s2 7 j5) - (nI 1)) s2) fun x6 s7 => if x6 = 0 then J3 s7 else og 48 (((nI 12) * l1) + l2) fun j8 => some (nI 1, rx_up (rx_up s7 13 j8 l3) 14 j8 l4)
def D_M_goes (f : Nat) (l1 : Int32) (l2 : Int32) (s : rx_S) : Option (Int32 × rx_S) :=
  oj (fun (x2 : Int32) => oj (fun (x4 : Int32) => ozb x4 (some (x4, rx_up s 0 0 x2))) fun J3 => if ((rx_up s 0 0 x2) 0 0) = 0 then J3 (nI 1) else J3 (nI 0)) fun J1 => if l1 = 0 then J1 (nI 1) else if l2 = 0 then J1 (nI 2) else J1 (nI 0)
def D_M_hasClass (f : Nat) (l1 : Int32) (l2 : Int32) (s : rx_S) : Option (Int32 × rx_S) :=
  ob (D_M_in f l2 (nI 0) (nI 2) s) fun x1 s2 => oj (fun (x4 : Int32) => ozb x4 (some (x4, s2))) fun J3 => oj (fun (_ : Unit) => J3 (nI 0)) fun J5 => if x1 = 0 then J5 () else og 12 (((nI 3) * l1) + l2) fun j6 => if (nI 3) ≤ (s2 6 j6) then J5 () else J3 (nI 1)
def D_M_hasOther (f : Nat) (l1 : Int32) (s : rx_S) : Option (Int32 × rx_S) :=
  oj (fun (x2 : Int32) => ozb x2 (some (x2, s))) fun J1 => oj (fun (_ : Unit) => J1 (nI 1)) fun J3 => if l1 = (nI 5) then J3 () else if l1 = (nI 7) then J3 () else if l1 = (nI 8) then J3 () else J1 (nI 0)
def D_M_isNumbered (f : Nat) (l1 : Int32) (s : rx_S) : Option (Int32 × rx_S) :=
  og 48 l1 fun j1 => if (s 9 j1) = nI 0 then ob (D_M_in f (s 11 j1) (nI 0) (nI 500) s) fun x2 s3 => oj (fun (x5 : Int32) (s6 : rx_S) => ozb x5 (some (x5, s6))) fun J4 => oj (fun (s8 : rx_S) => J4 (nI 0) s8) fun J7 => if x2 = 0 then J7 s3 else ob (D_M_in f (s3 12 j1) (nI 0) (nI 500) s3) fun x9 s10 => if x9 = 0 then J7 s10 else J4 (nI 1) s10 else if (s 9 j1) = nI 1 then ob (D_M_in f (s 11 j1) (nI 1) (nI 20) s) fun x11 s12 => ozb x11 (some (x11, s12)) else if (s 9 j1) = nI 2 then oj (fun (x14 : Int32) (s15 : rx_S) => ozb x14 (some (x14, s15))) fun J13 => oj (fun (s17 : rx_S) => J13 (nI 0) s17) fun J16 => if (s 11 j1) = (s 10 j1) then J16 s else ob (D_M_in f (s 12 j1) (nI 1) (nI 100) s) fun x18 s19 => if x18 = 0 then J16 s19 else J13 (nI 1) s19 else if (s 9 j1) = nI 3 then ob (D_M_in f (s 11 j1) (nI 1) (nI 20) s) fun x20 s21 => ozb x20 (some (x20, s21)) else if (s 9 j1) = nI 4 then ob (D_M_in f (s 11 j1) (nI 0) (nI 3) s) fun x22 s23 => ozb x22 (some (x22, s23)) else if (s 9 j1) = nI 5 then some (nI 1, s) else if (s 9 j1) = nI 6 then some (nI 1, s) else if (s 9 j1) = nI 7 then ob (D_M_in f (s 10 j1) (nI 0) (nI 3) s) fun x24 s25 => ozb x24 (some (x24, s25)) else if (s 9 j1) = nI 8 then ob (D_M_in f (s 10 j1) (nI 1) (nI 5) s) fun x26 s27 => ozb x26 (some (x26, s27)) else some (nI 1, s)
def D_M_isSound (f : Nat) (l1 : Int32) (l2 : Int32) (s : rx_S) : Option (Int32 × rx_S) :=
  og 48 (((nI 12) * l1) + l2) fun j1 => og 4 l1 fun j2 => oj (fun (x4 : Int32) (s5 : rx_S) => oj (fun (x7 : Int32) (s8 : rx_S) => oj (fun (x10 : Int32) (s11 : rx_S) => ob (D_M_isNumbered f (((nI 12) * l1) + l2) s11) fun x12 s13 => oj (fun (x15 : Int32) => ozb x15 (some (x15, s13))) fun J14 => oj (fun (_ : Unit) => J14 (nI 0)) fun J16 => if x12 = 0 then J16 () else if x4 = 0 then J16 () else if x7 = 0 then J16 () else if x10 = 0 then J16 () else J14 (nI 1)) fun J9 => if (s 9 j1) = (nI 8) then ob (D_M_in f (s8 14 j1) (nI 0) (l2 - (nI 1)) s8) fun x17 s18 => J9 x17 s18 else ob (D_M_hasOther f (s 9 j1) s8) fun x19 s20 => oj (fun (s22 : rx_S) => J9 (nI 1) s22) fun J21 => if x19 = 0 then J21 s20 else ob (D_M_in f (s20 14 j1) (l2 + (nI 1)) ((s 7 j2) - (nI 1)) s20) fun x23 s24 => if x23 = 0 then J9 (nI 0) s24 else J21 s24) fun J6 => oj (fun (s26 : rx_S) => J6 (nI 1) s26) fun J25 => if (s 9 j1) = (nI 9) then J25 s5 else ob (D_M_in f (s5 13 j1) (l2 + (nI 1)) ((s 7 j2) - (nI 1)) s5) fun x27 s28 => if x27 = 0 then J6 (nI 0) s28 else J25 s28) fun J3 => oj (fun (s30 : rx_S) => J3 (nI 1) s30) fun J29 => if (nI 4) < (s 9 j1) then J29 s else ob (D_M_hasClass f l1 (s 10 j1) s) fun x31 s32 => oj (fun (s34 : rx_S) => J3 (nI 0) s34) fun J33 => if x31 = 0 then J33 s32 else if (s 9 j1) = (nI 2) then ob (D_M_hasClass f l1 (s32 11 j1) s32) fun x35 s36 => if x35 = 0 then J33 s36 else J29 s36 else J29 s32
def D_M_isWhole_2 (f : Nat) (l1 : Int32) (k29 : rx_S → Option (Int32 × rx_S)) : Nat → Int32 → rx_S → Option (Int32 × rx_S)
  | 0, _, _ => none
  | n + 1, l2, s =>
    if (nI 12) ≤ l2 then k29 s else oj (fun (x2 : Int32) => og 12 l2 fun j3 => ozb x2 <| D_M_isWhole_2 f l1 k29 n (l2 + nI 1) (rx_up s 47 j3 x2)) fun J1 => if l2 = 0 then J1 (nI 1) else J1 (nI 0)
def D_M_isWhole_43 (f : Nat) (l1 : Int32) (l2 : Int32) (k137 : rx_S → Option (Int32 × rx_S)) : Nat → Int32 → rx_S → Option (Int32 × rx_S)
  | 0, _, _ => none
  | n + 1, l3, s =>
    og 4 l1 fun j6 => if (s 7 j6) ≤ l3 then k137 s else og 12 l3 fun j7 => oj (fun (s9 : rx_S) => oj (fun (s11 : rx_S) => D_M_isWhole_43 f l1 l2 k137 n (l3 + nI 1) s11) fun J10 => if (s9 47 j7) = 0 then J10 s9 else og 48 (((nI 12) * l1) + l3) fun j12 => ob (D_M_hasOther f (s9 9 j12) s9) fun x13 s14 => if x13 = 0 then J10 s14 else og 12 (s14 14 j12) fun j15 => J10 (rx_up s14 47 j15 (nI 1))) fun J8 => if (s 47 j7) = 0 then J8 s else og 48 (((nI 12) * l1) + l3) fun j16 => if (s 9 j16) = (nI 9) then J8 s else og 12 (s 13 j16) fun j17 => J8 (rx_up s 47 j17 (nI 1))
def D_M_isWhole_31 (f : Nat) (l1 : Int32) (k143 : rx_S → Option (Int32 × rx_S)) : Nat → Int32 → rx_S → Option (Int32 × rx_S)
  | 0, _, _ => none
  | n + 1, l2, s =>
    og 4 l1 fun j5 => if (s 7 j5) ≤ l2 then k143 s else D_M_isWhole_43 f l1 l2 (fun  (s18 : rx_S) => D_M_isWhole_31 f l1 k143 n (l2 + nI 1) s18) f (nI 0) s
def D_M_isWhole_147 (f : Nat) (l1 : Int32) : Nat → Int32 → Int32 → rx_S → Option (Int32 × rx_S)
  | 0, _, _, _ => none
  | n + 1, l2, l3, s =>
    og 4 l1 fun j20 => if (s 7 j20) ≤ l3 then ozb l2 (some (l2, s)) else oj (fun (x22 : Int32) => D_M_isWhole_147 f l1 n x22 (l3 + nI 1) s) fun J21 => oj (fun (_ : Unit) => J21 (nI 0)) fun J23 => if l2 = 0 then J23 () else og 12 l3 fun j24 => if (s 47 j24) = 0 then J23 () else J21 (nI 1)
def D_M_isWhole (f : Nat) (l1 : Int32) (s : rx_S) : Option (Int32 × rx_S) :=
  D_M_isWhole_2 f l1 (fun  (s4 : rx_S) => D_M_isWhole_31 f l1 (fun  (s19 : rx_S) => D_M_isWhole_147 f l1 f (nI 1) (nI 0) s19) f (nI 0) s4) f (nI 0) s
def D_M_enters (f : Nat) (l1 : Int32) (l2 : Int32) (l3 : Int32) (s : rx_S) : Option (Int32 × rx_S) :=
  og 48 (((nI 12) * l1) + l2) fun j1 => if (s 9 j1) = (nI 6) then oj (fun (_ : Unit) => oj (fun (x4 : Int32) => ozb x4 (some (x4, s))) fun J3 => if l3 = 0 then J3 (nI 0) else J3 (nI 1)) fun J2 => if l3 = 0 then J2 () else og 12 l2 fun j5 => if (s 42 j5) = l3 then J2 () else if (s 43 j5) = l3 then J2 () else if (s 42 j5) = ((-1)) then some (nI 1, rx_up s 42 j5 l3) else oj (fun (x7 : Int32) => od (nI 2) <| og 12 ((l3 - (nI 1)) / (nI 2)) fun j8 => ozb x7 (some (x7, rx_up (rx_up s 43 j5 l3) 41 j5 ((rx_up s 43 j5 l3) 41 j8)))) fun J6 => oj (fun (_ : Unit) => J6 (nI 0)) fun J9 => if (s 43 j5) = ((-1)) then od (nI 2) <| od (nI 2) <| if (((s 42 j5) - (nI 1)) / (nI 2)) = ((l3 - (nI 1)) / (nI 2)) then J6 (nI 1) else J9 () else J9 () else og 12 l2 fun j10 => oj (fun (x12 : Int32) => ozb x12 (some (x12, rx_up s 41 j10 l3))) fun J11 => oj (fun (_ : Unit) => J11 (nI 1)) fun J13 => if (s 41 j10) = ((-1)) then J13 () else if (s 41 j10) = l3 then J13 () else J11 (nI 0)
def D_M_leads (f : Nat) (l1 : Int32) (l2 : Int32) (s : rx_S) : Option (Int32 × rx_S) :=
  og 48 (((nI 12) * l1) + l2) fun j1 => if (s 9 j1) = (nI 9) then og 12 l2 fun j2 => oj (fun (x4 : Int32) => ozb x4 (some (x4, s))) fun J3 => if (s 41 j2) = 0 then J3 (nI 1) else J3 (nI 0) else if (s 9 j1) = (nI 5) then og 48 (((nI 12) * l1) + (s 13 j1)) fun j5 => oj (fun (x7 : Int32) => oj (fun (x9 : Int32) (s10 : rx_S) => ozb x9 (some (x9, s10))) fun J8 => oj (fun (s12 : rx_S) => J8 (nI 0) s12) fun J11 => if x7 = 0 then J11 s else ob (D_M_enters f l1 (s 13 j1) ((nI 1) + ((nI 2) * l2)) s) fun x13 s14 => if x13 = 0 then J11 s14 else ob (D_M_enters f l1 (s14 14 j1) ((nI 2) + ((nI 2) * l2)) s14) fun x15 s16 => if x15 = 0 then J11 s16 else J8 (nI 1) s16) fun J6 => oj (fun (_ : Unit) => J6 (nI 0)) fun J17 => if (s 9 j5) = (nI 6) then J17 () else og 48 (((nI 12) * l1) + (s 14 j1)) fun j18 => if (s 9 j18) = (nI 6) then J17 () else J6 (nI 1) else og 12 l2 fun j19 => ob (D_M_enters f l1 (s 13 j1) (s 41 j19) s) fun x20 s21 => oj (fun (x23 : Int32) (s24 : rx_S) => ozb x23 (some (x23, s24))) fun J22 => oj (fun (s26 : rx_S) => J22 (nI 0) s26) fun J25 => if x20 = 0 then J25 s21 else ob (D_M_hasOther f (s 9 j1) s21) fun x27 s28 => oj (fun (s30 : rx_S) => J22 (nI 1) s30) fun J29 => if x27 = 0 then J29 s28 else ob (D_M_enters f l1 (s28 14 j1) (s28 41 j19) s28) fun x31 s32 => if x31 = 0 then J25 s32 else J29 s32
def D_M_branches_2 (f : Nat) (l1 : Int32) (k35 : rx_S → Option (Int32 × rx_S)) : Nat → Int32 → rx_S → Option (Int32 × rx_S)
  | 0, _, _ => none
  | n + 1, l2, s =>
    if (nI 12) ≤ l2 then k35 s else og 12 l2 fun j1 => D_M_branches_2 f l1 k35 n (l2 + nI 1) (rx_up (rx_up (rx_up s 41 j1 ((-1))) 42 j1 ((-1))) 43 j1 ((-1)))
def D_M_branches_81 (f : Nat) (l1 : Int32) (l3 : Int32) (k129 : Int32 → rx_S → Option (Int32 × rx_S)) : Nat → Int32 → Int32 → rx_S → Option (Int32 × rx_S)
  | 0, _, _, _ => none
  | n + 1, l2, l4, s =>
    og 4 l1 fun j8 => if (s 7 j8) ≤ l4 then k129 l2 s else if l2 = 0 then k129 l2 s else og 12 l4 fun j9 => oj (fun (x11 : Int32) (s12 : rx_S) => D_M_branches_81 f l1 l3 k129 n x11 (l4 + nI 1) s12) fun J10 => oj (fun (s14 : rx_S) => J10 (nI 1) s14) fun J13 => if (s 41 j9) = ((-1)) then J13 s else ob (D_M_leads f l1 l4 s) fun x15 s16 => if x15 = 0 then J10 (nI 0) s16 else J13 s16
def D_M_branches_64 (f : Nat) (l1 : Int32) (k135 : Int32 → rx_S → Option (Int32 × rx_S)) : Nat → Int32 → Int32 → rx_S → Option (Int32 × rx_S)
  | 0, _, _, _ => none
  | n + 1, l2, l3, s =>
    og 4 l1 fun j7 => if (s 7 j7) < l3 then k135 l2 s else if l2 = 0 then k135 l2 s else D_M_branches_81 f l1 l3 (fun (v17 : Int32) (s18 : rx_S) => D_M_branches_64 f l1 k135 n v17 (l3 + nI 1) s18) f l2 (nI 0) s
def D_M_branches_196 (f : Nat) (l1 : Int32) (l3 : Int32) (k263 : Int32 → rx_S → Option (Int32 × rx_S)) : Nat → Int32 → Int32 → rx_S → Option (Int32 × rx_S)
  | 0, _, _, _ => none
  | n + 1, l2, l4, s =>
    if l3 ≤ l4 then k263 l2 s else oj (fun (x25 : Int32) => D_M_branches_196 f l1 l3 k263 n x25 (l4 + nI 1) s) fun J24 => oj (fun (_ : Unit) => J24 (nI 0)) fun J26 => if l2 = 0 then J26 () else og 12 l3 fun j27 => oj (fun (_ : Unit) => J24 (nI 1)) fun J28 => if (s 42 j27) = ((-1)) then J28 () else og 12 l4 fun j29 => if (s 42 j29) = ((-1)) then J28 () else od (nI 2) <| od (nI 2) <| if (((s 42 j27) - (nI 1)) / (nI 2)) = (((s 42 j29) - (nI 1)) / (nI 2)) then J26 () else J28 ()
def D_M_branches_137 (f : Nat) (l1 : Int32) : Nat → Int32 → Int32 → rx_S → Option (Int32 × rx_S)
  | 0, _, _, _ => none
  | n + 1, l2, l3, s =>
    og 4 l1 fun j21 => if (s 7 j21) ≤ l3 then ozb l2 (some (l2, s)) else oj (fun (x23 : Int32) => D_M_branches_196 f l1 l3 (fun (v30 : Int32) (s31 : rx_S) => D_M_branches_137 f l1 n v30 (l3 + nI 1) s31) f x23 (nI 0) s) fun J22 => oj (fun (_ : Unit) => J22 (nI 0)) fun J32 => if l2 = 0 then J32 () else og 12 l3 fun j33 => if (s 41 j33) = ((-1)) then J32 () else og 48 (((nI 12) * l1) + l3) fun j34 => oj (fun (_ : Unit) => J22 (nI 1)) fun J35 => if (s 9 j34) = (nI 6) then if (s 43 j33) = ((-1)) then J32 () else J35 () else J35 ()
def D_M_branches (f : Nat) (l1 : Int32) (s : rx_S) : Option (Int32 × rx_S) :=
  D_M_branches_2 f l1 (fun  (s2 : rx_S) => og 12 (nI 0) fun j3 => og 48 ((nI 12) * l1) fun j4 => oj (fun (x6 : Int32) => D_M_branches_64 f l1 (fun (v19 : Int32) (s20 : rx_S) => D_M_branches_137 f l1 f v19 (nI 0) s20) f x6 (nI 0) (rx_up s2 41 j3 (nI 0))) fun J5 => if ((rx_up s2 41 j3 (nI 0)) 9 j4) = (nI 6) then J5 (nI 0) else J5 (nI 1)) f (nI 0) s
def D_M_brings (f : Nat) (l1 : Int32) (l2 : Int32) (l3 : Int32) (l4 : Int32) (s : rx_S) : Option (Int32 × rx_S) :=
  og 12 l3 fun j1 => og 48 (((nI 12) * l1) + l3) fun j2 => oj (fun (s4 : rx_S) => some (0, s4)) fun J3 => if ((rx_up s 47 j1 (nI 1)) 9 j2) = (nI 6) then og 12 l2 fun j5 => if ((rx_up s 47 j1 (nI 1)) 41 j5) = ((rx_up s 47 j1 (nI 1)) 42 j1) then J3 (rx_up (rx_up s 47 j1 (nI 1)) 45 j1 (((rx_up s 47 j1 (nI 1)) 45 j1) &&& l4)) else J3 (rx_up (rx_up s 47 j1 (nI 1)) 46 j1 (((rx_up s 47 j1 (nI 1)) 46 j1) &&& l4)) else J3 (rx_up (rx_up s 47 j1 (nI 1)) 44 j1 (((rx_up s 47 j1 (nI 1)) 44 j1) &&& l4))
def D_M_measures_2 (f : Nat) (l1 : Int32) (k61 : rx_S → Option (Int32 × rx_S)) : Nat → Int32 → rx_S → Option (Int32 × rx_S)
  | 0, _, _ => none
  | n + 1, l2, s =>
    if (nI 12) ≤ l2 then k61 s else oj (fun (x2 : Int32) => og 12 l2 fun j3 => ozb x2 <| oj (fun (x5 : Int32) => D_M_measures_2 f l1 k61 n (l2 + nI 1) (rx_up (rx_up (rx_up (rx_up s 47 j3 x2) 44 j3 x5) 45 j3 (nI 15)) 46 j3 (nI 15))) fun J4 => if l2 = 0 then J4 (nI 0) else J4 (nI 15)) fun J1 => if l2 = 0 then J1 (nI 1) else J1 (nI 0)
def D_M_measures_65 (f : Nat) (l1 : Int32) : Nat → Int32 → Int32 → rx_S → Option (Int32 × rx_S)
  | 0, _, _, _ => none
  | n + 1, l2, l3, s =>
    og 4 l1 fun j7 => if (s 7 j7) ≤ l3 then ozb l2 (some (l2, s)) else og 48 (((nI 12) * l1) + l3) fun j8 => oj (fun (s10 : rx_S) => oj (fun (x12 : Int32) => oj (fun (x14 : Int32) => og 12 l3 fun j15 => oj (fun (s17 : rx_S) => oj (fun (s19 : rx_S) => D_M_measures_65 f l1 n x12 (l3 + nI 1) s19) fun J18 => if (s17 47 j15) = 0 then J18 s17 else oj (fun (_ : Unit) => ob (D_M_brings f l1 l3 (s17 14 j8) x14 s17) fun x21 s22 => J18 s22) fun J20 => if (s17 9 j8) = (nI 5) then J20 () else if (s17 9 j8) = (nI 7) then J20 () else J18 s17) fun J16 => if (s10 47 j15) = 0 then J16 s10 else if (s10 9 j8) = (nI 9) then J16 s10 else ob (D_M_brings f l1 l3 (s10 13 j8) x14 s10) fun x23 s24 => J16 s24) fun J13 => if (s10 9 j8) = (nI 4) then og 12 l3 fun j25 => J13 ((s10 44 j25) ||| ((nI 1) <<< ((s10 11 j8) &&& 31))) else og 12 l3 fun j26 => J13 (s10 44 j26)) fun J11 => oj (fun (_ : Unit) => J11 (nI 0)) fun J27 => if l2 = 0 then J27 () else oj (fun (_ : Unit) => J11 (nI 1)) fun J28 => if (s10 9 j8) = (nI 7) then og 12 l3 fun j29 => if (s10 47 j29) = 0 then J28 () else if (((s10 44 j29) >>> ((s10 10 j8) &&& 31)) &&& (nI 1)) = (nI 1) then J28 () else J27 () else J28 ()) fun J9 => if (s 9 j8) = (nI 6) then og 12 l3 fun j30 => J9 (rx_up s 44 j30 ((s 45 j30) ||| (s 46 j30))) else J9 s
def D_M_measures (f : Nat) (l1 : Int32) (s : rx_S) : Option (Int32 × rx_S) :=
  D_M_measures_2 f l1 (fun  (s6 : rx_S) => D_M_measures_65 f l1 f (nI 1) (nI 0) s6) f (nI 0) s
def D_M_hasUnits_15 (f : Nat) (l1 : Int32) (l2 : Int32) (l3 : Int32) (k50 : Int32 → rx_S → Option (Int32 × rx_S)) : Nat → Int32 → Int32 → rx_S → Option (Int32 × rx_S)
  | 0, _, _, _ => none
  | n + 1, l4, l5, s =>
    if (nI 6) ≤ l5 then k50 l4 s else og 6 l5 fun j1 => oj (fun (x3 : Int32) => D_M_hasUnits_15 f l1 l2 l3 k50 n x3 (l5 + nI 1) s) fun J2 => if (s 1 j1) = l3 then J2 (l4 + (nI 1)) else J2 l4
def D_M_hasUnits_53 (f : Nat) (l1 : Int32) (l2 : Int32) (l3 : Int32) (k91 : Int32 → rx_S → Option (Int32 × rx_S)) : Nat → Int32 → Int32 → rx_S → Option (Int32 × rx_S)
  | 0, _, _, _ => none
  | n + 1, l4, l5, s =>
    if (nI 3) ≤ l5 then k91 l4 s else og 12 (((nI 3) * l1) + l5) fun j6 => oj (fun (x8 : Int32) => D_M_hasUnits_53 f l1 l2 l3 k91 n x8 (l5 + nI 1) s) fun J7 => if (s 6 j6) = l3 then J7 (l4 - (nI 1)) else J7 l4
def D_M_hasUnits_4 (f : Nat) (l1 : Int32) : Nat → Int32 → Int32 → rx_S → Option (Int32 × rx_S)
  | 0, _, _, _ => none
  | n + 1, l2, l3, s =>
    if (nI 3) ≤ l3 then ozb l2 (some (l2, s)) else D_M_hasUnits_15 f l1 l2 l3 (fun (v4 : Int32) (s5 : rx_S) => D_M_hasUnits_53 f l1 l2 l3 (fun (v9 : Int32) (s10 : rx_S) => oj (fun (x12 : Int32) => D_M_hasUnits_4 f l1 n x12 (l3 + nI 1) s10) fun J11 => oj (fun (_ : Unit) => J11 (nI 0)) fun J13 => if l2 = 0 then J13 () else if v9 < 0 then J13 () else J11 (nI 1)) f v4 (nI 0) s5) f (nI 0) (nI 0) s
def D_M_hasUnits (f : Nat) (l1 : Int32) (s : rx_S) : Option (Int32 × rx_S) :=
  D_M_hasUnits_4 f l1 f (nI 1) (nI 0) s
def D_M_release_55 (f : Nat) (l1 : Int32) (k90 : Int32 → rx_S → Option (Int32 × rx_S)) : Nat → Int32 → Int32 → rx_S → Option (Int32 × rx_S)
  | 0, _, _, _ => none
  | n + 1, l2, l3, s =>
    og 4 l1 fun j12 => if (s 7 j12) ≤ l3 then k90 l2 s else oj (fun (x14 : Int32) (s15 : rx_S) => D_M_release_55 f l1 k90 n x14 (l3 + nI 1) s15) fun J13 => oj (fun (s17 : rx_S) => J13 (nI 0) s17) fun J16 => if l2 = 0 then J16 s else ob (D_M_isSound f l1 l3 s) fun x18 s19 => if x18 = 0 then J16 s19 else J13 (nI 1) s19
def D_M_release (f : Nat) (l1 : Int32) (s : rx_S) : Option (Int32 × rx_S) :=
  ob (D_M_in f l1 (nI 0) (nI 3) s) fun x1 s2 => ob (D_M_in f l1 (nI 0) (nI 3) s2) fun x3 s4 => oj (fun (x6 : Int32) => ob (D_M_goes f x1 x6 s4) fun x7 s8 => if x7 = 0 then some (nI 0, s8) else og 4 l1 fun j9 => oj (fun (x11 : Int32) => D_M_release_55 f l1 (fun (v20 : Int32) (s21 : rx_S) => oj (fun (x23 : Int32) (s24 : rx_S) => oj (fun (x26 : Int32) => ozb x26 <| some (x23, rx_up s24 8 j9 x26)) fun J25 => if x23 = 0 then J25 (nI 1) else J25 (nI 0)) fun J22 => if v20 = 0 then J22 (nI 1) s21 else ob (D_M_isWhole f l1 s21) fun x27 s28 => if x27 = 0 then J22 (nI 2) s28 else ob (D_M_branches f l1 s28) fun x29 s30 => if x29 = 0 then J22 (nI 3) s30 else ob (D_M_measures f l1 s30) fun x31 s32 => if x31 = 0 then J22 (nI 4) s32 else ob (D_M_hasUnits f l1 s32) fun x33 s34 => if x33 = 0 then J22 (nI 5) s34 else J22 (nI 0) s34) f x11 (nI 0) s8) fun J10 => if (s8 7 j9) ≤ 0 then J10 (nI 0) else J10 (nI 1)) fun J5 => oj (fun (_ : Unit) => J5 (nI 0)) fun J35 => if x3 = 0 then J35 () else og 4 l1 fun j36 => if (s4 8 j36) = 0 then J5 (nI 1) else J35 ()
def D_M_isOn (f : Nat) (l1 : Int32) (s : rx_S) : Option (Int32 × rx_S) :=
  og 16 l1 fun j1 => oj (fun (x3 : Int32) => ozb x3 (some (x3, s))) fun J2 => oj (fun (_ : Unit) => J2 (nI 1)) fun J4 => if (s 18 j1) = (nI 2) then J4 () else if (s 18 j1) = (nI 4) then J4 () else J2 (nI 0)
def D_M_stepAt (f : Nat) (l1 : Int32) (l2 : Int32) (s : rx_S) : Option (Int32 × rx_S) :=
  og 16 l1 fun j1 => og 128 (((nI 8) * l1) + l2) fun j2 => some (((nI 12) * (s 16 j1)) + (s 23 j2), s)
def D_M_add_3 (f : Nat) (l1 : Int32) (l2 : Int32) (l3 : Int32) (k36 : Int32 → rx_S → Option (Int32 × rx_S)) : Nat → Int32 → rx_S → Option (Int32 × rx_S)
  | 0, _, _ => none
  | n + 1, l4, s =>
    og 6 l1 fun j1 => if (s 3 j1) ≤ l4 then k36 l4 s else og 600 (((nI 100) * l1) + l4) fun j2 => if (s 4 j2) = l2 then k36 l4 s else D_M_add_3 f l1 l2 l3 k36 n (l4 + nI 1) s
def D_M_add (f : Nat) (l1 : Int32) (l2 : Int32) (l3 : Int32) (s : rx_S) : Option (Int32 × rx_S) :=
  D_M_add_3 f l1 l2 l3 (fun (v3 : Int32) (s4 : rx_S) => og 6 l1 fun j5 => oj (fun (s7 : rx_S) => og 600 (((nI 100) * l1) + v3) fun j8 => some (0, rx_up s7 5 j8 ((s7 5 j8) + l3))) fun J6 => if v3 = (s4 3 j5) then og 600 (((nI 100) * l1) + v3) fun j9 => J6 (rx_up (rx_up (rx_up s4 4 j9 l2) 5 j9 (nI 0)) 3 j5 (((rx_up (rx_up s4 4 j9 l2) 5 j9 (nI 0)) 3 j5) + (nI 1))) else J6 s4) f (nI 0) s
def D_M_total_4 (f : Nat) (l1 : Int32) : Nat → Int32 → Int32 → rx_S → Option (Int32 × rx_S)
  | 0, _, _, _ => none
  | n + 1, l2, l3, s =>
    og 6 l1 fun j1 => if (s 3 j1) ≤ l3 then some (l2, s) else og 600 (((nI 100) * l1) + l3) fun j2 => D_M_total_4 f l1 n (l2 + (s 5 j2)) (l3 + nI 1) s
def D_M_total (f : Nat) (l1 : Int32) (s : rx_S) : Option (Int32 × rx_S) :=
  D_M_total_4 f l1 f (nI 0) (nI 0) s
def D_M_tidy_4 (f : Nat) (l1 : Int32) (k81 : Int32 → rx_S → Option (Int32 × rx_S)) : Nat → Int32 → Int32 → rx_S → Option (Int32 × rx_S)
  | 0, _, _, _ => none
  | n + 1, l2, l3, s =>
    og 6 l1 fun j1 => if (s 3 j1) ≤ l3 then k81 l2 s else og 600 (((nI 100) * l1) + l3) fun j2 => oj (fun (v4 : Int32) (s5 : rx_S) => D_M_tidy_4 f l1 k81 n v4 (l3 + nI 1) s5) fun J3 => if (s 5 j2) ≤ 0 then J3 l2 s else og 600 (((nI 100) * l1) + l2) fun j6 => J3 (l2 + nI 1) (rx_up (rx_up s 4 j6 (s 4 j2)) 5 j6 ((rx_up s 4 j6 (s 4 j2)) 5 j2))
def D_M_tidy (f : Nat) (l1 : Int32) (s : rx_S) : Option (Int32 × rx_S) :=
  D_M_tidy_4 f l1 (fun (v7 : Int32) (s8 : rx_S) => og 6 l1 fun j9 => some (0, rx_up s8 3 j9 v7)) f (nI 0) (nI 0) s
def D_M_carry_13 (f : Nat) (l1 : Int32) (l2 : Int32) (l3 : Int32) (l4 : Int32) (k90 : Int32 → rx_S → Option (Int32 × rx_S)) : Nat → Int32 → Int32 → rx_S → Option (Int32 × rx_S)
  | 0, _, _, _ => none
  | n + 1, l5, l6, s =>
    og 6 l1 fun j3 => if (s 3 j3) ≤ l6 then k90 l5 s else og 600 (((nI 100) * l1) + l6) fun j4 => od l4 <| og 100 l6 fun j5 => od l4 <| D_M_carry_13 f l1 l2 l3 l4 k90 n (l5 - ((rx_up (rx_up s 38 j5 ((l3 * (s 5 j4)) / l4)) 39 j5 ((l3 * ((rx_up s 38 j5 ((l3 * (s 5 j4)) / l4)) 5 j4)) - (l3 * ((rx_up s 38 j5 ((l3 * (s 5 j4)) / l4)) 5 j4)) / l4 * l4)) 38 j5)) (l6 + nI 1) (rx_up (rx_up s 38 j5 ((l3 * (s 5 j4)) / l4)) 39 j5 ((l3 * ((rx_up s 38 j5 ((l3 * (s 5 j4)) / l4)) 5 j4)) - (l3 * ((rx_up s 38 j5 ((l3 * (s 5 j4)) / l4)) 5 j4)) / l4 * l4))
def D_M_carry_101 (f : Nat) (l1 : Int32) (l2 : Int32) (l5 : Int32) (k144 : Int32 → rx_S → Option (Int32 × rx_S)) : Nat → Int32 → Int32 → rx_S → Option (Int32 × rx_S)
  | 0, _, _, _ => none
  | n + 1, l6, l7, s =>
    og 6 l1 fun j8 => if (s 3 j8) ≤ l7 then k144 l6 s else og 100 l7 fun j9 => og 100 l6 fun j10 => oj (fun (x12 : Int32) => D_M_carry_101 f l1 l2 l5 k144 n x12 (l7 + nI 1) s) fun J11 => if (s 39 j9) ≤ (s 39 j10) then J11 l6 else J11 l7
def D_M_carry_90 (f : Nat) (l1 : Int32) (l2 : Int32) (k169 : rx_S → Option (Int32 × rx_S)) : Nat → Int32 → rx_S → Option (Int32 × rx_S)
  | 0, _, _ => none
  | n + 1, l5, s =>
    if l5 ≤ 0 then k169 s else D_M_carry_101 f l1 l2 l5 (fun (v13 : Int32) (s14 : rx_S) => og 100 v13 fun j15 => D_M_carry_90 f l1 l2 k169 n (l5 - nI 1) (rx_up (rx_up s14 38 j15 ((s14 38 j15) + (nI 1))) 39 j15 ((-1)))) f (nI 0) (nI 1) s
def D_M_carry_172 (f : Nat) (l1 : Int32) (l2 : Int32) (k245 : rx_S → Option (Int32 × rx_S)) : Nat → Int32 → rx_S → Option (Int32 × rx_S)
  | 0, _, _ => none
  | n + 1, l6, s =>
    og 6 l1 fun j17 => if (s 3 j17) ≤ l6 then k245 s else og 100 l6 fun j18 => oj (fun (s20 : rx_S) => D_M_carry_172 f l1 l2 k245 n (l6 + nI 1) s20) fun J19 => if (s 38 j18) ≤ 0 then J19 s else og 600 (((nI 100) * l1) + l6) fun j21 => ob (D_M_add f l2 (s 4 j21) (s 38 j18) s) fun x22 s23 => J19 (rx_up s23 5 j21 ((s23 5 j21) - (s23 38 j18)))
def D_M_carry (f : Nat) (l1 : Int32) (l2 : Int32) (l3 : Int32) (s : rx_S) : Option (Int32 × rx_S) :=
  ob (D_M_total f l1 s) fun x1 s2 => D_M_carry_13 f l1 l2 l3 x1 (fun (v6 : Int32) (s7 : rx_S) => D_M_carry_90 f l1 l2 (fun  (s16 : rx_S) => D_M_carry_172 f l1 l2 (fun  (s24 : rx_S) => ob (D_M_tidy f l1 s24) fun x25 s26 => some (0, s26)) f (nI 0) s16) f v6 s7) f l3 (nI 0) s2
def D_M_leaveLine_4 (f : Nat) (l1 : Int32) (k43 : Int32 → rx_S → Option (Int32 × rx_S)) : Nat → Int32 → Int32 → rx_S → Option (Int32 × rx_S)
  | 0, _, _, _ => none
  | n + 1, l2, l3, s =>
    if (s 28 0) ≤ l3 then k43 l2 s else og 16 l3 fun j1 => oj (fun (v3 : Int32) (s4 : rx_S) => D_M_leaveLine_4 f l1 k43 n v3 (l3 + nI 1) s4) fun J2 => if (s 29 j1) = l1 then J2 l2 s else og 16 l2 fun j5 => J2 (l2 + nI 1) (rx_up s 29 j5 (s 29 j1))
def D_M_leaveLine (f : Nat) (l1 : Int32) (s : rx_S) : Option (Int32 × rx_S) :=
  D_M_leaveLine_4 f l1 (fun (v6 : Int32) (s7 : rx_S) => some (0, rx_up s7 28 0 v6)) f (nI 0) (nI 0) s
def D_M_giveBack_2 (f : Nat) (l1 : Int32) : Nat → Int32 → rx_S → Option (Int32 × rx_S)
  | 0, _, _ => none
  | n + 1, l2, s =>
    if (nI 3) ≤ l2 then some (0, s) else og 48 (((nI 3) * l1) + l2) fun j1 => oj (fun (s3 : rx_S) => D_M_giveBack_2 f l1 n (l2 + nI 1) (rx_up s3 22 j1 ((-1)))) fun J2 => if (s 22 j1) = ((-1)) then J2 s else og 6 (s 22 j1) fun j4 => J2 (rx_up s 2 j4 ((-1)))
def D_M_giveBack (f : Nat) (l1 : Int32) (s : rx_S) : Option (Int32 × rx_S) :=
  D_M_giveBack_2 f l1 f (nI 0) s
def D_M_close (f : Nat) (l1 : Int32) (l2 : Int32) (s : rx_S) : Option (Int32 × rx_S) :=
  ob (D_M_leaveLine f l1 s) fun x1 s2 => og 16 l1 fun j3 => ob (D_M_giveBack f l1 (rx_up (rx_up s2 18 j3 l2) 19 j3 (nI 0))) fun x4 s5 => some (0, rx_up s5 30 0 (nI 1))
def D_M_newLot (f : Nat) (l1 : Int32) (l2 : Int32) (s : rx_S) : Option (Int32 × rx_S) :=
  if (s 31 0) = (nI 100) then ob (D_M_close f l1 (nI 6) s) fun x1 s2 => some ((-1), s2) else og 100 (s 31 0) fun j3 => og 100 ((rx_up s 33 j3 l1) 31 0) fun j4 => og 101 ((rx_up (rx_up (rx_up s 33 j3 l1) 34 j4 l2) 31 0 (((rx_up (rx_up s 33 j3 l1) 34 j4 l2) 31 0) + (nI 1))) 31 0) fun j5 => some (((rx_up (rx_up (rx_up (rx_up s 33 j3 l1) 34 j4 l2) 31 0 (((rx_up (rx_up s 33 j3 l1) 34 j4 l2) 31 0) + (nI 1))) 35 j5 ((rx_up (rx_up (rx_up s 33 j3 l1) 34 j4 l2) 31 0 (((rx_up (rx_up s 33 j3 l1) 34 j4 l2) 31 0) + (nI 1))) 32 0)) 31 0) - (nI 1), rx_up (rx_up (rx_up (rx_up s 33 j3 l1) 34 j4 l2) 31 0 (((rx_up (rx_up s 33 j3 l1) 34 j4 l2) 31 0) + (nI 1))) 35 j5 ((rx_up (rx_up (rx_up s 33 j3 l1) 34 j4 l2) 31 0 (((rx_up (rx_up s 33 j3 l1) 34 j4 l2) 31 0) + (nI 1))) 32 0))
def D_M_react_34 (f : Nat) (l2 : Int32) (l4 : Int32) (l5 : Int32) (k103 : rx_S → Option (Int32 × rx_S)) : Nat → Int32 → rx_S → Option (Int32 × rx_S)
  | 0, _, _ => none
  | n + 1, l6, s =>
    og 6 l2 fun j6 => if (s 3 j6) ≤ l6 then k103 s else og 600 (((nI 100) * l2) + l6) fun j7 => og 5000 (s 32 0) fun j8 => og 5000 ((rx_up s 36 j8 (s 4 j7)) 32 0) fun j9 => D_M_react_34 f l2 l4 l5 k103 n (l6 + nI 1) (rx_up (rx_up (rx_up s 36 j8 (s 4 j7)) 37 j9 ((rx_up s 36 j8 (s 4 j7)) 5 j7)) 32 0 (((rx_up (rx_up s 36 j8 (s 4 j7)) 37 j9 ((rx_up s 36 j8 (s 4 j7)) 5 j7)) 32 0) + (nI 1)))
def D_M_react (f : Nat) (l1 : Int32) (l2 : Int32) (l3 : Int32) (s : rx_S) : Option (Int32 × rx_S) :=
  ob (D_M_total f l2 s) fun x1 s2 => oj (fun (x4 : Int32) (s5 : rx_S) => if x4 = ((-1)) then some (0, s5) else D_M_react_34 f l2 x1 x4 (fun  (s10 : rx_S) => og 101 (s10 31 0) fun j11 => og 6 l2 fun j12 => og 600 ((nI 100) * l2) fun j13 => some (0, rx_up (rx_up (rx_up (rx_up s10 35 j11 (s10 32 0)) 3 j12 (nI 1)) 4 j13 x4) 5 j13 x1)) f (nI 0) s5) fun J3 => if x1 = 0 then J3 ((-1)) s2 else ob (D_M_newLot f l1 l3 s2) fun x14 s15 => J3 x14 s15
def D_M_works (f : Nat) (l1 : Int32) (l2 : Int32) (s : rx_S) : Option (Int32 × rx_S) :=
  ob (D_M_stepAt f l1 l2 s) fun x1 s2 => og 48 x1 fun j3 => og 48 (((nI 3) * l1) + (s2 10 j3)) fun j4 => og 128 (((nI 8) * l1) + l2) fun j5 => oj (fun (x7 : Int32) => if (s2 9 j3) = nI 0 then oj (fun (s9 : rx_S) => oj (fun (x11 : Int32) => ozb x11 (some (x11, rx_up s9 24 j5 ((s9 24 j5) - x7)))) fun J10 => if ((rx_up s9 24 j5 ((s9 24 j5) - x7)) 24 j5) = 0 then J10 (nI 1) else J10 (nI 0)) fun J8 => if x7 ≤ 0 then J8 s2 else ob (D_M_add f (s2 22 j4) (s2 25 j5) x7 s2) fun x12 s13 => J8 s13 else if (s2 9 j3) = nI 1 then oj (fun (s15 : rx_S) => oj (fun (x17 : Int32) => ozb x17 (some (x17, s15))) fun J16 => if (s15 24 j5) = 0 then J16 (nI 1) else J16 (nI 0)) fun J14 => if ((rx_up s2 24 j5 ((s2 24 j5) - (nI 1))) 24 j5) = 0 then if ((rx_up s2 24 j5 ((s2 24 j5) - (nI 1))) 9 j3) = (nI 3) then ob (D_M_react f l1 (s2 22 j4) ((rx_up s2 24 j5 ((s2 24 j5) - (nI 1))) 23 j5) (rx_up s2 24 j5 ((s2 24 j5) - (nI 1)))) fun x18 s19 => J14 s19 else J14 (rx_up s2 24 j5 ((s2 24 j5) - (nI 1))) else J14 (rx_up s2 24 j5 ((s2 24 j5) - (nI 1))) else if (s2 9 j3) = nI 2 then ob (D_M_total f (s2 22 j4) s2) fun x20 s21 => oj (fun (x23 : Int32) => oj (fun (x25 : Int32) => oj (fun (s27 : rx_S) => oj (fun (x29 : Int32) => ozb x29 (some (x29, s27))) fun J28 => if (s27 24 j5) = 0 then J28 (nI 1) else J28 (nI 0)) fun J26 => if x25 ≤ 0 then J26 (rx_up s21 24 j5 x23) else og 48 (((nI 3) * l1) + ((rx_up s21 24 j5 x23) 11 j3)) fun j30 => ob (D_M_carry f (s2 22 j4) ((rx_up s21 24 j5 x23) 22 j30) x25 (rx_up s21 24 j5 x23)) fun x31 s32 => J26 s32) fun J24 => if x7 ≤ x20 then J24 x7 else J24 x20) fun J22 => if x7 ≤ x20 then J22 ((s21 24 j5) - x7) else J22 (nI 0) else if (s2 9 j3) = nI 3 then oj (fun (s34 : rx_S) => oj (fun (x36 : Int32) => ozb x36 (some (x36, s34))) fun J35 => if (s34 24 j5) = 0 then J35 (nI 1) else J35 (nI 0)) fun J33 => if ((rx_up s2 24 j5 ((s2 24 j5) - (nI 1))) 24 j5) = 0 then if ((rx_up s2 24 j5 ((s2 24 j5) - (nI 1))) 9 j3) = (nI 3) then ob (D_M_react f l1 (s2 22 j4) ((rx_up s2 24 j5 ((s2 24 j5) - (nI 1))) 23 j5) (rx_up s2 24 j5 ((s2 24 j5) - (nI 1)))) fun x37 s38 => J33 s38 else J33 (rx_up s2 24 j5 ((s2 24 j5) - (nI 1))) else J33 (rx_up s2 24 j5 ((s2 24 j5) - (nI 1))) else if (s2 9 j3) = nI 4 then ozb (s2 27 j5) (some (s2 27 j5, s2)) else oj (fun (s40 : rx_S) => oj (fun (x42 : Int32) => ozb x42 (some (x42, s40))) fun J41 => if (s40 24 j5) = 0 then J41 (nI 1) else J41 (nI 0)) fun J39 => if ((rx_up s2 24 j5 ((s2 24 j5) - (nI 1))) 24 j5) = 0 then if ((rx_up s2 24 j5 ((s2 24 j5) - (nI 1))) 9 j3) = (nI 3) then ob (D_M_react f l1 (s2 22 j4) ((rx_up s2 24 j5 ((s2 24 j5) - (nI 1))) 23 j5) (rx_up s2 24 j5 ((s2 24 j5) - (nI 1)))) fun x43 s44 => J39 s44 else J39 (rx_up s2 24 j5 ((s2 24 j5) - (nI 1))) else J39 (rx_up s2 24 j5 ((s2 24 j5) - (nI 1)))) fun J6 => if (nI 10) ≤ (s2 24 j5) then J6 (nI 10) else J6 (s2 24 j5)
def D_M_running_4 (f : Nat) (l1 : Int32) : Nat → Int32 → Int32 → rx_S → Option (Int32 × rx_S)
  | 0, _, _, _ => none
  | n + 1, l2, l3, s =>
    og 16 l1 fun j1 => if (s 19 j1) ≤ l3 then some (l2, s) else og 128 (((nI 8) * l1) + l3) fun j2 => oj (fun (x4 : Int32) => D_M_running_4 f l1 n x4 (l3 + nI 1) s) fun J3 => if (s 26 j2) = 0 then J3 l2 else J3 (l2 + (nI 1))
def D_M_running (f : Nat) (l1 : Int32) (s : rx_S) : Option (Int32 × rx_S) :=
  D_M_running_4 f l1 f (nI 0) (nI 0) s
def D_M_fellow_2 (f : Nat) (l1 : Int32) (l2 : Int32) : Nat → Int32 → rx_S → Option (Int32 × rx_S)
  | 0, _, _ => none
  | n + 1, l3, s =>
    og 16 l1 fun j1 => if (s 19 j1) ≤ l3 then some ((-1), s) else oj (fun (_ : Unit) => D_M_fellow_2 f l1 l2 n (l3 + nI 1) s) fun J2 => if l3 = l2 then J2 () else og 128 (((nI 8) * l1) + l3) fun j3 => og 128 (((nI 8) * l1) + l2) fun j4 => if (s 23 j3) = (s 23 j4) then some (l3, s) else J2 ()
def D_M_fellow (f : Nat) (l1 : Int32) (l2 : Int32) (s : rx_S) : Option (Int32 × rx_S) :=
  D_M_fellow_2 f l1 l2 f (nI 0) s
def D_M_rolesOf (f : Nat) (l1 : Int32) (s : rx_S) : Option (Int32 × rx_S) :=
  og 48 l1 fun j1 => oj (fun (x3 : Int32) => some (x3, s)) fun J2 => if (s 9 j1) = (nI 2) then J2 (((nI 1) <<< ((s 10 j1) &&& 31)) ||| ((nI 1) <<< ((s 11 j1) &&& 31))) else J2 ((nI 1) <<< ((s 10 j1) &&& 31))
def D_M_begin_21 (f : Nat) (l1 : Int32) (l3 : Int32) (l4 : Int32) (k73 : Int32 → rx_S → Option (Int32 × rx_S)) : Nat → Int32 → Int32 → rx_S → Option (Int32 × rx_S)
  | 0, _, _, _ => none
  | n + 1, l5, l6, s =>
    og 16 l1 fun j3 => if (s 19 j3) ≤ l6 then k73 l5 s else og 128 (((nI 8) * l1) + l6) fun j4 => oj (fun (x6 : Int32) (s7 : rx_S) => D_M_begin_21 f l1 l3 l4 k73 n (l5 ||| x6) (l6 + nI 1) s7) fun J5 => if (s 26 j4) = 0 then J5 (nI 0) s else ob (D_M_stepAt f l1 l6 s) fun x8 s9 => ob (D_M_rolesOf f x8 s9) fun x10 s11 => J5 x10 s11
def D_M_begin (f : Nat) (l1 : Int32) (l2 : Int32) (s : rx_S) : Option (Int32 × rx_S) :=
  ob (D_M_stepAt f l1 l2 s) fun x1 s2 => D_M_begin_21 f l1 (((nI 8) * l1) + l2) x1 (fun (v12 : Int32) (s13 : rx_S) => og 128 (((nI 8) * l1) + l2) fun j14 => oj (fun (s16 : rx_S) => some (0, s16)) fun J15 => if (s13 26 j14) = 0 then ob (D_M_rolesOf f x1 s13) fun x17 s18 => if (v12 &&& x17) = 0 then og 48 x1 fun j19 => oj (fun (s21 : rx_S) => oj (fun (x23 : Int32) (s24 : rx_S) => some (0, rx_up s24 24 j14 x23)) fun J22 => if ((rx_up (rx_up s21 26 j14 (nI 1)) 27 j14 (nI 0)) 9 j19) = 0 then og 16 l1 fun j25 => od (nI 100) <| J22 (((rx_up (rx_up s21 26 j14 (nI 1)) 27 j14 (nI 0)) 11 j19) + ((((rx_up (rx_up s21 26 j14 (nI 1)) 27 j14 (nI 0)) 12 j19) * ((rx_up (rx_up s21 26 j14 (nI 1)) 27 j14 (nI 0)) 17 j25)) / (nI 100))) (rx_up (rx_up s21 26 j14 (nI 1)) 27 j14 (nI 0)) else if ((rx_up (rx_up s21 26 j14 (nI 1)) 27 j14 (nI 0)) 9 j19) = (nI 2) then og 48 (((nI 3) * l1) + ((rx_up (rx_up s21 26 j14 (nI 1)) 27 j14 (nI 0)) 10 j19)) fun j26 => ob (D_M_total f ((rx_up (rx_up s21 26 j14 (nI 1)) 27 j14 (nI 0)) 22 j26) (rx_up (rx_up s21 26 j14 (nI 1)) 27 j14 (nI 0))) fun x27 s28 => od (nI 100) <| J22 ((x27 * (s28 12 j19)) / (nI 100)) s28 else J22 ((rx_up (rx_up s21 26 j14 (nI 1)) 27 j14 (nI 0)) 11 j19) (rx_up (rx_up s21 26 j14 (nI 1)) 27 j14 (nI 0))) fun J20 => if (s18 9 j19) = 0 then ob (D_M_newLot f l1 (s18 23 j14) s18) fun x29 s30 => if x29 = ((-1)) then some (0, s30) else J20 (rx_up s30 25 j14 x29) else J20 s18 else J15 s18 else J15 s13) f (nI 0) (nI 0) s2
def D_M_drop_7 (f : Nat) (l1 : Int32) (k100 : rx_S → Option (Int32 × rx_S)) : Nat → Int32 → rx_S → Option (Int32 × rx_S)
  | 0, _, _ => none
  | n + 1, l3, s =>
    og 16 l1 fun j1 => if ((((nI 8) * l1) + (s 19 j1)) - (nI 1)) ≤ l3 then k100 s else og 128 (l3 + (nI 1)) fun j2 => og 128 l3 fun j3 => ozb ((rx_up (rx_up (rx_up s 23 j3 (s 23 j2)) 24 j3 ((rx_up s 23 j3 (s 23 j2)) 24 j2)) 25 j3 ((rx_up (rx_up s 23 j3 (s 23 j2)) 24 j3 ((rx_up s 23 j3 (s 23 j2)) 24 j2)) 25 j2)) 26 j2) <| ozb ((rx_up (rx_up (rx_up (rx_up s 23 j3 (s 23 j2)) 24 j3 ((rx_up s 23 j3 (s 23 j2)) 24 j2)) 25 j3 ((rx_up (rx_up s 23 j3 (s 23 j2)) 24 j3 ((rx_up s 23 j3 (s 23 j2)) 24 j2)) 25 j2)) 26 j3 ((rx_up (rx_up (rx_up s 23 j3 (s 23 j2)) 24 j3 ((rx_up s 23 j3 (s 23 j2)) 24 j2)) 25 j3 ((rx_up (rx_up s 23 j3 (s 23 j2)) 24 j3 ((rx_up s 23 j3 (s 23 j2)) 24 j2)) 25 j2)) 26 j2)) 27 j2) <| D_M_drop_7 f l1 k100 n (l3 + nI 1) (rx_up (rx_up (rx_up (rx_up (rx_up s 23 j3 (s 23 j2)) 24 j3 ((rx_up s 23 j3 (s 23 j2)) 24 j2)) 25 j3 ((rx_up (rx_up s 23 j3 (s 23 j2)) 24 j3 ((rx_up s 23 j3 (s 23 j2)) 24 j2)) 25 j2)) 26 j3 ((rx_up (rx_up (rx_up s 23 j3 (s 23 j2)) 24 j3 ((rx_up s 23 j3 (s 23 j2)) 24 j2)) 25 j3 ((rx_up (rx_up s 23 j3 (s 23 j2)) 24 j3 ((rx_up s 23 j3 (s 23 j2)) 24 j2)) 25 j2)) 26 j2)) 27 j3 ((rx_up (rx_up (rx_up (rx_up s 23 j3 (s 23 j2)) 24 j3 ((rx_up s 23 j3 (s 23 j2)) 24 j2)) 25 j3 ((rx_up (rx_up s 23 j3 (s 23 j2)) 24 j3 ((rx_up s 23 j3 (s 23 j2)) 24 j2)) 25 j2)) 26 j3 ((rx_up (rx_up (rx_up s 23 j3 (s 23 j2)) 24 j3 ((rx_up s 23 j3 (s 23 j2)) 24 j2)) 25 j3 ((rx_up (rx_up s 23 j3 (s 23 j2)) 24 j3 ((rx_up s 23 j3 (s 23 j2)) 24 j2)) 25 j2)) 26 j2)) 27 j2))
def D_M_drop (f : Nat) (l1 : Int32) (l2 : Int32) (s : rx_S) : Option (Int32 × rx_S) :=
  D_M_drop_7 f l1 (fun  (s4 : rx_S) => og 16 l1 fun j5 => some (0, rx_up s4 19 j5 ((s4 19 j5) - (nI 1)))) f (((nI 8) * l1) + l2) s
def D_M_way (f : Nat) (l1 : Int32) (l2 : Int32) (s : rx_S) : Option (Int32 × rx_S) :=
  og 16 l1 fun j1 => og 48 l2 fun j2 => if (s 9 j2) = (nI 7) then og 64 (((nI 4) * l1) + (s 10 j2)) fun j3 => oj (fun (x5 : Int32) => some (x5, s)) fun J4 => if (s 11 j2) ≤ (s 20 j3) then J4 (s 14 j2) else J4 (s 13 j2) else og 192 (((nI 12) * l1) + (l2 - ((nI 12) * (s 16 j1)))) fun j6 => oj (fun (x8 : Int32) => oj (fun (x10 : Int32) => some (x10, rx_up s 21 j6 x8)) fun J9 => if ((rx_up s 21 j6 x8) 10 j2) ≤ (s 21 j6) then J9 ((rx_up s 21 j6 x8) 13 j2) else J9 ((rx_up s 21 j6 x8) 14 j2)) fun J7 => if (s 10 j2) ≤ (s 21 j6) then J7 (nI 0) else J7 ((s 21 j6) + (nI 1))
def D_M_walk_5 (f : Nat) (l1 : Int32) : Nat → Int32 → Int32 → rx_S → Option (Int32 × rx_S)
  | 0, _, _, _ => none
  | n + 1, l3, l4, s =>
    oj (fun (_ : Unit) => some (l3, s)) fun J1 => if l4 = 0 then J1 () else og 16 l1 fun j2 => if (s 18 j2) = (nI 2) then ob (D_M_stepAt f l1 l3 s) fun x3 s4 => og 48 x3 fun j5 => oj (fun (x7 : Int32) (s8 : rx_S) => oj (fun (x10 : Int32) => oj (fun (v12 : Int32) (s13 : rx_S) => D_M_walk_5 f l1 n v12 x10 s13) fun J11 => if (s8 9 j5) = (nI 9) then ob (D_M_close f l1 (nI 7) s8) fun x14 s15 => J11 l3 s15 else if (nI 4) < (s8 9 j5) then if (s8 9 j5) = (nI 5) then og 128 (((nI 8) * l1) + (s8 19 j2)) fun j16 => og 128 (((nI 8) * l1) + l3) fun j17 => J11 l3 (rx_up (rx_up (rx_up (rx_up s8 23 j16 (s8 14 j5)) 26 j16 (nI 0)) 19 j2 (((rx_up (rx_up s8 23 j16 (s8 14 j5)) 26 j16 (nI 0)) 19 j2) + (nI 1))) 23 j17 ((rx_up (rx_up (rx_up s8 23 j16 (s8 14 j5)) 26 j16 (nI 0)) 19 j2 (((rx_up (rx_up s8 23 j16 (s8 14 j5)) 26 j16 (nI 0)) 19 j2) + (nI 1))) 13 j5)) else oj (fun (_ : Unit) => if (s8 9 j5) = (nI 6) then J11 l3 s8 else ob (D_M_way f l1 x3 s8) fun x19 s20 => og 128 (((nI 8) * l1) + l3) fun j21 => J11 l3 (rx_up s20 23 j21 x19)) fun J18 => if (s8 9 j5) = (nI 6) then if x10 = 0 then J18 () else og 128 (((nI 8) * l1) + l3) fun j22 => ob (D_M_drop f l1 x7 (rx_up s8 23 j22 (s8 13 j5))) fun x23 s24 => oj (fun (x26 : Int32) => J11 x26 s24) fun J25 => if l3 ≤ x7 then J25 l3 else J25 (l3 - (nI 1)) else J18 () else ob (D_M_begin f l1 l3 s8) fun x27 s28 => J11 l3 s28) fun J9 => oj (fun (_ : Unit) => J9 (nI 0)) fun J29 => if (s8 9 j5) ≤ (nI 4) then J29 () else oj (fun (_ : Unit) => J9 (nI 1)) fun J30 => if (s8 9 j5) = (nI 6) then if x7 = ((-1)) then J29 () else J30 () else J30 ()) fun J6 => if (s4 9 j5) = (nI 6) then ob (D_M_fellow f l1 l3 s4) fun x31 s32 => J6 x31 s32 else J6 ((-1)) s4 else J1 ()
def D_M_walk (f : Nat) (l1 : Int32) (l2 : Int32) (s : rx_S) : Option (Int32 × rx_S) :=
  D_M_walk_5 f l1 f l2 (nI 1) s
def D_M_move_2 (f : Nat) (l1 : Int32) : Nat → Int32 → rx_S → Option (Int32 × rx_S)
  | 0, _, _ => none
  | n + 1, l2, s =>
    og 16 l1 fun j1 => oj (fun (_ : Unit) => some (0, s)) fun J2 => if (s 19 j1) ≤ l2 then J2 () else if (s 18 j1) = (nI 2) then og 128 (((nI 8) * l1) + l2) fun j3 => oj (fun (v5 : Int32) (s6 : rx_S) => D_M_move_2 f l1 n (v5 + nI 1) s6) fun J4 => if (s 26 j3) = 0 then ob (D_M_walk f l1 l2 s) fun x7 s8 => J4 x7 s8 else J4 l2 s else J2 ()
def D_M_move (f : Nat) (l1 : Int32) (s : rx_S) : Option (Int32 × rx_S) :=
  D_M_move_2 f l1 f (nI 0) s
def D_M_goOn_2 (f : Nat) (l1 : Int32) (k83 : rx_S → Option (Int32 × rx_S)) : Nat → Int32 → rx_S → Option (Int32 × rx_S)
  | 0, _, _ => none
  | n + 1, l2, s =>
    og 16 l1 fun j1 => if (s 19 j1) ≤ l2 then k83 s else ob (D_M_isOn f l1 s) fun x2 s3 => if x2 = 0 then k83 s3 else og 128 (((nI 8) * l1) + l2) fun j4 => oj (fun (s6 : rx_S) => D_M_goOn_2 f l1 k83 n (l2 + nI 1) s6) fun J5 => if (s3 26 j4) = 0 then J5 s3 else ob (D_M_works f l1 l2 s3) fun x7 s8 => if x7 = 0 then J5 s8 else ob (D_M_isOn f l1 s8) fun x9 s10 => if x9 = 0 then J5 s10 else ob (D_M_stepAt f l1 l2 (rx_up s10 26 j4 (nI 0))) fun x11 s12 => og 48 x11 fun j13 => J5 (rx_up s12 23 j4 (s12 13 j13))
def D_M_goOn (f : Nat) (l1 : Int32) (s : rx_S) : Option (Int32 × rx_S) :=
  D_M_goOn_2 f l1 (fun  (s14 : rx_S) => og 16 l1 fun j15 => oj (fun (s17 : rx_S) => some (0, s17)) fun J16 => oj (fun (s19 : rx_S) => if (s19 18 j15) = (nI 2) then ob (D_M_move f l1 s19) fun x20 s21 => J16 s21 else J16 s19) fun J18 => if (s14 18 j15) = (nI 4) then ob (D_M_running f l1 s14) fun x22 s23 => if x22 = 0 then ob (D_M_close f l1 (nI 5) s23) fun x24 s25 => J16 s25 else J18 s23 else J18 s14) f (nI 0) s
def D_M_needs_4 (f : Nat) (l1 : Int32) (k35 : Int32 → rx_S → Option (Int32 × rx_S)) : Nat → Int32 → Int32 → rx_S → Option (Int32 × rx_S)
  | 0, _, _, _ => none
  | n + 1, l2, l3, s =>
    if (nI 3) ≤ l3 then k35 l2 s else og 16 l1 fun j1 => og 12 (((nI 3) * (s 16 j1)) + l3) fun j2 => D_M_needs_4 f l1 k35 n (l2 ||| ((nI 1) <<< ((s 6 j2) &&& 31))) (l3 + nI 1) s
def D_M_needs (f : Nat) (l1 : Int32) (s : rx_S) : Option (Int32 × rx_S) :=
  D_M_needs_4 f l1 (fun (v3 : Int32) (s4 : rx_S) => some (v3 &&& (nI 7), s4)) f (nI 0) (nI 0) s
def D_M_gets_29 (f : Nat) (l1 : Int32) (l2 : Int32) (l3 : Int32) (l4 : Int32) (k105 : rx_S → Option (Int32 × rx_S)) : Nat → Int32 → rx_S → Option (Int32 × rx_S)
  | 0, _, _ => none
  | n + 1, l5, s =>
    if (nI 6) ≤ l5 then k105 s else if (nI 3) ≤ l4 then k105 s else og 48 (((nI 3) * l1) + l3) fun j3 => if (s 22 j3) = ((-1)) then og 6 l5 fun j4 => oj (fun (s6 : rx_S) => D_M_gets_29 f l1 l2 l3 l4 k105 n (l5 + nI 1) s6) fun J5 => if (s 1 j4) = l4 then if (s 2 j4) = ((-1)) then J5 (rx_up (rx_up s 2 j4 l1) 22 j3 l5) else J5 s else J5 s else k105 s
def D_M_gets_4 (f : Nat) (l1 : Int32) (k141 : Int32 → rx_S → Option (Int32 × rx_S)) : Nat → Int32 → Int32 → rx_S → Option (Int32 × rx_S)
  | 0, _, _, _ => none
  | n + 1, l2, l3, s =>
    if (nI 3) ≤ l3 then k141 l2 s else og 16 l1 fun j1 => og 12 (((nI 3) * (s 16 j1)) + l3) fun j2 => D_M_gets_29 f l1 l2 l3 (s 6 j2) (fun  (s7 : rx_S) => oj (fun (x9 : Int32) => D_M_gets_4 f l1 k141 n x9 (l3 + nI 1) s7) fun J8 => oj (fun (_ : Unit) => J8 (nI 0)) fun J10 => if l2 = 0 then J10 () else oj (fun (_ : Unit) => J8 (nI 1)) fun J11 => if (s 6 j2) = (nI 3) then J11 () else og 48 (((nI 3) * l1) + l3) fun j12 => if (s7 22 j12) = ((-1)) then J10 () else J11 ()) f (nI 0) s
def D_M_gets (f : Nat) (l1 : Int32) (s : rx_S) : Option (Int32 × rx_S) :=
  D_M_gets_4 f l1 (fun (v13 : Int32) (s14 : rx_S) => oj (fun (s16 : rx_S) => ozb v13 (some (v13, s16))) fun J15 => if v13 = 0 then ob (D_M_giveBack f l1 s14) fun x17 s18 => J15 s18 else J15 s14) f (nI 1) (nI 0) s
def D_M_claim_12 (f : Nat) (k127 : Int32 → rx_S → Option (Int32 × rx_S)) : Nat → Int32 → Int32 → Int32 → rx_S → Option (Int32 × rx_S)
  | 0, _, _, _, _ => none
  | n + 1, l1, l2, l3, s =>
    if (s 28 0) ≤ l3 then k127 l1 s else if l1 = 0 then og 16 l3 fun j1 => ob (D_M_needs f (s 29 j1) s) fun x2 s3 => oj (fun (x5 : Int32) (s6 : rx_S) => ob (D_M_needs f (s 29 j1) s6) fun x7 s8 => oj (fun (s10 : rx_S) => D_M_claim_12 f k127 n x5 (l2 ||| x7) (l3 + nI 1) s10) fun J9 => if x5 = 0 then J9 s8 else ob (D_M_leaveLine f (s 29 j1) s8) fun x11 s12 => og 16 (s 29 j1) fun j13 => og 128 ((nI 8) * (s 29 j1)) fun j14 => ob (D_M_move f (s 29 j1) (rx_up (rx_up (rx_up (rx_up s12 18 j13 (nI 2)) 19 j13 (nI 1)) 23 j14 (nI 0)) 26 j14 (nI 0))) fun x15 s16 => J9 s16) fun J4 => oj (fun (s18 : rx_S) => J4 (nI 0) s18) fun J17 => if (l2 &&& x2) = 0 then ob (D_M_gets f (s 29 j1) s3) fun x19 s20 => if x19 = 0 then J17 s20 else J4 (nI 1) s20 else J17 s3 else k127 l1 s
def D_M_claim_2 (f : Nat) (k130 : rx_S → Option (Int32 × rx_S)) : Nat → Int32 → rx_S → Option (Int32 × rx_S)
  | 0, _, _ => none
  | n + 1, l1, s =>
    if l1 = 0 then k130 s else D_M_claim_12 f (fun (v21 : Int32) (s22 : rx_S) => D_M_claim_2 f k130 n v21 s22) f (nI 0) (nI 0) (nI 0) s
def D_M_claim (f : Nat) (s : rx_S) : Option (Int32 × rx_S) :=
  D_M_claim_2 f (fun  (s23 : rx_S) => some (0, rx_up s23 30 0 (nI 0))) f (nI 1) s
def D_M_tick_7 (f : Nat) (k45 : rx_S → Option (Int32 × rx_S)) : Nat → Int32 → rx_S → Option (Int32 × rx_S)
  | 0, _, _ => none
  | n + 1, l1, s =>
    if (s 15 0) ≤ l1 then k45 s else ob (D_M_isOn f l1 s) fun x1 s2 => oj (fun (s4 : rx_S) => oj (fun (s6 : rx_S) => D_M_tick_7 f k45 n (l1 + nI 1) s6) fun J5 => if (s4 30 0) = 0 then J5 s4 else ob (D_M_claim f s4) fun x7 s8 => J5 s8) fun J3 => if x1 = 0 then J3 s2 else ob (D_M_goOn f l1 s2) fun x9 s10 => J3 s10
def D_M_tick_49 (f : Nat) : Nat → Int32 → Int32 → rx_S → Option (Int32 × rx_S)
  | 0, _, _, _ => none
  | n + 1, l1, l2, s =>
    if (s 15 0) ≤ l2 then some (l1, s) else ob (D_M_isOn f l2 s) fun x12 s13 => oj (fun (x15 : Int32) => D_M_tick_49 f n x15 (l2 + nI 1) s13) fun J14 => oj (fun (_ : Unit) => J14 (l1 + (nI 1))) fun J16 => if x12 = 0 then og 16 l2 fun j17 => if (s13 18 j17) = (nI 3) then J16 () else J14 l1 else J16 ()
def D_M_tick (f : Nat) (s : rx_S) : Option (Int32 × rx_S) :=
  D_M_tick_7 f (fun  (s11 : rx_S) => D_M_tick_49 f f (nI 0) (nI 0) s11) f (nI 0) (rx_up s 0 0 (nI 0))
def D_M_batch (f : Nat) (l1 : Int32) (l2 : Int32) (s : rx_S) : Option (Int32 × rx_S) :=
  ob (D_M_in f l1 (nI 0) (nI 3) s) fun x1 s2 => oj (fun (x4 : Int32) (s5 : rx_S) => oj (fun (x7 : Int32) => ob (D_M_goes f x4 x7 s5) fun x8 s9 => if x8 = 0 then some (nI 0, s9) else og 16 (s9 15 0) fun j10 => og 16 ((rx_up s9 16 j10 l1) 15 0) fun j11 => some (((rx_up (rx_up (rx_up s9 16 j10 l1) 17 j11 l2) 15 0 (((rx_up (rx_up s9 16 j10 l1) 17 j11 l2) 15 0) + (nI 1))) 15 0) - (nI 1), rx_up (rx_up (rx_up s9 16 j10 l1) 17 j11 l2) 15 0 (((rx_up (rx_up s9 16 j10 l1) 17 j11 l2) 15 0) + (nI 1)))) fun J6 => oj (fun (_ : Unit) => J6 (nI 0)) fun J12 => if x4 = 0 then J12 () else og 4 l1 fun j13 => if (s5 8 j13) = 0 then J12 () else if (nI 16) ≤ (s5 15 0) then J12 () else J6 (nI 1)) fun J3 => oj (fun (s15 : rx_S) => J3 (nI 0) s15) fun J14 => if x1 = 0 then J14 s2 else ob (D_M_in f l2 (nI 0) (nI 1000) s2) fun x16 s17 => if x16 = 0 then J14 s17 else J3 (nI 1) s17
def D_M_isBatch (f : Nat) (l1 : Int32) (s : rx_S) : Option (Int32 × rx_S) :=
  ob (D_M_in f l1 (nI 0) ((s 15 0) - (nI 1)) s) fun x1 s2 => ozb x1 (some (x1, s2))
def D_M_start (f : Nat) (l1 : Int32) (s : rx_S) : Option (Int32 × rx_S) :=
  ob (D_M_isBatch f l1 s) fun x1 s2 => ob (D_M_isBatch f l1 s2) fun x3 s4 => oj (fun (x6 : Int32) => ob (D_M_goes f x1 x6 s4) fun x7 s8 => if x7 = 0 then some (nI 0, s8) else og 16 l1 fun j9 => og 16 ((rx_up s8 18 j9 (nI 1)) 28 0) fun j10 => ob (D_M_claim f (rx_up (rx_up (rx_up s8 18 j9 (nI 1)) 29 j10 l1) 28 0 (((rx_up (rx_up s8 18 j9 (nI 1)) 29 j10 l1) 28 0) + (nI 1)))) fun x11 s12 => some (s12 18 j9, s12)) fun J5 => oj (fun (_ : Unit) => J5 (nI 0)) fun J13 => if x3 = 0 then J13 () else og 16 l1 fun j14 => if (s4 18 j14) = 0 then J5 (nI 1) else J13 ()
def D_M_hold (f : Nat) (l1 : Int32) (s : rx_S) : Option (Int32 × rx_S) :=
  ob (D_M_isBatch f l1 s) fun x1 s2 => ob (D_M_isBatch f l1 s2) fun x3 s4 => oj (fun (x6 : Int32) => ob (D_M_goes f x1 x6 s4) fun x7 s8 => oj (fun (s10 : rx_S) => some (0, s10)) fun J9 => if x7 = 0 then J9 s8 else og 16 l1 fun j11 => J9 (rx_up s8 18 j11 (nI 3))) fun J5 => oj (fun (_ : Unit) => J5 (nI 0)) fun J12 => if x3 = 0 then J12 () else og 16 l1 fun j13 => if (s4 18 j13) = (nI 2) then J5 (nI 1) else J12 ()
def D_M_restart (f : Nat) (l1 : Int32) (s : rx_S) : Option (Int32 × rx_S) :=
  ob (D_M_isBatch f l1 s) fun x1 s2 => ob (D_M_isBatch f l1 s2) fun x3 s4 => oj (fun (x6 : Int32) => ob (D_M_goes f x1 x6 s4) fun x7 s8 => if x7 = 0 then some (nI 0, s8) else og 16 l1 fun j9 => some ((rx_up s8 18 j9 (nI 2)) 18 j9, rx_up s8 18 j9 (nI 2))) fun J5 => oj (fun (_ : Unit) => J5 (nI 0)) fun J10 => if x3 = 0 then J10 () else og 16 l1 fun j11 => if (s4 18 j11) = (nI 3) then J5 (nI 1) else J10 ()
def D_M_stop (f : Nat) (l1 : Int32) (s : rx_S) : Option (Int32 × rx_S) :=
  ob (D_M_isBatch f l1 s) fun x1 s2 => ob (D_M_isBatch f l1 s2) fun x3 s4 => oj (fun (x6 : Int32) => ob (D_M_goes f x1 x6 s4) fun x7 s8 => if x7 = 0 then some (nI 0, s8) else og 16 l1 fun j9 => ob (D_M_running f l1 (rx_up s8 18 j9 (nI 4))) fun x10 s11 => oj (fun (s13 : rx_S) => some (s13 18 j9, s13)) fun J12 => if x10 = 0 then ob (D_M_close f l1 (nI 5) s11) fun x14 s15 => ob (D_M_claim f s15) fun x16 s17 => J12 s17 else J12 s11) fun J5 => oj (fun (_ : Unit) => J5 (nI 0)) fun J18 => if x3 = 0 then J18 () else og 16 l1 fun j19 => oj (fun (_ : Unit) => J5 (nI 1)) fun J20 => if (s4 18 j19) = (nI 2) then J20 () else if (s4 18 j19) = (nI 3) then J20 () else J18 ()
def D_M_abort (f : Nat) (l1 : Int32) (s : rx_S) : Option (Int32 × rx_S) :=
  ob (D_M_isBatch f l1 s) fun x1 s2 => ob (D_M_isBatch f l1 s2) fun x3 s4 => oj (fun (x6 : Int32) (s7 : rx_S) => ob (D_M_goes f x1 x6 s7) fun x8 s9 => oj (fun (s11 : rx_S) => some (0, s11)) fun J10 => if x8 = 0 then J10 s9 else ob (D_M_close f l1 (nI 6) s9) fun x12 s13 => ob (D_M_claim f s13) fun x14 s15 => J10 s15) fun J5 => oj (fun (s17 : rx_S) => J5 (nI 0) s17) fun J16 => if x3 = 0 then J16 s4 else og 16 l1 fun j18 => ob (D_M_in f (s4 18 j18) (nI 1) (nI 4) s4) fun x19 s20 => if x19 = 0 then J16 s20 else J5 (nI 1) s20
def D_M_measure_48 (f : Nat) (l1 : Int32) (l2 : Int32) : Nat → Int32 → rx_S → Option (Int32 × rx_S)
  | 0, _, _ => none
  | n + 1, l4, s =>
    og 16 l1 fun j9 => if (s 19 j9) ≤ l4 then some (nI 1, s) else ob (D_M_stepAt f l1 l4 s) fun x10 s11 => og 128 (((nI 8) * l1) + l4) fun j12 => oj (fun (x14 : Int32) => ozb x14 <| D_M_measure_48 f l1 l2 n (l4 + nI 1) (rx_up s11 27 j12 x14)) fun J13 => oj (fun (_ : Unit) => J13 (nI 1)) fun J15 => if (s11 27 j12) = 0 then og 48 x10 fun j16 => oj (fun (_ : Unit) => J13 (nI 0)) fun J17 => if (s11 9 j16) = (nI 4) then if (s11 11 j16) = l2 then J15 () else J17 () else J17 () else J15 ()
def D_M_measure (f : Nat) (l1 : Int32) (l2 : Int32) (l3 : Int32) (s : rx_S) : Option (Int32 × rx_S) :=
  ob (D_M_isBatch f l1 (rx_up s 0 0 (nI 0))) fun x1 s2 => oj (fun (s4 : rx_S) => some (nI 0, s4)) fun J3 => if x1 = 0 then J3 s2 else ob (D_M_in f l2 (nI 0) (nI 3) s2) fun x5 s6 => if x5 = 0 then J3 s6 else og 16 l1 fun j7 => if (s6 18 j7) ≤ (nI 4) then og 64 (((nI 4) * l1) + l2) fun j8 => D_M_measure_48 f l1 l2 f (nI 0) (rx_up s6 20 j8 l3) else J3 s6
def D_M_batchIs (f : Nat) (l1 : Int32) (l2 : Int32) (s : rx_S) : Option (Int32 × rx_S) :=
  ob (D_M_isBatch f l1 (rx_up s 0 0 (nI 0))) fun x1 s2 => if x1 = 0 then some ((-1), s2) else if l2 = nI 0 then og 16 l1 fun j3 => some (s2 18 j3, s2) else if l2 = nI 1 then og 16 l1 fun j4 => some (s2 16 j4, s2) else if l2 = nI 2 then og 16 l1 fun j5 => some (s2 17 j5, s2) else if l2 = nI 3 then og 16 l1 fun j6 => some (s2 19 j6, s2) else if l2 = nI 4 then ob (D_M_running f l1 s2) fun x7 s8 => some (x7, s8) else some ((-1), s2)
def D_M_token (f : Nat) (l1 : Int32) (l2 : Int32) (s : rx_S) : Option (Int32 × rx_S) :=
  ob (D_M_isBatch f l1 (rx_up s 0 0 (nI 0))) fun x1 s2 => oj (fun (s4 : rx_S) => some ((-1), s4)) fun J3 => if x1 = 0 then J3 s2 else og 16 l1 fun j5 => ob (D_M_in f l2 (nI 0) ((s2 19 j5) - (nI 1)) s2) fun x6 s7 => if x6 = 0 then J3 s7 else og 128 (((nI 8) * l1) + l2) fun j8 => oj (fun (x10 : Int32) => some (x10, s7)) fun J9 => if (s7 26 j8) = 0 then J9 (s7 23 j8) else J9 ((s7 23 j8) + (nI 16))
def D_M_unitOf (f : Nat) (l1 : Int32) (l2 : Int32) (s : rx_S) : Option (Int32 × rx_S) :=
  ob (D_M_isBatch f l1 (rx_up s 0 0 (nI 0))) fun x1 s2 => oj (fun (x4 : Int32) (s5 : rx_S) => some (x4, s5)) fun J3 => oj (fun (s7 : rx_S) => J3 ((-1)) s7) fun J6 => if x1 = 0 then J6 s2 else ob (D_M_in f l2 (nI 0) (nI 2) s2) fun x8 s9 => if x8 = 0 then J6 s9 else og 48 (((nI 3) * l1) + l2) fun j10 => J3 (s9 22 j10) s9
def D_M_unitIs (f : Nat) (l1 : Int32) (l2 : Int32) (s : rx_S) : Option (Int32 × rx_S) :=
  ob (D_M_in f l1 (nI 0) (nI 5) (rx_up s 0 0 (nI 0))) fun x1 s2 => if x1 = 0 then some ((-1), s2) else if l2 = nI 0 then og 6 l1 fun j3 => some (s2 2 j3, s2) else if l2 = nI 1 then og 6 l1 fun j4 => some (s2 1 j4, s2) else if l2 = nI 2 then og 6 l1 fun j5 => some (s2 3 j5, s2) else if l2 = nI 3 then ob (D_M_total f l1 s2) fun x6 s7 => some (x6, s7) else some ((-1), s2)
def D_M_content (f : Nat) (l1 : Int32) (l2 : Int32) (l3 : Int32) (s : rx_S) : Option (Int32 × rx_S) :=
  ob (D_M_in f l1 (nI 0) (nI 5) (rx_up s 0 0 (nI 0))) fun x1 s2 => oj (fun (s4 : rx_S) => some ((-1), s4)) fun J3 => if x1 = 0 then J3 s2 else og 6 l1 fun j5 => ob (D_M_in f l2 (nI 0) ((s2 3 j5) - (nI 1)) s2) fun x6 s7 => if x6 = 0 then J3 s7 else ob (D_M_in f l3 (nI 0) (nI 1) s7) fun x8 s9 => if x8 = 0 then J3 s9 else oj (fun (x11 : Int32) => some (x11, s9)) fun J10 => if l3 = 0 then og 600 (((nI 100) * l1) + l2) fun j12 => J10 (s9 4 j12) else og 600 (((nI 100) * l1) + l2) fun j13 => J10 (s9 5 j13)
def D_M_amount_13 (f : Nat) (l1 : Int32) (l3 : Int32) (k65 : Int32 → rx_S → Option (Int32 × rx_S)) : Nat → Int32 → Int32 → rx_S → Option (Int32 × rx_S)
  | 0, _, _, _ => none
  | n + 1, l2, l4, s =>
    og 6 l3 fun j1 => if (s 3 j1) ≤ l4 then k65 l2 s else og 600 (((nI 100) * l3) + l4) fun j2 => oj (fun (x4 : Int32) => D_M_amount_13 f l1 l3 k65 n x4 (l4 + nI 1) s) fun J3 => if (s 4 j2) = l1 then J3 (l2 + (s 5 j2)) else J3 l2
def D_M_amount_4 (f : Nat) (l1 : Int32) : Nat → Int32 → Int32 → rx_S → Option (Int32 × rx_S)
  | 0, _, _, _ => none
  | n + 1, l2, l3, s =>
    if (nI 6) ≤ l3 then some (l2, s) else D_M_amount_13 f l1 l3 (fun (v5 : Int32) (s6 : rx_S) => D_M_amount_4 f l1 n v5 (l3 + nI 1) s6) f l2 (nI 0) s
def D_M_amount (f : Nat) (l1 : Int32) (s : rx_S) : Option (Int32 × rx_S) :=
  D_M_amount_4 f l1 f (nI 0) (nI 0) s
def D_M_lot_26 (f : Nat) (l1 : Int32) (l2 : Int32) (k60 : Int32 → rx_S → Option (Int32 × rx_S)) : Nat → Int32 → Int32 → rx_S → Option (Int32 × rx_S)
  | 0, _, _, _ => none
  | n + 1, l3, l4, s =>
    if (s 32 0) ≤ l4 then k60 l3 s else og 5000 l4 fun j3 => oj (fun (x5 : Int32) => D_M_lot_26 f l1 l2 k60 n x5 (l4 + nI 1) s) fun J4 => if (s 36 j3) = l1 then J4 (l3 + (nI 1)) else J4 l3
def D_M_lot (f : Nat) (l1 : Int32) (l2 : Int32) (s : rx_S) : Option (Int32 × rx_S) :=
  ob (D_M_in f l1 (nI 0) (((rx_up s 0 0 (nI 0)) 31 0) - (nI 1)) (rx_up s 0 0 (nI 0))) fun x1 s2 => if x1 = 0 then some ((-1), s2) else D_M_lot_26 f l1 l2 (fun (v6 : Int32) (s7 : rx_S) => if l2 = nI 0 then og 100 l1 fun j8 => some (s7 33 j8, s7) else if l2 = nI 1 then og 100 l1 fun j9 => some (s7 34 j9, s7) else if l2 = nI 2 then ob (D_M_amount f l1 s7) fun x10 s11 => some (x10, s11) else if l2 = nI 3 then og 101 (l1 + (nI 1)) fun j12 => og 101 l1 fun j13 => some ((s7 35 j12) - (s7 35 j13), s7) else if l2 = nI 4 then some (v6, s7) else some ((-1), s7)) f (nI 0) (nI 0) s2
def D_M_from (f : Nat) (l1 : Int32) (l2 : Int32) (l3 : Int32) (s : rx_S) : Option (Int32 × rx_S) :=
  ob (D_M_in f l1 (nI 0) (((rx_up s 0 0 (nI 0)) 31 0) - (nI 1)) (rx_up s 0 0 (nI 0))) fun x1 s2 => oj (fun (s4 : rx_S) => some ((-1), s4)) fun J3 => if x1 = 0 then J3 s2 else og 101 (l1 + (nI 1)) fun j5 => og 101 l1 fun j6 => ob (D_M_in f l2 (nI 0) (((s2 35 j5) - (s2 35 j6)) - (nI 1)) s2) fun x7 s8 => if x7 = 0 then J3 s8 else ob (D_M_in f l3 (nI 0) (nI 1) s8) fun x9 s10 => if x9 = 0 then J3 s10 else oj (fun (x12 : Int32) => some (x12, s10)) fun J11 => if l3 = 0 then og 5000 ((s10 35 j6) + l2) fun j13 => J11 (s10 36 j13) else og 5000 ((s10 35 j6) + l2) fun j14 => J11 (s10 37 j14)
def D_M_mark_2 (f : Nat) (l1 : Int32) (l2 : Int32) (k32 : rx_S → Option (Int32 × rx_S)) : Nat → Int32 → rx_S → Option (Int32 × rx_S)
  | 0, _, _ => none
  | n + 1, l3, s =>
    if (s 31 0) ≤ l3 then k32 s else oj (fun (x2 : Int32) => og 100 l3 fun j3 => ozb x2 <| D_M_mark_2 f l1 l2 k32 n (l3 + nI 1) (rx_up s 40 j3 x2)) fun J1 => if l3 = l1 then J1 (nI 1) else J1 (nI 0)
def D_M_mark_61 (f : Nat) (l2 : Int32) (l4 : Int32) (k179 : Int32 → rx_S → Option (Int32 × rx_S)) : Nat → Int32 → Int32 → rx_S → Option (Int32 × rx_S)
  | 0, _, _, _ => none
  | n + 1, l3, l5, s =>
    og 101 (l4 + (nI 1)) fun j6 => if (s 35 j6) ≤ l5 then k179 l3 s else oj (fun (x8 : Int32) => oj (fun (x10 : Int32) => oj (fun (x12 : Int32) => og 100 x10 fun j13 => oj (fun (x15 : Int32) => ozb x15 <| D_M_mark_61 f l2 l4 k179 n x12 (l5 + nI 1) (rx_up s 40 j13 x15)) fun J14 => oj (fun (_ : Unit) => J14 (nI 1)) fun J16 => if (s 40 j13) = 0 then og 100 x8 fun j17 => if (s 40 j17) = 0 then J14 (nI 0) else J16 () else J16 ()) fun J11 => oj (fun (_ : Unit) => J11 (nI 1)) fun J18 => if l3 = 0 then og 100 x8 fun j19 => oj (fun (_ : Unit) => J11 (nI 0)) fun J20 => if (s 40 j19) = 0 then J20 () else og 100 x10 fun j21 => if (s 40 j21) = 0 then J18 () else J20 () else J18 ()) fun J9 => if l2 = 0 then og 5000 l5 fun j22 => J9 (s 36 j22) else J9 l4) fun J7 => if l2 = 0 then J7 l4 else og 5000 l5 fun j23 => J7 (s 36 j23)
def D_M_mark_43 (f : Nat) (l2 : Int32) (k185 : Int32 → rx_S → Option (Int32 × rx_S)) : Nat → Int32 → Int32 → rx_S → Option (Int32 × rx_S)
  | 0, _, _, _ => none
  | n + 1, l3, l4, s =>
    if (s 31 0) ≤ l4 then k185 l3 s else og 101 l4 fun j5 => D_M_mark_61 f l2 l4 (fun (v24 : Int32) (s25 : rx_S) => D_M_mark_43 f l2 k185 n v24 (l4 + nI 1) s25) f l3 (s 35 j5) s
def D_M_mark_34 (f : Nat) (l2 : Int32) : Nat → Int32 → rx_S → Option (Int32 × rx_S)
  | 0, _, _ => none
  | n + 1, l3, s =>
    if l3 = 0 then some (0, s) else D_M_mark_43 f l2 (fun (v26 : Int32) (s27 : rx_S) => D_M_mark_34 f l2 n v26 s27) f (nI 0) (nI 0) s
def D_M_mark (f : Nat) (l1 : Int32) (l2 : Int32) (s : rx_S) : Option (Int32 × rx_S) :=
  D_M_mark_2 f l1 l2 (fun  (s4 : rx_S) => D_M_mark_34 f l2 f (nI 1) s4) f (nI 0) s
def D_M_trace_33 (f : Nat) (l1 : Int32) (l3 : Int32) : Nat → Int32 → Int32 → rx_S → Option (Int32 × rx_S)
  | 0, _, _, _ => none
  | n + 1, l4, l5, s =>
    if (s 31 0) ≤ l5 then some ((-1), s) else oj (fun (v6 : Int32) => D_M_trace_33 f l1 l3 n v6 (l5 + nI 1) s) fun J5 => if l5 = l1 then J5 l4 else og 100 l5 fun j7 => if (s 40 j7) = 0 then J5 l4 else if l4 = l3 then some (l5, s) else J5 (l4 + nI 1)
def D_M_trace (f : Nat) (l1 : Int32) (l2 : Int32) (l3 : Int32) (s : rx_S) : Option (Int32 × rx_S) :=
  ob (D_M_in f l1 (nI 0) (((rx_up s 0 0 (nI 0)) 31 0) - (nI 1)) (rx_up s 0 0 (nI 0))) fun x1 s2 => if x1 = 0 then some ((-1), s2) else ob (D_M_mark f l1 l2 s2) fun x3 s4 => D_M_trace_33 f l1 l3 f (nI 0) (nI 0) s4
def D_M_lots (f : Nat) (s : rx_S) : Option (Int32 × rx_S) :=
  some ((rx_up s 0 0 (nI 0)) 31 0, rx_up s 0 0 (nI 0))
