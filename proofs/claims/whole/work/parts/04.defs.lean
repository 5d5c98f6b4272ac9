def dW (cI cZ : ClassId) (a : Nat → Nat) (σ : MS) : va_W := [(a 0, .inr (5, [.ref (a 1), .ref (a 2), .ref (a 3), .ref (a 4), .ref (a 5), .ref (a 6), .ref (a 7)])), (a 1, .inr (0, [.ref (a 8), .ref (a 9), .ref (a 10), .ref (a 11), .ref (a 12), .int (σ.2 0)])), (a 2, .inr (1, [.ref (a 13), .ref (a 14), .ref (a 15), .ref (a 16), .ref (a 17), .ref (a 18), .ref (a 19), .int (σ.2 1)])), (a 3, .inr (2, [.ref (a 20), .ref (a 21), .ref (a 22), .ref (a 23), .ref (a 24), .int (σ.2 2)])), (a 4, .inr (4, [.ref (a 25), .ref (a 26), .int (σ.2 3)])), (a 5, .inr (3, [.ref (a 27), .int (σ.2 4)])), (a 6, .inr (3, [.ref (a 28), .int (σ.2 5)])), (a 7, .inl (cZ, 512, .inl (σ.1 7))), (a 8, .inl (cI, 40, .inl (σ.1 8))), (a 9, .inl (cI, 40, .inl (σ.1 9))), (a 10, .inl (cI, 40, .inl (σ.1 10))), (a 11, .inl (cI, 40, .inl (σ.1 11))), (a 12, .inl (cI, 40, .inl (σ.1 12))), (a 13, .inl (cI, 10, .inl (σ.1 13))), (a 14, .inl (cZ, 10, .inl (σ.1 14))), (a 15, .inl (cZ, 10, .inl (σ.1 15))), (a 16, .inl (cI, 310, .inl (σ.1 16))), (a 17, .inl (cI, 310, .inl (σ.1 17))), (a 18, .inl (cI, 310, .inl (σ.1 18))), (a 19, .inl (cZ, 310, .inl (σ.1 19))), (a 20, .inl (cI, 512, .inl (σ.1 20))), (a 21, .inl (cI, 512, .inl (σ.1 21))), (a 22, .inl (cI, 512, .inl (σ.1 22))), (a 23, .inl (cI, 512, .inl (σ.1 23))), (a 24, .inl (cI, 512, .inl (σ.1 24))), (a 25, .inl (cI, 60, .inl (σ.1 25))), (a 26, .inl (cZ, 60, .inl (σ.1 26))), (a 27, .inl (cI, 512, .inl (σ.1 27))), (a 28, .inl (cI, 512, .inl (σ.1 28)))]
def dAd (a : Nat → Nat) : Nat → Prop := fun q => q ∈ [a 0, a 1, a 2, a 3, a 4, a 5, a 6, a 7, a 8, a 9, a 10, a 11, a 12, a 13, a 14, a 15, a 16, a 17, a 18, a 19, a 20, a 21, a 22, a 23, a 24, a 25, a 26, a 27, a 28]

def rW (cI cZ : ClassId) (a : Nat → Nat) (σ : MS) : va_W := [(a 0, .inr (6, [.int (σ.2 0), .ref (a 1), .ref (a 2), .ref (a 3), .ref (a 4), .ref (a 5), .int (σ.2 6), .ref (a 7), .ref (a 8), .ref (a 9), .ref (a 10), .ref (a 11), .ref (a 12), .ref (a 13), .int (σ.2 14), .ref (a 15), .ref (a 16), .ref (a 17), .ref (a 18), .ref (a 19), .int (σ.2 20), .ref (a 21), .ref (a 22), .int (σ.2 23), .ref (a 24), .int (σ.2 25), .ref (a 26), .ref (a 27), .ref (a 28), .ref (a 29), .ref (a 30), .int (σ.2 31), .ref (a 32)])), (a 1, .inl (cI, 40, .inl (σ.1 1))), (a 2, .inl (cI, 40, .inl (σ.1 2))), (a 3, .inl (cI, 40, .inl (σ.1 3))), (a 4, .inl (cI, 40, .inl (σ.1 4))), (a 5, .inl (cI, 40, .inl (σ.1 5))), (a 7, .inl (cI, 10, .inl (σ.1 7))), (a 8, .inl (cZ, 10, .inl (σ.1 8))), (a 9, .inl (cZ, 10, .inl (σ.1 9))), (a 10, .inl (cI, 310, .inl (σ.1 10))), (a 11, .inl (cI, 310, .inl (σ.1 11))), (a 12, .inl (cI, 310, .inl (σ.1 12))), (a 13, .inl (cZ, 310, .inl (σ.1 13))), (a 15, .inl (cI, 1000, .inl (σ.1 15))), (a 16, .inl (cI, 1000, .inl (σ.1 16))), (a 17, .inl (cI, 1000, .inl (σ.1 17))), (a 18, .inl (cI, 1000, .inl (σ.1 18))), (a 19, .inl (cI, 1000, .inl (σ.1 19))), (a 21, .inl (cI, 60, .inl (σ.1 21))), (a 22, .inl (cZ, 60, .inl (σ.1 22))), (a 24, .inl (cI, 1000, .inl (σ.1 24))), (a 26, .inl (cI, 1300, .inl (σ.1 26))), (a 27, .inl (cI, 1300, .inl (σ.1 27))), (a 28, .inl (cI, 1300, .inl (σ.1 28))), (a 29, .inl (cI, 1300, .inl (σ.1 29))), (a 30, .inl (cZ, 1300, .inl (σ.1 30))), (a 32, .inl (cZ, 1000, .inl (σ.1 32)))]
def rAd (a : Nat → Nat) : Nat → Prop := fun q => q ∈ [a 0, a 1, a 2, a 3, a 4, a 5, a 7, a 8, a 9, a 10, a 11, a 12, a 13, a 15, a 16, a 17, a 18, a 19, a 21, a 22, a 24, a 26, a 27, a 28, a 29, a 30, a 32]

def sX5_slot (σ : MS) (p0 : Int32) (p1 : Int32) : Option Int32 :=
  some ((p0 * (31 : Int32)) + p1)
def sX1_madeOrGiven (σ : MS) (p1 : Int32) (p2 : Int32) : Option Int32 :=
  (sX5_slot σ p1 p2).bind fun r_1 =>
  if gi r_1 310 then
  if (σ.1 17 (r_1.toNatClampNeg)) = (-1 : Int32) then
    (sX5_slot σ p1 p2).bind fun r_4 =>
    if gi r_4 310 then
    some (σ.1 18 (r_4.toNatClampNeg))
    else none
  else
    some (σ.1 17 (r_1.toNatClampNeg))
  else none
def sX1_isProgram (σ : MS) (p1 : Int32) : Option Int32 :=
  if gi p1 10 then
  if (σ.1 13 (p1.toNatClampNeg)) = (-1 : Int32) then
    some (0 : Int32)
  else
    some (1 : Int32)
  else none
def sX0_hasFlag (σ : MS) (p1 : Int32) (p2 : Int32) : Option Int32 :=
  if gi p1 40 then
  if ((σ.1 12 (p1.toNatClampNeg)) &&& p2) = (0 : Int32) then
    some (0 : Int32)
  else
    some (1 : Int32)
  else none
def sX5_failureAhead (σ : MS) (p1 : Int32) (p2 : Int32) (p3 : Int32) : Option Int32 :=
  if gi p3 40 then
  if (σ.1 8 (p3.toNatClampNeg)) = p2 then
    if (4 : Int32) ≤ p2 then
      (sX0_hasFlag σ p3 (1 : Int32)).bind fun r_4 =>
      if r_4 = (0 : Int32) then
        some (1 : Int32)
      else
        some (-16 : Int32)
    else
      (sX1_isProgram σ p1).bind fun r_6 =>
      if r_6 = (0 : Int32) then
        (sX0_hasFlag σ p3 (1 : Int32)).bind fun r_8 =>
        if r_8 = (0 : Int32) then
          some (1 : Int32)
        else
          some (-16 : Int32)
      else
        some (-14 : Int32)
  else
    some (-13 : Int32)
  else none
def sX2_add (σ : MS) (p1 : Int32) (p2 : Int32) (p3 : Int32) (p4 : Int32) : Option (Int32 × MS) :=
  if (σ.2 2) < (512 : Int32) then
    if gi (σ.2 2) 512 then
    some ((σ.2 2), (sZ (sA (sA (sA (sA (sA σ 20 ((σ.2 2).toNatClampNeg) p1) 21 ((σ.2 2).toNatClampNeg) p2) 22 ((σ.2 2).toNatClampNeg) p3) 23 ((σ.2 2).toNatClampNeg) p4) 24 ((σ.2 2).toNatClampNeg) (0 : Int32)) 2 ((σ.2 2) + (1 : Int32))))
    else none
  else
    some ((-4 : Int32), σ)
def sX5_stand (σ : MS) (p1 : Int32) (p2 : Int32) (p3 : Int32) (p4 : Int32) : Option (Int32 × MS) :=
  (sX2_add σ p1 p2 p3 p4).bind fun q_1 =>
  if q_1.1 < (0 : Int32) then
    some (q_1.1, q_1.2)
  else
    (sX5_slot q_1.2 p1 p2).bind fun r_3 =>
    if gi r_3 310 then
    some (q_1.1, (sA q_1.2 17 (r_3.toNatClampNeg) q_1.1))
    else none
def bX5_ask (fr : Nat → MS → Int32 → Int32 → Int32 → Int32 → Option (Int32 × MS)) (σ : MS) (p1 : Int32) (p2 : Int32) (p3 : Int32) : Option (Int32 × MS) :=
  (sX1_madeOrGiven σ p1 p2).bind fun r_1 =>
  if r_1 = (-1 : Int32) then
    (sX1_isProgram σ p1).bind fun r_3 =>
    if gi p1 10 then
    if r_3 = (0 : Int32) then
      (sX5_slot σ p1 p2).bind fun r_6 =>
      if gi r_6 310 then
      if (σ.1 16 (r_6.toNatClampNeg)) = (-1 : Int32) then
        some ((-11 : Int32), σ)
      else
        (fr 2 σ p1 p2 (σ.1 16 (r_6.toNatClampNeg)) p3).bind fun q_9 =>
        some (q_9.1, q_9.2)
      else none
    else
      if (σ.1 14 (p1.toNatClampNeg)) = (0 : Int32) then
        (fr 1 σ p1 p2 p3 (0 : Int32)).bind fun q_16 =>
        if q_16.1 = (-11 : Int32) then
          (sX5_slot q_16.2 p1 p2).bind fun r_18 =>
          if gi r_18 310 then
          if (q_16.2.1 16 (r_18.toNatClampNeg)) = (-1 : Int32) then
            some ((-11 : Int32), q_16.2)
          else
            (fr 2 q_16.2 p1 p2 (q_16.2.1 16 (r_18.toNatClampNeg)) p3).bind fun q_21 =>
            some (q_21.1, q_21.2)
          else none
        else
          some (q_16.1, q_16.2)
      else
        (sX5_slot σ p1 p2).bind fun r_11 =>
        if gi r_11 310 then
        if (σ.1 16 (r_11.toNatClampNeg)) = (-1 : Int32) then
          (fr 1 σ p1 p2 p3 (0 : Int32)).bind fun q_14 =>
          some (q_14.1, q_14.2)
        else
          (fr 2 σ p1 p2 (σ.1 16 (r_11.toNatClampNeg)) p3).bind fun q_15 =>
          some (q_15.1, q_15.2)
        else none
    else none
  else
    some (r_1, σ)
def bX5_askLibrary (fr : Nat → MS → Int32 → Int32 → Int32 → Int32 → Option (Int32 × MS)) (σ : MS) (p1 : Int32) (p2 : Int32) (p3 : Int32) : Option (Int32 × MS) :=
  if gi p1 10 then
  (fr 0 σ (σ.1 13 (p1.toNatClampNeg)) p2 p3 (0 : Int32)).bind fun q_2 =>
  if q_2.1 < (0 : Int32) then
    some (q_2.1, q_2.2)
  else
    (sX5_slot q_2.2 p1 p2).bind fun r_4 =>
    if gi r_4 310 then
    some (q_2.1, (sA q_2.2 18 (r_4.toNatClampNeg) q_2.1))
    else none
  else none
def bX5_make (fr : Nat → MS → Int32 → Int32 → Int32 → Int32 → Option (Int32 × MS)) (σ : MS) (p1 : Int32) (p2 : Int32) (p3 : Int32) (p4 : Int32) : Option (Int32 × MS) :=
  (sX5_failureAhead σ p1 p2 p3).bind fun r_1 =>
  if r_1 = (1 : Int32) then
    if gi p3 40 then
    if (σ.1 10 (p3.toNatClampNeg)) = (-1 : Int32) then
      (sX5_stand σ p1 p2 p3 (-1 : Int32)).bind fun q_14 =>
      some (q_14.1, q_14.2)
    else
      (sX5_slot σ p1 p2).bind fun r_5 =>
      if gi r_5 310 then
      (sX5_slot (sA σ 19 (r_5.toNatClampNeg) (1 : Int32)) p1 (σ.1 10 (p3.toNatClampNeg))).bind fun r_7 =>
      if gi r_7 310 then
      if ((sA σ 19 (r_5.toNatClampNeg) (1 : Int32)).1 19 (r_7.toNatClampNeg)) = (0 : Int32) then
        if p4 < (62 : Int32) then
          (fr 0 (sA σ 19 (r_5.toNatClampNeg) (1 : Int32)) p1 (σ.1 10 (p3.toNatClampNeg)) (p4 + (1 : Int32)) (0 : Int32)).bind fun q_11 =>
          if q_11.1 < (0 : Int32) then
            some (q_11.1, (sA q_11.2 19 (r_5.toNatClampNeg) (0 : Int32)))
          else
            (sX5_stand (sA q_11.2 19 (r_5.toNatClampNeg) (0 : Int32)) p1 p2 p3 q_11.1).bind fun q_13 =>
            some (q_13.1, q_13.2)
        else
          some ((-15 : Int32), (sA (sA σ 19 (r_5.toNatClampNeg) (1 : Int32)) 19 (r_5.toNatClampNeg) (0 : Int32)))
      else
        some ((-15 : Int32), (sA (sA σ 19 (r_5.toNatClampNeg) (1 : Int32)) 19 (r_5.toNatClampNeg) (0 : Int32)))
      else none
      else none
    else none
  else
    some (r_1, σ)
def sRec : Nat → Nat → MS → Int32 → Int32 → Int32 → Int32 → Option (Int32 × MS)
  | 0, _, _, _, _, _, _ => none
  | n + 1, 0, σ, v0, v1, v2, _ => bX5_ask (sRec n) σ v0 v1 v2
  | n + 1, 1, σ, v0, v1, v2, _ => bX5_askLibrary (sRec n) σ v0 v1 v2
  | n + 1, _, σ, v0, v1, v2, v3 => bX5_make (sRec n) σ v0 v1 v2 v3
def sX5_isName (σ : MS) (p0 : Int32) : Option Int32 :=
  if p0 < (0 : Int32) then
    some (0 : Int32)
  else
    if (31 : Int32) ≤ p0 then
      some (0 : Int32)
    else
      some (1 : Int32)
def sX5_isNameOrNone (σ : MS) (p0 : Int32) : Option Int32 :=
  if p0 = (-1 : Int32) then
    some (1 : Int32)
  else
    (sX5_isName σ p0).bind fun r_2 =>
    if r_2 = (0 : Int32) then
      some (0 : Int32)
    else
      some (1 : Int32)
def sX0_add (σ : MS) (p1 : Int32) (p2 : Int32) (p3 : Int32) (p4 : Int32) (p5 : Int32) : Option (Int32 × MS) :=
  if (σ.2 0) < (40 : Int32) then
    if gi (σ.2 0) 40 then
    some ((σ.2 0), (sZ (sA (sA (sA (sA (sA σ 8 ((σ.2 0).toNatClampNeg) p1) 9 ((σ.2 0).toNatClampNeg) p2) 10 ((σ.2 0).toNatClampNeg) p3) 11 ((σ.2 0).toNatClampNeg) p4) 12 ((σ.2 0).toNatClampNeg) p5) 0 ((σ.2 0) + (1 : Int32))))
    else none
  else
    some ((-4 : Int32), σ)
def sX5_file (σ : MS) (p1 : Int32) (p2 : Int32) (p3 : Int32) (p4 : Int32) (p5 : Int32) : Option (Int32 × MS) :=
  (sX5_isName σ p1).bind fun r_1 =>
  if r_1 = (0 : Int32) then
    some ((-2 : Int32), σ)
  else
    (sX5_isNameOrNone σ p3).bind fun r_3 =>
    if r_3 = (0 : Int32) then
      some ((-2 : Int32), σ)
    else
      (sX5_isNameOrNone σ p4).bind fun r_5 =>
      if r_5 = (0 : Int32) then
        some ((-2 : Int32), σ)
      else
        if p5 < (0 : Int32) then
          some ((-2 : Int32), σ)
        else
          if p5 ≤ (3 : Int32) then
            (sX0_add σ p1 p2 p3 p4 p5).bind fun q_9 =>
            some (q_9.1, q_9.2)
          else
            some ((-2 : Int32), σ)
def sX1_add (σ : MS) (p1 : Int32) (p2 : Int32) : Option (Int32 × MS) :=
  if (σ.2 1) < (10 : Int32) then
    if gi (σ.2 1) 10 then
    some ((σ.2 1), (sZ (sA (sA σ 13 ((σ.2 1).toNatClampNeg) p1) 14 ((σ.2 1).toNatClampNeg) (vp_nar .boolean p2)) 1 ((σ.2 1) + (1 : Int32))))
    else none
  else
    some ((-4 : Int32), σ)
def sX1_has (σ : MS) (p1 : Int32) : Option Int32 :=
  if p1 < (0 : Int32) then
    some (0 : Int32)
  else
    if (σ.2 1) ≤ p1 then
      some (0 : Int32)
    else
      some (1 : Int32)
def sX5_loader (σ : MS) (p1 : Int32) (p2 : Int32) : Option (Int32 × MS) :=
  if p1 = (-1 : Int32) then
    (sX1_add σ p1 p2).bind fun q_2 =>
    some (q_2.1, q_2.2)
  else
    (sX1_has σ p1).bind fun r_3 =>
    if r_3 = (0 : Int32) then
      some ((-2 : Int32), σ)
    else
      (sX1_isProgram σ p1).bind fun r_5 =>
      if r_5 = (0 : Int32) then
        if gi p1 10 then
        if (σ.1 15 (p1.toNatClampNeg)) = (0 : Int32) then
          (sX1_add σ p1 p2).bind fun q_9 =>
          some (q_9.1, q_9.2)
        else
          some ((-3 : Int32), σ)
        else none
      else
        some ((-2 : Int32), σ)
def sX0_has (σ : MS) (p1 : Int32) : Option Int32 :=
  if p1 < (0 : Int32) then
    some (0 : Int32)
  else
    if (σ.2 0) ≤ p1 then
      some (0 : Int32)
    else
      some (1 : Int32)
def sX5_put (σ : MS) (p1 : Int32) (p2 : Int32) (p3 : Int32) : Option (Int32 × MS) :=
  (sX1_has σ p1).bind fun r_1 =>
  if r_1 = (0 : Int32) then
    some ((-2 : Int32), σ)
  else
    (sX5_isName σ p2).bind fun r_3 =>
    if r_3 = (0 : Int32) then
      some ((-2 : Int32), σ)
    else
      (sX0_has σ p3).bind fun r_5 =>
      if r_5 = (0 : Int32) then
        some ((-2 : Int32), σ)
      else
        if gi p1 10 then
        if (σ.1 15 (p1.toNatClampNeg)) = (0 : Int32) then
          (sX5_slot σ p1 p2).bind fun r_9 =>
          if gi r_9 310 then
          some ((1 : Int32), (sA σ 16 (r_9.toNatClampNeg) p3))
          else none
        else
          some ((-3 : Int32), σ)
        else none
def sX5_load (σ : MS) (p1 : Int32) (p2 : Int32) : Option (Int32 × MS) :=
  (sX1_has σ p1).bind fun r_1 =>
  if r_1 = (0 : Int32) then
    some ((-2 : Int32), σ)
  else
    (sX5_isName σ p2).bind fun r_3 =>
    if r_3 = (0 : Int32) then
      some ((-2 : Int32), σ)
    else
      if gi p1 10 then
      if (σ.1 15 (p1.toNatClampNeg)) = (0 : Int32) then
        (sRec 300 0 σ p1 p2 (0 : Int32) (0 : Int32)).bind fun q_7 =>
        some (q_7.1, q_7.2)
      else
        some ((-3 : Int32), σ)
      else none
def sX5_define (σ : MS) (p1 : Int32) (p2 : Int32) (p3 : Int32) : Option (Int32 × MS) :=
  (sX1_has σ p1).bind fun r_1 =>
  if r_1 = (0 : Int32) then
    some ((-2 : Int32), σ)
  else
    (sX5_isName σ p2).bind fun r_3 =>
    if r_3 = (0 : Int32) then
      some ((-2 : Int32), σ)
    else
      (sX0_has σ p3).bind fun r_5 =>
      if r_5 = (0 : Int32) then
        some ((-2 : Int32), σ)
      else
        if gi p1 10 then
        if (σ.1 15 (p1.toNatClampNeg)) = (0 : Int32) then
          (sX5_slot σ p1 p2).bind fun r_9 =>
          if gi r_9 310 then
          if (σ.1 17 (r_9.toNatClampNeg)) = (-1 : Int32) then
            (sRec 300 2 σ p1 p2 p3 (0 : Int32)).bind fun q_12 =>
            some (q_12.1, q_12.2)
          else
            some ((-12 : Int32), σ)
          else none
        else
          some ((-3 : Int32), σ)
        else none
def sX5_anew (σ : MS) (p1 : Int32) (p2 : Int32) (p3 : Int32) : Option (Int32 × MS) :=
  (sX1_has σ p1).bind fun r_1 =>
  if r_1 = (0 : Int32) then
    some ((-2 : Int32), σ)
  else
    (sX5_isName σ p2).bind fun r_3 =>
    if r_3 = (0 : Int32) then
      some ((-2 : Int32), σ)
    else
      (sX0_has σ p3).bind fun r_5 =>
      if r_5 = (0 : Int32) then
        some ((-2 : Int32), σ)
      else
        if gi p1 10 then
        if (σ.1 15 (p1.toNatClampNeg)) = (0 : Int32) then
          (sX5_slot σ p1 p2).bind fun r_9 =>
          if gi r_9 310 then
          if (σ.1 17 (r_9.toNatClampNeg)) = (-1 : Int32) then
            some ((-3 : Int32), σ)
          else
            (sRec 300 2 σ p1 p2 p3 (0 : Int32)).bind fun q_12 =>
            some (q_12.1, q_12.2)
          else none
        else
          some ((-3 : Int32), σ)
        else none
def sX5_known (σ : MS) (p1 : Int32) (p2 : Int32) : Option Int32 :=
  (sX1_has σ p1).bind fun r_1 =>
  if r_1 = (0 : Int32) then
    some (-2 : Int32)
  else
    (sX5_isName σ p2).bind fun r_3 =>
    if r_3 = (0 : Int32) then
      some (-2 : Int32)
    else
      (sX1_madeOrGiven σ p1 p2).bind fun r_5 =>
      some r_5
def sX2_has (σ : MS) (p1 : Int32) : Option Int32 :=
  if p1 < (0 : Int32) then
    some (0 : Int32)
  else
    if (σ.2 2) ≤ p1 then
      some (0 : Int32)
    else
      some (1 : Int32)
def sX3_add_6 (σ : MS) (p1 : Int32) : Option MS :=
  if (512 : Int32) ≤ (σ.2 5) then
    some σ
  else
    if gi (σ.2 5) 512 then
    some (sA (sZ σ 5 ((σ.2 5) + (1 : Int32))) 28 ((σ.2 5).toNatClampNeg) p1)
    else none
def sX5_comeTo (σ : MS) (p1 : Int32) : Option (Int32 × MS) :=
  if gi p1 512 then
  if (σ.1 24 (p1.toNatClampNeg)) = (2 : Int32) then
    some ((-18 : Int32), σ)
  else
    if (σ.1 24 (p1.toNatClampNeg)) = (0 : Int32) then
      (sX3_add_6 (sA σ 24 (p1.toNatClampNeg) (3 : Int32)) p1).bind fun u_4 =>
      some ((1 : Int32), u_4)
    else
      some ((1 : Int32), σ)
  else none
def sX5_comeToNeed (σ : MS) (p1 : Int32) : Option (Int32 × MS) :=
  if gi p1 512 then
  if gi (σ.1 22 (p1.toNatClampNeg)) 40 then
  if (σ.1 11 ((σ.1 22 (p1.toNatClampNeg)).toNatClampNeg)) = (-1 : Int32) then
    some ((1 : Int32), σ)
  else
    (sRec 300 0 σ (σ.1 20 (p1.toNatClampNeg)) (σ.1 11 ((σ.1 22 (p1.toNatClampNeg)).toNatClampNeg)) (0 : Int32) (0 : Int32)).bind fun q_4 =>
    if q_4.1 < (0 : Int32) then
      some (q_4.1, q_4.2)
    else
      (sX5_comeTo q_4.2 q_4.1).bind fun q_6 =>
      some (q_6.1, q_6.2)
  else none
  else none
def sX3_add_5 (σ : MS) (p1 : Int32) : Option MS :=
  if (512 : Int32) ≤ (σ.2 4) then
    some σ
  else
    if gi (σ.2 4) 512 then
    some (sA (sZ σ 4 ((σ.2 4) + (1 : Int32))) 27 ((σ.2 4).toNatClampNeg) p1)
    else none
def sX5_beginItself (σ : MS) (p1 : Int32) : Option (Int32 × MS) :=
  if gi p1 512 then
  (sX0_hasFlag σ (σ.1 22 (p1.toNatClampNeg)) (2 : Int32)).bind fun r_2 =>
  if r_2 = (0 : Int32) then
    if gi (σ.1 22 (p1.toNatClampNeg)) 40 then
    (sX3_add_5 σ (σ.1 9 ((σ.1 22 (p1.toNatClampNeg)).toNatClampNeg))).bind fun u_5 =>
    some ((1 : Int32), (sZ (sA u_5 24 (p1.toNatClampNeg) (1 : Int32)) 5 ((u_5.2 5) - (1 : Int32))))
    else none
  else
    some ((-17 : Int32), σ)
  else none
def sX5_goOn (σ : MS) (p1 : Int32) : Option (Int32 × MS) :=
  if gi p1 512 then
  if (σ.1 24 (p1.toNatClampNeg)) = (3 : Int32) then
    if (σ.1 23 (p1.toNatClampNeg)) = (-1 : Int32) then
      some ((1 : Int32), (sA σ 24 (p1.toNatClampNeg) (4 : Int32)))
    else
      (sX5_comeTo (sA σ 24 (p1.toNatClampNeg) (4 : Int32)) (σ.1 23 (p1.toNatClampNeg))).bind fun q_3 =>
      some (q_3.1, q_3.2)
  else
    if (σ.1 24 (p1.toNatClampNeg)) = (4 : Int32) then
      (sX5_comeToNeed (sA σ 24 (p1.toNatClampNeg) (5 : Int32)) p1).bind fun q_4 =>
      some (q_4.1, q_4.2)
    else
      (sX5_beginItself σ p1).bind fun q_5 =>
      some (q_5.1, q_5.2)
  else none
def sX5_beginFrom_L58 (fu : Nat) : Nat → MS → Int32 → Int32 → Int32 → Option (Int32 × MS)
  | 0, _, _, _, _ => none
  | n + 1, σ, x1, x2, x3 =>
    if (σ.2 5) ≤ (0 : Int32) then
      some (x2, σ)
    else
      if gi ((σ.2 5) - (1 : Int32)) 512 then
      if gi (σ.1 28 (((σ.2 5) - (1 : Int32)).toNatClampNeg)) 512 then
      sX5_beginFrom_L58 fu n (sZ (sA σ 24 ((σ.1 28 (((σ.2 5) - (1 : Int32)).toNatClampNeg)).toNatClampNeg) (2 : Int32)) 5 ((σ.2 5) - (1 : Int32))) x1 x2 x3
      else none
      else none
def sX5_beginFrom_L8 (fu : Nat) : Nat → MS → Int32 → Int32 → Int32 → Option (Int32 × MS)
  | 0, _, _, _, _ => none
  | n + 1, σ, x1, x2, x3 =>
    if (1536 : Int32) ≤ x3 then
      sX5_beginFrom_L58 fu fu σ x1 x2 x3
    else
      if x2 = (1 : Int32) then
        if (σ.2 5) ≤ (0 : Int32) then
          sX5_beginFrom_L58 fu fu σ x1 x2 x3
        else
          if gi ((σ.2 5) - (1 : Int32)) 512 then
          (sX5_goOn σ (σ.1 28 (((σ.2 5) - (1 : Int32)).toNatClampNeg))).bind fun q_5 =>
          sX5_beginFrom_L8 fu n q_5.2 x1 q_5.1 (x3 + (1 : Int32))
          else none
      else
        sX5_beginFrom_L58 fu fu σ x1 x2 x3
def sX5_beginFrom (fu : Nat) (σ : MS) (p1 : Int32) : Option (Int32 × MS) :=
  (sX5_comeTo σ p1).bind fun q_1 =>
  sX5_beginFrom_L8 fu fu q_1.2 p1 q_1.1 (0 : Int32)
def sX5_begin (fu : Nat) (σ : MS) (p1 : Int32) : Option (Int32 × MS) :=
  (sX2_has σ p1).bind fun r_1 =>
  if r_1 = (0 : Int32) then
    some ((-2 : Int32), σ)
  else
    if gi p1 512 then
    if gi (σ.1 20 (p1.toNatClampNeg)) 10 then
    if (σ.1 15 ((σ.1 20 (p1.toNatClampNeg)).toNatClampNeg)) = (0 : Int32) then
      (sX5_beginFrom fu σ p1).bind fun q_6 =>
      some (q_6.1, q_6.2)
    else
      some ((-3 : Int32), σ)
    else none
    else none
def sX4_areFull (σ : MS) : Option Int32 :=
  if (σ.2 3) < (60 : Int32) then
    some (0 : Int32)
  else
    some (1 : Int32)
def sX4_add (σ : MS) (p1 : Int32) : Option (Int32 × MS) :=
  (sX4_areFull σ).bind fun r_1 =>
  if r_1 = (0 : Int32) then
    if gi (σ.2 3) 60 then
    some ((σ.2 3), (sZ (sA σ 25 ((σ.2 3).toNatClampNeg) p1) 3 ((σ.2 3) + (1 : Int32))))
    else none
  else
    some ((-4 : Int32), σ)
def sX5_thing (fu : Nat) (σ : MS) (p1 : Int32) : Option (Int32 × MS) :=
  (sX2_has σ p1).bind fun r_1 =>
  if r_1 = (0 : Int32) then
    some ((-2 : Int32), σ)
  else
    if gi p1 512 then
    if gi (σ.1 20 (p1.toNatClampNeg)) 10 then
    if (σ.1 15 ((σ.1 20 (p1.toNatClampNeg)).toNatClampNeg)) = (0 : Int32) then
      (sX4_areFull σ).bind fun r_6 =>
      if r_6 = (0 : Int32) then
        (sX5_beginFrom fu σ p1).bind fun q_8 =>
        if q_8.1 = (1 : Int32) then
          (sX4_add q_8.2 p1).bind fun q_10 =>
          some (q_10.1, q_10.2)
        else
          some (q_8.1, q_8.2)
      else
        some ((-4 : Int32), σ)
    else
      some ((-3 : Int32), σ)
    else none
    else none
def sX4_has (σ : MS) (p1 : Int32) : Option Int32 :=
  if p1 < (0 : Int32) then
    some (0 : Int32)
  else
    if (σ.2 3) ≤ p1 then
      some (0 : Int32)
    else
      some (1 : Int32)
def sX2_isOrDescends_L5 (fu : Nat) : Nat → MS → Int32 → Int32 → Int32 → Int32 → Option Int32
  | 0, _, _, _, _, _ => none
  | n + 1, σ, x1, x2, x3, x4 =>
    if (σ.2 2) ≤ x4 then
      some (0 : Int32)
    else
      if x3 = (-1 : Int32) then
        some (0 : Int32)
      else
        if x3 = x2 then
          some (1 : Int32)
        else
          if gi x3 512 then
          sX2_isOrDescends_L5 fu n σ x1 x2 (σ.1 23 (x3.toNatClampNeg)) (x4 + (1 : Int32))
          else none
def sX2_isOrDescends (fu : Nat) (σ : MS) (p1 : Int32) (p2 : Int32) : Option Int32 :=
  sX2_isOrDescends_L5 fu fu σ p1 p2 p1 (0 : Int32)
def sX5_cast (fu : Nat) (σ : MS) (p1 : Int32) (p2 : Int32) : Option Int32 :=
  (sX4_has σ p1).bind fun r_1 =>
  if r_1 = (0 : Int32) then
    some (-2 : Int32)
  else
    (sX2_has σ p2).bind fun r_3 =>
    if r_3 = (0 : Int32) then
      some (-2 : Int32)
    else
      if gi p1 60 then
      if (σ.1 26 (p1.toNatClampNeg)) = (0 : Int32) then
        (sX2_isOrDescends fu σ (σ.1 25 (p1.toNatClampNeg)) p2).bind fun r_7 =>
        if r_7 = (0 : Int32) then
          some (-19 : Int32)
        else
          some (1 : Int32)
      else
        some (-3 : Int32)
      else none
def sX5_drop (σ : MS) (p1 : Int32) : Option (Int32 × MS) :=
  (sX4_has σ p1).bind fun r_1 =>
  if r_1 = (0 : Int32) then
    some ((-2 : Int32), σ)
  else
    if gi p1 60 then
    if (σ.1 26 (p1.toNatClampNeg)) = (0 : Int32) then
      some ((1 : Int32), (sA σ 26 (p1.toNatClampNeg) (1 : Int32)))
    else
      some ((-3 : Int32), σ)
    else none
def sX1_hasLiveProgram_L2 (fu : Nat) : Nat → MS → Int32 → Int32 → Option Int32
  | 0, _, _, _ => none
  | n + 1, σ, x1, x2 =>
    if (σ.2 1) ≤ x2 then
      some (0 : Int32)
    else
      if gi x2 10 then
      if (σ.1 13 (x2.toNatClampNeg)) = x1 then
        if (σ.1 15 (x2.toNatClampNeg)) = (0 : Int32) then
          some (1 : Int32)
        else
          sX1_hasLiveProgram_L2 fu n σ x1 (x2 + (1 : Int32))
      else
        sX1_hasLiveProgram_L2 fu n σ x1 (x2 + (1 : Int32))
      else none
def sX1_hasLiveProgram (fu : Nat) (σ : MS) (p1 : Int32) : Option Int32 :=
  sX1_hasLiveProgram_L2 fu fu σ p1 (0 : Int32)
def sX5_letGo (fu : Nat) (σ : MS) (p1 : Int32) : Option (Int32 × MS) :=
  (sX1_has σ p1).bind fun r_1 =>
  if r_1 = (0 : Int32) then
    some ((-2 : Int32), σ)
  else
    if gi p1 10 then
    if (σ.1 15 (p1.toNatClampNeg)) = (0 : Int32) then
      (sX1_hasLiveProgram fu σ p1).bind fun r_5 =>
      if r_5 = (0 : Int32) then
        some ((1 : Int32), (sA σ 15 (p1.toNatClampNeg) (1 : Int32)))
      else
        some ((-3 : Int32), σ)
    else
      some ((-3 : Int32), σ)
    else none
def sX5_markHeldBy_L2 (fu : Nat) : Nat → MS → Int32 → Int32 → Option MS
  | 0, _, _, _ => none
  | n + 1, σ, x1, x2 =>
    if (31 : Int32) ≤ x2 then
      some σ
    else
      (sX5_slot σ x1 x2).bind fun r_2 =>
      if gi r_2 310 then
      if (σ.1 17 (r_2.toNatClampNeg)) = (-1 : Int32) then
        (sX5_slot σ x1 x2).bind fun r_5 =>
        if gi r_5 310 then
        if (σ.1 18 (r_5.toNatClampNeg)) = (-1 : Int32) then
          sX5_markHeldBy_L2 fu n σ x1 (x2 + (1 : Int32))
        else
          if gi (σ.1 18 (r_5.toNatClampNeg)) 512 then
          sX5_markHeldBy_L2 fu n (sA σ 7 ((σ.1 18 (r_5.toNatClampNeg)).toNatClampNeg) (1 : Int32)) x1 (x2 + (1 : Int32))
          else none
        else none
      else
        if gi (σ.1 17 (r_2.toNatClampNeg)) 512 then
        (sX5_slot (sA σ 7 ((σ.1 17 (r_2.toNatClampNeg)).toNatClampNeg) (1 : Int32)) x1 x2).bind fun r_10 =>
        if gi r_10 310 then
        if (σ.1 18 (r_10.toNatClampNeg)) = (-1 : Int32) then
          sX5_markHeldBy_L2 fu n (sA σ 7 ((σ.1 17 (r_2.toNatClampNeg)).toNatClampNeg) (1 : Int32)) x1 (x2 + (1 : Int32))
        else
          if gi (σ.1 18 (r_10.toNatClampNeg)) 512 then
          sX5_markHeldBy_L2 fu n (sA (sA σ 7 ((σ.1 17 (r_2.toNatClampNeg)).toNatClampNeg) (1 : Int32)) 7 ((σ.1 18 (r_10.toNatClampNeg)).toNatClampNeg) (1 : Int32)) x1 (x2 + (1 : Int32))
          else none
        else none
        else none
      else none
def sX5_markHeldBy (fu : Nat) (σ : MS) (p1 : Int32) : Option MS :=
  sX5_markHeldBy_L2 fu fu σ p1 (0 : Int32)
def sX5_markHeld_L118 (fu : Nat) : Nat → MS → Int32 → Option MS
  | 0, _, _ => none
  | n + 1, σ, x1 =>
    if x1 < (0 : Int32) then
      some σ
    else
      if gi x1 512 then
      if (σ.1 7 (x1.toNatClampNeg)) = (0 : Int32) then
        sX5_markHeld_L118 fu n σ (x1 + (-1 : Int32))
      else
        if (σ.1 23 (x1.toNatClampNeg)) = (-1 : Int32) then
          sX5_markHeld_L118 fu n σ (x1 + (-1 : Int32))
        else
          if gi (σ.1 23 (x1.toNatClampNeg)) 512 then
          sX5_markHeld_L118 fu n (sA σ 7 ((σ.1 23 (x1.toNatClampNeg)).toNatClampNeg) (1 : Int32)) (x1 + (-1 : Int32))
          else none
      else none
def sX5_markHeld_L74 (fu : Nat) : Nat → MS → Int32 → Option MS
  | 0, _, _ => none
  | n + 1, σ, x1 =>
    if (σ.2 1) ≤ x1 then
      sX5_markHeld_L118 fu fu σ ((σ.2 2) - (1 : Int32))
    else
      if gi x1 10 then
      if (σ.1 15 (x1.toNatClampNeg)) = (0 : Int32) then
        (sX5_markHeldBy fu σ x1).bind fun u_4 =>
        sX5_markHeld_L74 fu n u_4 (x1 + (1 : Int32))
      else
        sX5_markHeld_L74 fu n σ (x1 + (1 : Int32))
      else none
def sX5_markHeld_L28 (fu : Nat) : Nat → MS → Int32 → Option MS
  | 0, _, _ => none
  | n + 1, σ, x1 =>
    if (σ.2 3) ≤ x1 then
      sX5_markHeld_L74 fu fu σ (0 : Int32)
    else
      if gi x1 60 then
      if (σ.1 26 (x1.toNatClampNeg)) = (0 : Int32) then
        if gi (σ.1 25 (x1.toNatClampNeg)) 512 then
        sX5_markHeld_L28 fu n (sA σ 7 ((σ.1 25 (x1.toNatClampNeg)).toNatClampNeg) (1 : Int32)) (x1 + (1 : Int32))
        else none
      else
        sX5_markHeld_L28 fu n σ (x1 + (1 : Int32))
      else none
def sX5_markHeld_L2 (fu : Nat) : Nat → MS → Int32 → Option MS
  | 0, _, _ => none
  | n + 1, σ, x1 =>
    if (σ.2 2) ≤ x1 then
      sX5_markHeld_L28 fu fu σ (0 : Int32)
    else
      if gi x1 512 then
      sX5_markHeld_L2 fu n (sA σ 7 (x1.toNatClampNeg) (0 : Int32)) (x1 + (1 : Int32))
      else none
def sX5_markHeld (fu : Nat) (σ : MS) : Option MS :=
  sX5_markHeld_L2 fu fu σ (0 : Int32)
def sX5_held_L22 (fu : Nat) : Nat → MS → Int32 → Int32 → Int32 → Option (Int32 × MS)
  | 0, _, _, _, _ => none
  | n + 1, σ, x1, x2, x3 =>
    if (σ.2 2) ≤ x3 then
      some (x2, σ)
    else
      if gi x3 512 then
      if (σ.1 20 (x3.toNatClampNeg)) = x1 then
        if (σ.1 7 (x3.toNatClampNeg)) = (0 : Int32) then
          sX5_held_L22 fu n σ x1 x2 (x3 + (1 : Int32))
        else
          sX5_held_L22 fu n σ x1 (x2 + (1 : Int32)) (x3 + (1 : Int32))
      else
        sX5_held_L22 fu n σ x1 x2 (x3 + (1 : Int32))
      else none
def sX5_held (fu : Nat) (σ : MS) (p1 : Int32) : Option (Int32 × MS) :=
  (sX1_has σ p1).bind fun r_1 =>
  if r_1 = (0 : Int32) then
    some ((-2 : Int32), σ)
  else
    (sX5_markHeld fu σ).bind fun u_3 =>
    sX5_held_L22 fu fu u_3 p1 (0 : Int32) (0 : Int32)
def sX5_isHeld (fu : Nat) (σ : MS) (p1 : Int32) : Option (Int32 × MS) :=
  (sX2_has σ p1).bind fun r_1 =>
  if r_1 = (0 : Int32) then
    some ((-2 : Int32), σ)
  else
    (sX5_markHeld fu σ).bind fun u_3 =>
    if gi p1 512 then
    if (u_3.1 7 (p1.toNatClampNeg)) = (0 : Int32) then
      some ((0 : Int32), u_3)
    else
      some ((1 : Int32), u_3)
    else none
def sX5_about (σ : MS) (p1 : Int32) (p2 : Int32) : Option Int32 :=
  (sX2_has σ p1).bind fun r_1 =>
  if r_1 = (0 : Int32) then
    some (0 : Int32)
  else
    if p2 = (0 : Int32) then
      if gi p1 512 then
      some (σ.1 20 (p1.toNatClampNeg))
      else none
    else
      if p2 = (1 : Int32) then
        if gi p1 512 then
        some (σ.1 21 (p1.toNatClampNeg))
        else none
      else
        if p2 = (2 : Int32) then
          if gi p1 512 then
          some (σ.1 23 (p1.toNatClampNeg))
          else none
        else
          if p2 = (3 : Int32) then
            if gi p1 512 then
            some (σ.1 24 (p1.toNatClampNeg))
            else none
          else
            if p2 = (4 : Int32) then
              if gi p1 512 then
              if gi (σ.1 22 (p1.toNatClampNeg)) 40 then
              some (σ.1 9 ((σ.1 22 (p1.toNatClampNeg)).toNatClampNeg))
              else none
              else none
            else
              if p2 = (5 : Int32) then
                if gi p1 512 then
                some (σ.1 22 (p1.toNatClampNeg))
                else none
              else
                some (0 : Int32)
def sX5_aboutThing (σ : MS) (p1 : Int32) (p2 : Int32) : Option Int32 :=
  (sX4_has σ p1).bind fun r_1 =>
  if r_1 = (0 : Int32) then
    some (-2 : Int32)
  else
    if p2 = (0 : Int32) then
      if gi p1 60 then
      some (σ.1 25 (p1.toNatClampNeg))
      else none
    else
      if p2 = (1 : Int32) then
        if gi p1 60 then
        if (σ.1 26 (p1.toNatClampNeg)) = (0 : Int32) then
          some (0 : Int32)
        else
          some (1 : Int32)
        else none
      else
        some (-2 : Int32)
def sX5_order (σ : MS) (p1 : Int32) : Option Int32 :=
  if p1 < (0 : Int32) then
    some (0 : Int32)
  else
    if (σ.2 4) ≤ p1 then
      some (0 : Int32)
    else
      if gi p1 512 then
      some (σ.1 27 (p1.toNatClampNeg))
      else none
def sX5_count (σ : MS) (p1 : Int32) : Option Int32 :=
  if p1 = (0 : Int32) then
    some (σ.2 0)
  else
    if p1 = (1 : Int32) then
      some (σ.2 1)
    else
      if p1 = (2 : Int32) then
        some (σ.2 2)
      else
        if p1 = (3 : Int32) then
          some (σ.2 3)
        else
          if p1 = (4 : Int32) then
            some (σ.2 4)
          else
            some (-2 : Int32)
def sX6_in (σ : MS) (p0 : Int32) (p1 : Int32) (p2 : Int32) : Option Int32 :=
  if p0 < p1 then
    some (0 : Int32)
  else
    if p2 < p0 then
      some (0 : Int32)
    else
      some (1 : Int32)
def sX6_isName (σ : MS) (p0 : Int32) : Option Int32 :=
  (sX6_in σ p0 (0 : Int32) (30 : Int32)).bind fun r_1 =>
  if vp_nar .boolean r_1 = r_1 then some r_1 else none
def sX6_file (σ : MS) (p1 : Int32) (p2 : Int32) (p3 : Int32) (p4 : Int32) (p5 : Int32) : Option (Int32 × MS) :=
  (sX6_isName σ p1).bind fun r_1 =>
  if r_1 = (0 : Int32) then
    some ((-2 : Int32), σ)
  else
    if p3 = (-1 : Int32) then
      if p4 = (-1 : Int32) then
        (sX6_in σ p5 (0 : Int32) (3 : Int32)).bind fun r_5 =>
        if r_5 = (0 : Int32) then
          some ((-2 : Int32), σ)
        else
          if (σ.2 0) = (40 : Int32) then
            some ((-4 : Int32), σ)
          else
            if gi (σ.2 0) 40 then
            some ((((σ.2 0) + (1 : Int32)) - (1 : Int32)), (sZ (sA (sA (sA (sA (sA σ 1 ((σ.2 0).toNatClampNeg) p1) 2 ((σ.2 0).toNatClampNeg) p2) 3 ((σ.2 0).toNatClampNeg) p3) 4 ((σ.2 0).toNatClampNeg) p4) 5 ((σ.2 0).toNatClampNeg) p5) 0 ((σ.2 0) + (1 : Int32))))
            else none
      else
        (sX6_isName σ p4).bind fun r_9 =>
        if r_9 = (0 : Int32) then
          some ((-2 : Int32), σ)
        else
          (sX6_in σ p5 (0 : Int32) (3 : Int32)).bind fun r_11 =>
          if r_11 = (0 : Int32) then
            some ((-2 : Int32), σ)
          else
            if (σ.2 0) = (40 : Int32) then
              some ((-4 : Int32), σ)
            else
              if gi (σ.2 0) 40 then
              some ((((σ.2 0) + (1 : Int32)) - (1 : Int32)), (sZ (sA (sA (sA (sA (sA σ 1 ((σ.2 0).toNatClampNeg) p1) 2 ((σ.2 0).toNatClampNeg) p2) 3 ((σ.2 0).toNatClampNeg) p3) 4 ((σ.2 0).toNatClampNeg) p4) 5 ((σ.2 0).toNatClampNeg) p5) 0 ((σ.2 0) + (1 : Int32))))
              else none
    else
      (sX6_isName σ p3).bind fun r_15 =>
      if r_15 = (0 : Int32) then
        some ((-2 : Int32), σ)
      else
        if p4 = (-1 : Int32) then
          (sX6_in σ p5 (0 : Int32) (3 : Int32)).bind fun r_18 =>
          if r_18 = (0 : Int32) then
            some ((-2 : Int32), σ)
          else
            if (σ.2 0) = (40 : Int32) then
              some ((-4 : Int32), σ)
            else
              if gi (σ.2 0) 40 then
              some ((((σ.2 0) + (1 : Int32)) - (1 : Int32)), (sZ (sA (sA (sA (sA (sA σ 1 ((σ.2 0).toNatClampNeg) p1) 2 ((σ.2 0).toNatClampNeg) p2) 3 ((σ.2 0).toNatClampNeg) p3) 4 ((σ.2 0).toNatClampNeg) p4) 5 ((σ.2 0).toNatClampNeg) p5) 0 ((σ.2 0) + (1 : Int32))))
              else none
        else
          (sX6_isName σ p4).bind fun r_22 =>
          if r_22 = (0 : Int32) then
            some ((-2 : Int32), σ)
          else
            (sX6_in σ p5 (0 : Int32) (3 : Int32)).bind fun r_24 =>
            if r_24 = (0 : Int32) then
              some ((-2 : Int32), σ)
            else
              if (σ.2 0) = (40 : Int32) then
                some ((-4 : Int32), σ)
              else
                if gi (σ.2 0) 40 then
                some ((((σ.2 0) + (1 : Int32)) - (1 : Int32)), (sZ (sA (sA (sA (sA (sA σ 1 ((σ.2 0).toNatClampNeg) p1) 2 ((σ.2 0).toNatClampNeg) p2) 3 ((σ.2 0).toNatClampNeg) p3) 4 ((σ.2 0).toNatClampNeg) p4) 5 ((σ.2 0).toNatClampNeg) p5) 0 ((σ.2 0) + (1 : Int32))))
                else none
def sX6_isLoader (σ : MS) (p1 : Int32) : Option Int32 :=
  (sX6_in σ p1 (0 : Int32) ((σ.2 6) - (1 : Int32))).bind fun r_1 =>
  if vp_nar .boolean r_1 = r_1 then some r_1 else none
def sX6_loader_L77 (fu : Nat) : Nat → MS → Int32 → Int32 → Int32 → Option (Int32 × MS)
  | 0, _, _, _, _ => none
  | n + 1, σ, x1, x2, x3 =>
    if (31 : Int32) ≤ x3 then
      some ((((σ.2 6) + (1 : Int32)) - (1 : Int32)), (sZ σ 6 ((σ.2 6) + (1 : Int32))))
    else
      if gi (((31 : Int32) * (σ.2 6)) + x3) 310 then
      sX6_loader_L77 fu n (sA (sA (sA σ 10 ((((31 : Int32) * (σ.2 6)) + x3).toNatClampNeg) (-1 : Int32)) 11 ((((31 : Int32) * (σ.2 6)) + x3).toNatClampNeg) (-1 : Int32)) 12 ((((31 : Int32) * (σ.2 6)) + x3).toNatClampNeg) (-1 : Int32)) x1 x2 (x3 + (1 : Int32))
      else none
def sX6_loader (fu : Nat) (σ : MS) (p1 : Int32) (p2 : Int32) : Option (Int32 × MS) :=
  if p1 = (-1 : Int32) then
    if (σ.2 6) = (10 : Int32) then
      some ((-4 : Int32), σ)
    else
      if gi (σ.2 6) 10 then
      sX6_loader_L77 fu fu (sA (sA σ 7 ((σ.2 6).toNatClampNeg) p1) 8 ((σ.2 6).toNatClampNeg) (vp_nar .boolean p2)) p1 p2 (0 : Int32)
      else none
  else
    (sX6_isLoader σ p1).bind fun r_4 =>
    if r_4 = (0 : Int32) then
      some ((-2 : Int32), σ)
    else
      if gi p1 10 then
      if (σ.1 7 (p1.toNatClampNeg)) = (-1 : Int32) then
        if (σ.1 9 (p1.toNatClampNeg)) = (0 : Int32) then
          if (σ.2 6) = (10 : Int32) then
            some ((-4 : Int32), σ)
          else
            if gi (σ.2 6) 10 then
            sX6_loader_L77 fu fu (sA (sA σ 7 ((σ.2 6).toNatClampNeg) p1) 8 ((σ.2 6).toNatClampNeg) (vp_nar .boolean p2)) p1 p2 (0 : Int32)
            else none
        else
          some ((-3 : Int32), σ)
      else
        some ((-2 : Int32), σ)
      else none
def sX6_isFile (σ : MS) (p1 : Int32) : Option Int32 :=
  (sX6_in σ p1 (0 : Int32) ((σ.2 0) - (1 : Int32))).bind fun r_1 =>
  if vp_nar .boolean r_1 = r_1 then some r_1 else none
def sX6_put (σ : MS) (p1 : Int32) (p2 : Int32) (p3 : Int32) : Option (Int32 × MS) :=
  (sX6_isLoader σ p1).bind fun r_1 =>
  if r_1 = (0 : Int32) then
    some ((-2 : Int32), σ)
  else
    (sX6_isName σ p2).bind fun r_3 =>
    if r_3 = (0 : Int32) then
      some ((-2 : Int32), σ)
    else
      (sX6_isFile σ p3).bind fun r_5 =>
      if r_5 = (0 : Int32) then
        some ((-2 : Int32), σ)
      else
        if gi p1 10 then
        if (σ.1 9 (p1.toNatClampNeg)) = (0 : Int32) then
          if gi (((31 : Int32) * p1) + p2) 310 then
          some ((1 : Int32), (sA σ 10 ((((31 : Int32) * p1) + p2).toNatClampNeg) p3))
          else none
        else
          some ((-3 : Int32), σ)
        else none
def sX6_push (σ : MS) (p1 : Int32) (p2 : Int32) (p3 : Int32) (p4 : Int32) : Option MS :=
  if gi (σ.2 25) 1300 then
  some (sZ (sA (sA (sA (sA (sA σ 26 ((σ.2 25).toNatClampNeg) p1) 27 ((σ.2 25).toNatClampNeg) (0 : Int32)) 28 ((σ.2 25).toNatClampNeg) p2) 29 ((σ.2 25).toNatClampNeg) p3) 30 ((σ.2 25).toNatClampNeg) (vp_nar .boolean p4)) 25 ((σ.2 25) + (1 : Int32)))
  else none
def sX6_gives (σ : MS) (p1 : Int32) : Option MS :=
  some (sZ (sZ σ 31 p1) 25 ((σ.2 25) - (1 : Int32)))
def sX6_keeps (σ : MS) (p1 : Int32) : Option MS :=
  if (σ.2 31) < (0 : Int32) then
    if gi p1 310 then
    (sX6_gives (sA σ 12 (p1.toNatClampNeg) (σ.1 12 (p1.toNatClampNeg))) (σ.2 31)).bind fun u_3 =>
    some u_3
    else none
  else
    if gi p1 310 then
    (sX6_gives (sA σ 12 (p1.toNatClampNeg) (σ.2 31)) (σ.2 31)).bind fun u_5 =>
    some u_5
    else none
def sX6_asksAbove (σ : MS) (p1 : Int32) (p2 : Int32) (p3 : Int32) : Option MS :=
  if gi p1 1300 then
  if gi (p2 / (31 : Int32)) 10 then
  (sX6_push (sA σ 27 (p1.toNatClampNeg) p3) (0 : Int32) (((31 : Int32) * (σ.1 7 ((p2 / (31 : Int32)).toNatClampNeg))) + (p2 - p2 / (31 : Int32) * (31 : Int32))) (-1 : Int32) (0 : Int32)).bind fun u_3 =>
  some u_3
  else none
  else none
def sX6_asks (σ : MS) (p1 : Int32) (p2 : Int32) : Option MS :=
  if gi (p2 / (31 : Int32)) 10 then
  if (σ.1 7 ((p2 / (31 : Int32)).toNatClampNeg)) = (-1 : Int32) then
    if gi p1 1300 then
    if (σ.1 27 (p1.toNatClampNeg)) = (0 : Int32) then
      if gi p2 310 then
      if (σ.1 11 (p2.toNatClampNeg)) = (-1 : Int32) then
        if (σ.1 12 (p2.toNatClampNeg)) = (-1 : Int32) then
          some (sA σ 27 (p1.toNatClampNeg) (2 : Int32))
        else
          (sX6_gives σ (σ.1 12 (p2.toNatClampNeg))).bind fun u_7 =>
          some u_7
      else
        (sX6_gives σ (σ.1 11 (p2.toNatClampNeg))).bind fun u_8 =>
        some u_8
      else none
    else
      if (σ.1 27 (p1.toNatClampNeg)) = (1 : Int32) then
        if (σ.2 31) = (-1 : Int32) then
          some (sA σ 27 (p1.toNatClampNeg) (2 : Int32))
        else
          (sX6_keeps σ p2).bind fun u_10 =>
          some u_10
      else
        if (σ.1 27 (p1.toNatClampNeg)) = (2 : Int32) then
          if gi p2 310 then
          if (σ.1 10 (p2.toNatClampNeg)) = (-1 : Int32) then
            (sX6_gives σ (-1 : Int32)).bind fun u_13 =>
            some u_13
          else
            (sX6_push (sA σ 27 (p1.toNatClampNeg) (3 : Int32)) (1 : Int32) p2 (σ.1 10 (p2.toNatClampNeg)) (0 : Int32)).bind fun u_14 =>
            some u_14
          else none
        else
          if (σ.1 27 (p1.toNatClampNeg)) = (3 : Int32) then
            (sX6_gives σ (σ.2 31)).bind fun u_15 =>
            some u_15
          else
            (sX6_keeps σ p2).bind fun u_16 =>
            some u_16
    else none
  else
    if gi p1 1300 then
    if (σ.1 27 (p1.toNatClampNeg)) = (0 : Int32) then
      if gi p2 310 then
      if (σ.1 11 (p2.toNatClampNeg)) = (-1 : Int32) then
        if (σ.1 12 (p2.toNatClampNeg)) = (-1 : Int32) then
          if (σ.1 8 ((p2 / (31 : Int32)).toNatClampNeg)) = (0 : Int32) then
            (sX6_asksAbove σ p1 p2 (1 : Int32)).bind fun u_22 =>
            some u_22
          else
            some (sA σ 27 (p1.toNatClampNeg) (2 : Int32))
        else
          (sX6_gives σ (σ.1 12 (p2.toNatClampNeg))).bind fun u_23 =>
          some u_23
      else
        (sX6_gives σ (σ.1 11 (p2.toNatClampNeg))).bind fun u_24 =>
        some u_24
      else none
    else
      if (σ.1 27 (p1.toNatClampNeg)) = (1 : Int32) then
        if (σ.2 31) = (-1 : Int32) then
          some (sA σ 27 (p1.toNatClampNeg) (2 : Int32))
        else
          (sX6_keeps σ p2).bind fun u_26 =>
          some u_26
      else
        if (σ.1 27 (p1.toNatClampNeg)) = (2 : Int32) then
          if gi p2 310 then
          if (σ.1 10 (p2.toNatClampNeg)) = (-1 : Int32) then
            if (σ.1 8 ((p2 / (31 : Int32)).toNatClampNeg)) = (0 : Int32) then
              (sX6_gives σ (-1 : Int32)).bind fun u_30 =>
              some u_30
            else
              (sX6_asksAbove σ p1 p2 (4 : Int32)).bind fun u_31 =>
              some u_31
          else
            (sX6_push (sA σ 27 (p1.toNatClampNeg) (3 : Int32)) (1 : Int32) p2 (σ.1 10 (p2.toNatClampNeg)) (0 : Int32)).bind fun u_32 =>
            some u_32
          else none
        else
          if (σ.1 27 (p1.toNatClampNeg)) = (3 : Int32) then
            (sX6_gives σ (σ.2 31)).bind fun u_33 =>
            some u_33
          else
            (sX6_keeps σ p2).bind fun u_34 =>
            some u_34
    else none
  else none
def sX6_stands (σ : MS) (p1 : Int32) (p2 : Int32) (p3 : Int32) : Option MS :=
  if gi (σ.2 14) 1000 then
  if gi p1 310 then
  (sX6_gives (sZ (sA (sA (sA (sA (sA (sA σ 15 ((σ.2 14).toNatClampNeg) (p1 / (31 : Int32))) 16 ((σ.2 14).toNatClampNeg) (p1 - p1 / (31 : Int32) * (31 : Int32))) 17 ((σ.2 14).toNatClampNeg) p3) 18 ((σ.2 14).toNatClampNeg) p2) 19 ((σ.2 14).toNatClampNeg) (0 : Int32)) 11 (p1.toNatClampNeg) (σ.2 14)) 14 ((σ.2 14) + (1 : Int32))) (((σ.2 14) + (1 : Int32)) - (1 : Int32))).bind fun u_3 =>
  some u_3
  else none
  else none
def sX6_against (σ : MS) (p1 : Int32) (p2 : Int32) (p3 : Int32) : Option Int32 :=
  if gi p1 1300 then
  if (σ.1 30 (p1.toNatClampNeg)) = (0 : Int32) then
    if gi p2 310 then
    if (σ.1 11 (p2.toNatClampNeg)) = (-1 : Int32) then
      if gi p3 40 then
      if (σ.1 1 (p3.toNatClampNeg)) = (p2 - p2 / (31 : Int32) * (31 : Int32)) then
        if (4 : Int32) ≤ (p2 - p2 / (31 : Int32) * (31 : Int32)) then
          if ((σ.1 5 (p3.toNatClampNeg)) &&& (1 : Int32)) = (1 : Int32) then
            some (6 : Int32)
          else
            if (σ.1 3 (p3.toNatClampNeg)) = (-1 : Int32) then
              some (0 : Int32)
            else
              if (σ.1 3 (p3.toNatClampNeg)) = (p2 - p2 / (31 : Int32) * (31 : Int32)) then
                some (5 : Int32)
              else
                if gi ((p2 - (p2 - p2 / (31 : Int32) * (31 : Int32))) + (σ.1 3 (p3.toNatClampNeg))) 310 then
                if (σ.1 13 (((p2 - (p2 - p2 / (31 : Int32) * (31 : Int32))) + (σ.1 3 (p3.toNatClampNeg))).toNatClampNeg)) = (0 : Int32) then
                  some (0 : Int32)
                else
                  some (5 : Int32)
                else none
        else
          if gi (p2 / (31 : Int32)) 10 then
          if (σ.1 7 ((p2 / (31 : Int32)).toNatClampNeg)) = (-1 : Int32) then
            if ((σ.1 5 (p3.toNatClampNeg)) &&& (1 : Int32)) = (1 : Int32) then
              some (6 : Int32)
            else
              if (σ.1 3 (p3.toNatClampNeg)) = (-1 : Int32) then
                some (0 : Int32)
              else
                if (σ.1 3 (p3.toNatClampNeg)) = (p2 - p2 / (31 : Int32) * (31 : Int32)) then
                  some (5 : Int32)
                else
                  if gi ((p2 - (p2 - p2 / (31 : Int32) * (31 : Int32))) + (σ.1 3 (p3.toNatClampNeg))) 310 then
                  if (σ.1 13 (((p2 - (p2 - p2 / (31 : Int32) * (31 : Int32))) + (σ.1 3 (p3.toNatClampNeg))).toNatClampNeg)) = (0 : Int32) then
                    some (0 : Int32)
                  else
                    some (5 : Int32)
                  else none
          else
            some (4 : Int32)
          else none
      else
        some (3 : Int32)
      else none
    else
      some (2 : Int32)
    else none
  else
    if gi p3 40 then
    if (σ.1 1 (p3.toNatClampNeg)) = (p2 - p2 / (31 : Int32) * (31 : Int32)) then
      if (4 : Int32) ≤ (p2 - p2 / (31 : Int32) * (31 : Int32)) then
        if ((σ.1 5 (p3.toNatClampNeg)) &&& (1 : Int32)) = (1 : Int32) then
          some (6 : Int32)
        else
          if (σ.1 3 (p3.toNatClampNeg)) = (-1 : Int32) then
            some (0 : Int32)
          else
            if (σ.1 3 (p3.toNatClampNeg)) = (p2 - p2 / (31 : Int32) * (31 : Int32)) then
              some (5 : Int32)
            else
              if gi ((p2 - (p2 - p2 / (31 : Int32) * (31 : Int32))) + (σ.1 3 (p3.toNatClampNeg))) 310 then
              if (σ.1 13 (((p2 - (p2 - p2 / (31 : Int32) * (31 : Int32))) + (σ.1 3 (p3.toNatClampNeg))).toNatClampNeg)) = (0 : Int32) then
                some (0 : Int32)
              else
                some (5 : Int32)
              else none
      else
        if gi (p2 / (31 : Int32)) 10 then
        if (σ.1 7 ((p2 / (31 : Int32)).toNatClampNeg)) = (-1 : Int32) then
          if ((σ.1 5 (p3.toNatClampNeg)) &&& (1 : Int32)) = (1 : Int32) then
            some (6 : Int32)
          else
            if (σ.1 3 (p3.toNatClampNeg)) = (-1 : Int32) then
              some (0 : Int32)
            else
              if (σ.1 3 (p3.toNatClampNeg)) = (p2 - p2 / (31 : Int32) * (31 : Int32)) then
                some (5 : Int32)
              else
                if gi ((p2 - (p2 - p2 / (31 : Int32) * (31 : Int32))) + (σ.1 3 (p3.toNatClampNeg))) 310 then
                if (σ.1 13 (((p2 - (p2 - p2 / (31 : Int32) * (31 : Int32))) + (σ.1 3 (p3.toNatClampNeg))).toNatClampNeg)) = (0 : Int32) then
                  some (0 : Int32)
                else
                  some (5 : Int32)
                else none
        else
          some (4 : Int32)
        else none
    else
      some (3 : Int32)
    else none
  else none
def sX6_makes (σ : MS) (p1 : Int32) (p2 : Int32) (p3 : Int32) : Option MS :=
  if gi p1 1300 then
  if (σ.1 27 (p1.toNatClampNeg)) = (0 : Int32) then
    (sX6_against σ p1 p2 p3).bind fun r_7 =>
    if r_7 ≤ (0 : Int32) then
      if gi p3 40 then
      if (σ.1 3 (p3.toNatClampNeg)) = (-1 : Int32) then
        (sX6_stands σ p2 p3 (-1 : Int32)).bind fun u_13 =>
        some u_13
      else
        if gi p2 310 then
        (sX6_push (sA (sA σ 13 (p2.toNatClampNeg) (1 : Int32)) 27 (p1.toNatClampNeg) (1 : Int32)) (0 : Int32) ((p2 - (p2 - p2 / (31 : Int32) * (31 : Int32))) + (σ.1 3 (p3.toNatClampNeg))) (-1 : Int32) (0 : Int32)).bind fun u_12 =>
        some u_12
        else none
      else none
    else
      (sX6_gives σ (-r_7)).bind fun u_14 =>
      some u_14
  else
    if gi p2 310 then
    if (0 : Int32) ≤ (σ.2 31) then
      (sX6_stands (sA σ 13 (p2.toNatClampNeg) (0 : Int32)) p2 p3 (σ.2 31)).bind fun u_5 =>
      some u_5
    else
      (sX6_gives (sA σ 13 (p2.toNatClampNeg) (0 : Int32)) (σ.2 31)).bind fun u_6 =>
      some u_6
    else none
  else none
def sX6_begins (σ : MS) (p1 : Int32) (p2 : Int32) : Option MS :=
  if gi p1 1300 then
  if (σ.1 27 (p1.toNatClampNeg)) = (0 : Int32) then
    if gi p2 1000 then
    if (σ.1 19 (p2.toNatClampNeg)) ≤ (0 : Int32) then
      if (σ.1 17 (p2.toNatClampNeg)) = (-1 : Int32) then
        some (sZ (sA (sA σ 19 (p2.toNatClampNeg) (3 : Int32)) 27 (p1.toNatClampNeg) (1 : Int32)) 31 (0 : Int32))
      else
        (sX6_push (sZ (sA (sA σ 19 (p2.toNatClampNeg) (3 : Int32)) 27 (p1.toNatClampNeg) (1 : Int32)) 31 (0 : Int32)) (2 : Int32) (σ.1 17 (p2.toNatClampNeg)) (-1 : Int32) (0 : Int32)).bind fun u_26 =>
        some u_26
    else
      if (σ.1 19 (p2.toNatClampNeg)) = (2 : Int32) then
        (sX6_gives σ (-8 : Int32)).bind fun u_29 =>
        some u_29
      else
        (sX6_gives σ (0 : Int32)).bind fun u_28 =>
        some u_28
    else none
  else
    if (0 : Int32) ≤ (σ.2 31) then
      if gi p2 1000 then
      if gi (σ.1 18 (p2.toNatClampNeg)) 40 then
      if (σ.1 27 (p1.toNatClampNeg)) = (1 : Int32) then
        if (σ.1 4 ((σ.1 18 (p2.toNatClampNeg)).toNatClampNeg)) = (-1 : Int32) then
          if (σ.1 27 (p1.toNatClampNeg)) = (2 : Int32) then
            (sX6_push (sA σ 27 (p1.toNatClampNeg) (3 : Int32)) (2 : Int32) (σ.2 31) (-1 : Int32) (0 : Int32)).bind fun u_19 =>
            some u_19
          else
            if ((σ.1 5 ((σ.1 18 (p2.toNatClampNeg)).toNatClampNeg)) &&& (2 : Int32)) = (2 : Int32) then
              (sX6_gives (sA σ 19 (p2.toNatClampNeg) (2 : Int32)) (-7 : Int32)).bind fun u_18 =>
              some u_18
            else
              if gi (σ.2 23) 1000 then
              (sX6_gives (sZ (sA (sA σ 19 (p2.toNatClampNeg) (1 : Int32)) 24 ((σ.2 23).toNatClampNeg) (σ.1 2 ((σ.1 18 (p2.toNatClampNeg)).toNatClampNeg))) 23 ((σ.2 23) + (1 : Int32))) (0 : Int32)).bind fun u_17 =>
              some u_17
              else none
        else
          (sX6_push (sA σ 27 (p1.toNatClampNeg) (2 : Int32)) (0 : Int32) (((31 : Int32) * (σ.1 15 (p2.toNatClampNeg))) + (σ.1 4 ((σ.1 18 (p2.toNatClampNeg)).toNatClampNeg))) (-1 : Int32) (0 : Int32)).bind fun u_20 =>
          some u_20
      else
        if (σ.1 27 (p1.toNatClampNeg)) = (2 : Int32) then
          (sX6_push (sA σ 27 (p1.toNatClampNeg) (3 : Int32)) (2 : Int32) (σ.2 31) (-1 : Int32) (0 : Int32)).bind fun u_12 =>
          some u_12
        else
          if ((σ.1 5 ((σ.1 18 (p2.toNatClampNeg)).toNatClampNeg)) &&& (2 : Int32)) = (2 : Int32) then
            (sX6_gives (sA σ 19 (p2.toNatClampNeg) (2 : Int32)) (-7 : Int32)).bind fun u_11 =>
            some u_11
          else
            if gi (σ.2 23) 1000 then
            (sX6_gives (sZ (sA (sA σ 19 (p2.toNatClampNeg) (1 : Int32)) 24 ((σ.2 23).toNatClampNeg) (σ.1 2 ((σ.1 18 (p2.toNatClampNeg)).toNatClampNeg))) 23 ((σ.2 23) + (1 : Int32))) (0 : Int32)).bind fun u_10 =>
            some u_10
            else none
      else none
      else none
    else
      if gi p2 1000 then
      (sX6_gives (sA σ 19 (p2.toNatClampNeg) (2 : Int32)) (σ.2 31)).bind fun u_22 =>
      some u_22
      else none
  else none
def sX6_runs_L0 (fu : Nat) : Nat → MS → Option (Int32 × MS)
  | 0, _ => none
  | n + 1, σ =>
    if (σ.2 25) ≤ (0 : Int32) then
      some ((σ.2 31), σ)
    else
      if gi ((σ.2 25) - (1 : Int32)) 1300 then
      if (σ.1 26 (((σ.2 25) - (1 : Int32)).toNatClampNeg)) = (0 : Int32) then
        (sX6_asks σ ((σ.2 25) - (1 : Int32)) (σ.1 28 (((σ.2 25) - (1 : Int32)).toNatClampNeg))).bind fun u_3 =>
        sX6_runs_L0 fu n u_3
      else
        if (σ.1 26 (((σ.2 25) - (1 : Int32)).toNatClampNeg)) = (1 : Int32) then
          (sX6_makes σ ((σ.2 25) - (1 : Int32)) (σ.1 28 (((σ.2 25) - (1 : Int32)).toNatClampNeg)) (σ.1 29 (((σ.2 25) - (1 : Int32)).toNatClampNeg))).bind fun u_4 =>
          sX6_runs_L0 fu n u_4
        else
          (sX6_begins σ ((σ.2 25) - (1 : Int32)) (σ.1 28 (((σ.2 25) - (1 : Int32)).toNatClampNeg))).bind fun u_5 =>
          sX6_runs_L0 fu n u_5
      else none
def sX6_runs (fu : Nat) (σ : MS) : Option (Int32 × MS) :=
  sX6_runs_L0 fu fu σ
def sX6_does (fu : Nat) (σ : MS) (p1 : Int32) (p2 : Int32) (p3 : Int32) (p4 : Int32) : Option (Int32 × MS) :=
  (sX6_push (sZ σ 25 (0 : Int32)) p1 p2 p3 p4).bind fun u_1 =>
  (sX6_runs fu u_1).bind fun q_2 =>
  if (0 : Int32) ≤ q_2.1 then
    some (q_2.1, q_2.2)
  else
    some (((-10 : Int32) + q_2.1), q_2.2)
def sX6_load (fu : Nat) (σ : MS) (p1 : Int32) (p2 : Int32) : Option (Int32 × MS) :=
  (sX6_isLoader σ p1).bind fun r_1 =>
  if r_1 = (0 : Int32) then
    some ((-2 : Int32), σ)
  else
    (sX6_isName σ p2).bind fun r_3 =>
    if r_3 = (0 : Int32) then
      some ((-2 : Int32), σ)
    else
      if gi p1 10 then
      if (σ.1 9 (p1.toNatClampNeg)) = (0 : Int32) then
        (sX6_does fu σ (0 : Int32) (((31 : Int32) * p1) + p2) (-1 : Int32) (0 : Int32)).bind fun q_7 =>
        some (q_7.1, q_7.2)
      else
        some ((-3 : Int32), σ)
      else none
def sX6_define (fu : Nat) (σ : MS) (p1 : Int32) (p2 : Int32) (p3 : Int32) : Option (Int32 × MS) :=
  (sX6_isLoader σ p1).bind fun r_1 =>
  if r_1 = (0 : Int32) then
    some ((-2 : Int32), σ)
  else
    (sX6_isName σ p2).bind fun r_3 =>
    if r_3 = (0 : Int32) then
      some ((-2 : Int32), σ)
    else
      (sX6_isFile σ p3).bind fun r_5 =>
      if r_5 = (0 : Int32) then
        some ((-2 : Int32), σ)
      else
        if gi p1 10 then
        if (σ.1 9 (p1.toNatClampNeg)) = (0 : Int32) then
          (sX6_does fu σ (1 : Int32) (((31 : Int32) * p1) + p2) p3 (0 : Int32)).bind fun q_9 =>
          some (q_9.1, q_9.2)
        else
          some ((-3 : Int32), σ)
        else none
def sX6_anew (fu : Nat) (σ : MS) (p1 : Int32) (p2 : Int32) (p3 : Int32) : Option (Int32 × MS) :=
  (sX6_isLoader σ p1).bind fun r_1 =>
  if r_1 = (0 : Int32) then
    some ((-2 : Int32), σ)
  else
    (sX6_isName σ p2).bind fun r_3 =>
    if r_3 = (0 : Int32) then
      some ((-2 : Int32), σ)
    else
      (sX6_isFile σ p3).bind fun r_5 =>
      if r_5 = (0 : Int32) then
        some ((-2 : Int32), σ)
      else
        if gi p1 10 then
        if (σ.1 9 (p1.toNatClampNeg)) = (0 : Int32) then
          if gi (((31 : Int32) * p1) + p2) 310 then
          if (σ.1 11 ((((31 : Int32) * p1) + p2).toNatClampNeg)) = (-1 : Int32) then
            some ((-3 : Int32), σ)
          else
            (sX6_does fu σ (1 : Int32) (((31 : Int32) * p1) + p2) p3 (1 : Int32)).bind fun q_11 =>
            some (q_11.1, q_11.2)
          else none
        else
          some ((-3 : Int32), σ)
        else none
def sX6_known (σ : MS) (p1 : Int32) (p2 : Int32) : Option Int32 :=
  (sX6_isLoader σ p1).bind fun r_1 =>
  if r_1 = (0 : Int32) then
    some (-2 : Int32)
  else
    (sX6_isName σ p2).bind fun r_3 =>
    if r_3 = (0 : Int32) then
      some (-2 : Int32)
    else
      if gi (((31 : Int32) * p1) + p2) 310 then
      if (σ.1 11 ((((31 : Int32) * p1) + p2).toNatClampNeg)) = (-1 : Int32) then
        some (σ.1 12 ((((31 : Int32) * p1) + p2).toNatClampNeg))
      else
        some (σ.1 11 ((((31 : Int32) * p1) + p2).toNatClampNeg))
      else none
def sX6_isModule (σ : MS) (p1 : Int32) : Option Int32 :=
  (sX6_in σ p1 (0 : Int32) ((σ.2 14) - (1 : Int32))).bind fun r_1 =>
  if vp_nar .boolean r_1 = r_1 then some r_1 else none
def sX6_begin (fu : Nat) (σ : MS) (p1 : Int32) : Option (Int32 × MS) :=
  (sX6_isModule σ p1).bind fun r_1 =>
  if r_1 = (0 : Int32) then
    some ((-2 : Int32), σ)
  else
    if gi p1 1000 then
    if gi (σ.1 15 (p1.toNatClampNeg)) 10 then
    if (σ.1 9 ((σ.1 15 (p1.toNatClampNeg)).toNatClampNeg)) = (0 : Int32) then
      (sX6_does fu σ (2 : Int32) p1 (-1 : Int32) (0 : Int32)).bind fun q_6 =>
      if (0 : Int32) ≤ q_6.1 then
        some ((1 : Int32), q_6.2)
      else
        some (q_6.1, q_6.2)
    else
      some ((-3 : Int32), σ)
    else none
    else none
def sX6_thing (fu : Nat) (σ : MS) (p1 : Int32) : Option (Int32 × MS) :=
  (sX6_isModule σ p1).bind fun r_1 =>
  if r_1 = (0 : Int32) then
    some ((-2 : Int32), σ)
  else
    if gi p1 1000 then
    if gi (σ.1 15 (p1.toNatClampNeg)) 10 then
    if (σ.1 9 ((σ.1 15 (p1.toNatClampNeg)).toNatClampNeg)) = (0 : Int32) then
      if (σ.2 20) = (60 : Int32) then
        some ((-4 : Int32), σ)
      else
        (sX6_does fu σ (2 : Int32) p1 (-1 : Int32) (0 : Int32)).bind fun q_7 =>
        if (0 : Int32) ≤ q_7.1 then
          if gi (q_7.2.2 20) 60 then
          some ((((q_7.2.2 20) + (1 : Int32)) - (1 : Int32)), (sZ (sA (sA q_7.2 21 ((q_7.2.2 20).toNatClampNeg) p1) 22 ((q_7.2.2 20).toNatClampNeg) (0 : Int32)) 20 ((q_7.2.2 20) + (1 : Int32))))
          else none
        else
          some (q_7.1, q_7.2)
    else
      some ((-3 : Int32), σ)
    else none
    else none
def sX6_isThing (σ : MS) (p1 : Int32) : Option Int32 :=
  (sX6_in σ p1 (0 : Int32) ((σ.2 20) - (1 : Int32))).bind fun r_1 =>
  if vp_nar .boolean r_1 = r_1 then some r_1 else none
def sX6_cast_L38 (fu : Nat) : Nat → MS → Int32 → Int32 → Int32 → Option Int32
  | 0, _, _, _, _ => none
  | n + 1, σ, x1, x2, x3 =>
    if x3 = (-1 : Int32) then
      if x3 = x2 then
        some (1 : Int32)
      else
        some (-19 : Int32)
    else
      if x3 = x2 then
        some (1 : Int32)
      else
        if gi x3 1000 then
        sX6_cast_L38 fu n σ x1 x2 (σ.1 17 (x3.toNatClampNeg))
        else none
def sX6_cast (fu : Nat) (σ : MS) (p1 : Int32) (p2 : Int32) : Option Int32 :=
  (sX6_isThing σ p1).bind fun r_1 =>
  if r_1 = (0 : Int32) then
    some (-2 : Int32)
  else
    (sX6_isModule σ p2).bind fun r_3 =>
    if r_3 = (0 : Int32) then
      some (-2 : Int32)
    else
      if gi p1 60 then
      if (σ.1 22 (p1.toNatClampNeg)) = (0 : Int32) then
        sX6_cast_L38 fu fu σ p1 p2 (σ.1 21 (p1.toNatClampNeg))
      else
        some (-3 : Int32)
      else none
def sX6_drop (σ : MS) (p1 : Int32) : Option (Int32 × MS) :=
  (sX6_isThing σ p1).bind fun r_1 =>
  if r_1 = (0 : Int32) then
    some ((-2 : Int32), σ)
  else
    if gi p1 60 then
    if (σ.1 22 (p1.toNatClampNeg)) = (0 : Int32) then
      some ((1 : Int32), (sA σ 22 (p1.toNatClampNeg) (1 : Int32)))
    else
      some ((-3 : Int32), σ)
    else none
def sX6_letGo_L28 (fu : Nat) : Nat → MS → Int32 → Int32 → Int32 → Option (Int32 × MS)
  | 0, _, _, _, _ => none
  | n + 1, σ, x1, x2, x3 =>
    if (σ.2 6) ≤ x3 then
      if x2 = (0 : Int32) then
        some ((-3 : Int32), σ)
      else
        if gi x1 10 then
        some ((1 : Int32), (sA σ 9 (x1.toNatClampNeg) (1 : Int32)))
        else none
    else
      if x2 = (0 : Int32) then
        sX6_letGo_L28 fu n σ x1 (0 : Int32) (x3 + (1 : Int32))
      else
        if gi x3 10 then
        if (σ.1 7 (x3.toNatClampNeg)) = x1 then
          if (σ.1 9 (x3.toNatClampNeg)) = (0 : Int32) then
            sX6_letGo_L28 fu n σ x1 (0 : Int32) (x3 + (1 : Int32))
          else
            sX6_letGo_L28 fu n σ x1 (1 : Int32) (x3 + (1 : Int32))
        else
          sX6_letGo_L28 fu n σ x1 (1 : Int32) (x3 + (1 : Int32))
        else none
def sX6_letGo (fu : Nat) (σ : MS) (p1 : Int32) : Option (Int32 × MS) :=
  (sX6_isLoader σ p1).bind fun r_1 =>
  if r_1 = (0 : Int32) then
    some ((-2 : Int32), σ)
  else
    if gi p1 10 then
    if (σ.1 9 (p1.toNatClampNeg)) = (0 : Int32) then
      sX6_letGo_L28 fu fu σ p1 (1 : Int32) (0 : Int32)
    else
      sX6_letGo_L28 fu fu σ p1 (0 : Int32) (0 : Int32)
    else none
def sX6_holds_L160 (fu : Nat) : Nat → MS → Int32 → Option MS
  | 0, _, _ => none
  | n + 1, σ, x1 =>
    if x1 < (0 : Int32) then
      some σ
    else
      if gi x1 1000 then
      if (σ.1 32 (x1.toNatClampNeg)) = (0 : Int32) then
        sX6_holds_L160 fu n σ (x1 + (-1 : Int32))
      else
        if (σ.1 17 (x1.toNatClampNeg)) = (-1 : Int32) then
          sX6_holds_L160 fu n σ (x1 + (-1 : Int32))
        else
          if gi (σ.1 17 (x1.toNatClampNeg)) 1000 then
          sX6_holds_L160 fu n (sA σ 32 ((σ.1 17 (x1.toNatClampNeg)).toNatClampNeg) (1 : Int32)) (x1 + (-1 : Int32))
          else none
      else none
def sX6_holds_L80 (fu : Nat) : Nat → MS → Int32 → Option MS
  | 0, _, _ => none
  | n + 1, σ, x1 =>
    if ((31 : Int32) * (σ.2 6)) ≤ x1 then
      sX6_holds_L160 fu fu σ ((σ.2 14) - (1 : Int32))
    else
      if gi (x1 / (31 : Int32)) 10 then
      if (σ.1 9 ((x1 / (31 : Int32)).toNatClampNeg)) = (0 : Int32) then
        if gi x1 310 then
        if (σ.1 11 (x1.toNatClampNeg)) = (-1 : Int32) then
          if (σ.1 12 (x1.toNatClampNeg)) = (-1 : Int32) then
            sX6_holds_L80 fu n σ (x1 + (1 : Int32))
          else
            if gi (σ.1 12 (x1.toNatClampNeg)) 1000 then
            sX6_holds_L80 fu n (sA σ 32 ((σ.1 12 (x1.toNatClampNeg)).toNatClampNeg) (1 : Int32)) (x1 + (1 : Int32))
            else none
        else
          if gi (σ.1 11 (x1.toNatClampNeg)) 1000 then
          if (σ.1 12 (x1.toNatClampNeg)) = (-1 : Int32) then
            sX6_holds_L80 fu n (sA σ 32 ((σ.1 11 (x1.toNatClampNeg)).toNatClampNeg) (1 : Int32)) (x1 + (1 : Int32))
          else
            if gi (σ.1 12 (x1.toNatClampNeg)) 1000 then
            sX6_holds_L80 fu n (sA (sA σ 32 ((σ.1 11 (x1.toNatClampNeg)).toNatClampNeg) (1 : Int32)) 32 ((σ.1 12 (x1.toNatClampNeg)).toNatClampNeg) (1 : Int32)) (x1 + (1 : Int32))
            else none
          else none
        else none
      else
        sX6_holds_L80 fu n σ (x1 + (1 : Int32))
      else none
def sX6_holds_L25 (fu : Nat) : Nat → MS → Int32 → Option MS
  | 0, _, _ => none
  | n + 1, σ, x1 =>
    if (σ.2 20) ≤ x1 then
      sX6_holds_L80 fu fu σ (0 : Int32)
    else
      if gi x1 60 then
      if gi (σ.1 21 (x1.toNatClampNeg)) 1000 then
      if (σ.1 32 ((σ.1 21 (x1.toNatClampNeg)).toNatClampNeg)) = (0 : Int32) then
        if (σ.1 22 (x1.toNatClampNeg)) = (0 : Int32) then
          sX6_holds_L25 fu n (sA σ 32 ((σ.1 21 (x1.toNatClampNeg)).toNatClampNeg) (1 : Int32)) (x1 + (1 : Int32))
        else
          sX6_holds_L25 fu n (sA σ 32 ((σ.1 21 (x1.toNatClampNeg)).toNatClampNeg) (0 : Int32)) (x1 + (1 : Int32))
      else
        sX6_holds_L25 fu n (sA σ 32 ((σ.1 21 (x1.toNatClampNeg)).toNatClampNeg) (1 : Int32)) (x1 + (1 : Int32))
      else none
      else none
def sX6_holds_L2 (fu : Nat) : Nat → MS → Int32 → Option MS
  | 0, _, _ => none
  | n + 1, σ, x1 =>
    if (σ.2 14) ≤ x1 then
      sX6_holds_L25 fu fu σ (0 : Int32)
    else
      if gi x1 1000 then
      sX6_holds_L2 fu n (sA σ 32 (x1.toNatClampNeg) (0 : Int32)) (x1 + (1 : Int32))
      else none
def sX6_holds (fu : Nat) (σ : MS) : Option MS :=
  sX6_holds_L2 fu fu σ (0 : Int32)
def sX6_held_L19 (fu : Nat) : Nat → MS → Int32 → Int32 → Int32 → Option (Int32 × MS)
  | 0, _, _, _, _ => none
  | n + 1, σ, x1, x2, x3 =>
    if (σ.2 14) ≤ x3 then
      some (x2, σ)
    else
      if gi x3 1000 then
      if (σ.1 15 (x3.toNatClampNeg)) = x1 then
        if (σ.1 32 (x3.toNatClampNeg)) = (0 : Int32) then
          sX6_held_L19 fu n σ x1 x2 (x3 + (1 : Int32))
        else
          sX6_held_L19 fu n σ x1 (x2 + (1 : Int32)) (x3 + (1 : Int32))
      else
        sX6_held_L19 fu n σ x1 x2 (x3 + (1 : Int32))
      else none
def sX6_held (fu : Nat) (σ : MS) (p1 : Int32) : Option (Int32 × MS) :=
  (sX6_isLoader σ p1).bind fun r_1 =>
  if r_1 = (0 : Int32) then
    some ((-2 : Int32), σ)
  else
    (sX6_holds fu σ).bind fun u_3 =>
    sX6_held_L19 fu fu u_3 p1 (0 : Int32) (0 : Int32)
def sX6_isHeld (fu : Nat) (σ : MS) (p1 : Int32) : Option (Int32 × MS) :=
  (sX6_isModule σ p1).bind fun r_1 =>
  if r_1 = (0 : Int32) then
    some ((-2 : Int32), σ)
  else
    (sX6_holds fu σ).bind fun u_3 =>
    if gi p1 1000 then
    if (u_3.1 32 (p1.toNatClampNeg)) = (0 : Int32) then
      some ((0 : Int32), u_3)
    else
      some ((1 : Int32), u_3)
    else none
def sX6_about (σ : MS) (p1 : Int32) (p2 : Int32) : Option Int32 :=
  (sX6_isModule σ p1).bind fun r_1 =>
  if r_1 = (0 : Int32) then
    some (0 : Int32)
  else
    if p2 = (0 : Int32) then
      if gi p1 1000 then
      some (σ.1 15 (p1.toNatClampNeg))
      else none
    else
      if p2 = (1 : Int32) then
        if gi p1 1000 then
        some (σ.1 16 (p1.toNatClampNeg))
        else none
      else
        if p2 = (2 : Int32) then
          if gi p1 1000 then
          some (σ.1 17 (p1.toNatClampNeg))
          else none
        else
          if p2 = (3 : Int32) then
            if gi p1 1000 then
            some (σ.1 19 (p1.toNatClampNeg))
            else none
          else
            if p2 = (4 : Int32) then
              if gi p1 1000 then
              if gi (σ.1 18 (p1.toNatClampNeg)) 40 then
              some (σ.1 2 ((σ.1 18 (p1.toNatClampNeg)).toNatClampNeg))
              else none
              else none
            else
              if p2 = (5 : Int32) then
                if gi p1 1000 then
                some (σ.1 18 (p1.toNatClampNeg))
                else none
              else
                some (0 : Int32)
def sX6_aboutThing (σ : MS) (p1 : Int32) (p2 : Int32) : Option Int32 :=
  (sX6_isThing σ p1).bind fun r_1 =>
  if r_1 = (0 : Int32) then
    some (-2 : Int32)
  else
    (sX6_in σ p2 (0 : Int32) (1 : Int32)).bind fun r_3 =>
    if r_3 = (0 : Int32) then
      some (-2 : Int32)
    else
      if p2 = (0 : Int32) then
        if gi p1 60 then
        some (σ.1 21 (p1.toNatClampNeg))
        else none
      else
        if gi p1 60 then
        if (σ.1 22 (p1.toNatClampNeg)) = (0 : Int32) then
          some (0 : Int32)
        else
          some (1 : Int32)
        else none
def sX6_order (σ : MS) (p1 : Int32) : Option Int32 :=
  (sX6_in σ p1 (0 : Int32) ((σ.2 23) - (1 : Int32))).bind fun r_1 =>
  if r_1 = (0 : Int32) then
    some (0 : Int32)
  else
    if gi p1 1000 then
    some (σ.1 24 (p1.toNatClampNeg))
    else none
def sX6_count (σ : MS) (p1 : Int32) : Option Int32 :=
  if p1 = (0 : Int32) then
    some (σ.2 0)
  else
    if p1 = (1 : Int32) then
      some (σ.2 6)
    else
      if p1 = (2 : Int32) then
        some (σ.2 14)
      else
        if p1 = (3 : Int32) then
          some (σ.2 20)
        else
          if p1 = (4 : Int32) then
            some (σ.2 23)
          else
            some (-2 : Int32)
def sLaw (fu : Nat) (xs : Nat → Int32) (L : Nat) : Nat → MS → MS → Int32 → Option Int32
  | 0, _, _, _ => none
  | n + 1, σ, τ, x3 =>
    if ((Int32.ofNat L) - (6 : Int32)) < x3 then
      some (1 : Int32)
    else
      if gi x3 L then
      if ((xs (x3.toNatClampNeg)) &&& (31 : Int32)) = (0 : Int32) then
        if gi (x3 + (1 : Int32)) L then
        if gi (x3 + (2 : Int32)) L then
        if gi (x3 + (3 : Int32)) L then
        if gi (x3 + (4 : Int32)) L then
        if gi (x3 + (5 : Int32)) L then
        (sX5_file σ (xs ((x3 + (1 : Int32)).toNatClampNeg)) (xs ((x3 + (2 : Int32)).toNatClampNeg)) (xs ((x3 + (3 : Int32)).toNatClampNeg)) (xs ((x3 + (4 : Int32)).toNatClampNeg)) (xs ((x3 + (5 : Int32)).toNatClampNeg))).bind fun q_8 =>
        (sX6_file τ (xs ((x3 + (1 : Int32)).toNatClampNeg)) (xs ((x3 + (2 : Int32)).toNatClampNeg)) (xs ((x3 + (3 : Int32)).toNatClampNeg)) (xs ((x3 + (4 : Int32)).toNatClampNeg)) (xs ((x3 + (5 : Int32)).toNatClampNeg))).bind fun q_9 =>
        if q_8.1 = q_9.1 then
          sLaw fu xs L n q_8.2 q_9.2 (x3 + (6 : Int32))
        else
          some (0 : Int32)
        else none
        else none
        else none
        else none
        else none
      else
      if ((xs (x3.toNatClampNeg)) &&& (31 : Int32)) = (1 : Int32) then
        if gi (x3 + (1 : Int32)) L then
        if gi (x3 + (2 : Int32)) L then
        if (xs ((x3 + (2 : Int32)).toNatClampNeg)) = (0 : Int32) then
          (sX5_loader σ (xs ((x3 + (1 : Int32)).toNatClampNeg)) (0 : Int32)).bind fun q_14 =>
          (sX6_loader fu τ (xs ((x3 + (1 : Int32)).toNatClampNeg)) (0 : Int32)).bind fun q_15 =>
          if q_14.1 = q_15.1 then
            sLaw fu xs L n q_14.2 q_15.2 (x3 + (6 : Int32))
          else
            some (0 : Int32)
        else
          (sX5_loader σ (xs ((x3 + (1 : Int32)).toNatClampNeg)) (1 : Int32)).bind fun q_17 =>
          (sX6_loader fu τ (xs ((x3 + (1 : Int32)).toNatClampNeg)) (1 : Int32)).bind fun q_18 =>
          if q_17.1 = q_18.1 then
            sLaw fu xs L n q_17.2 q_18.2 (x3 + (6 : Int32))
          else
            some (0 : Int32)
        else none
        else none
      else
      if ((xs (x3.toNatClampNeg)) &&& (31 : Int32)) = (2 : Int32) then
        if gi (x3 + (1 : Int32)) L then
        if gi (x3 + (2 : Int32)) L then
        if gi (x3 + (3 : Int32)) L then
        (sX5_put σ (xs ((x3 + (1 : Int32)).toNatClampNeg)) (xs ((x3 + (2 : Int32)).toNatClampNeg)) (xs ((x3 + (3 : Int32)).toNatClampNeg))).bind fun q_23 =>
        (sX6_put τ (xs ((x3 + (1 : Int32)).toNatClampNeg)) (xs ((x3 + (2 : Int32)).toNatClampNeg)) (xs ((x3 + (3 : Int32)).toNatClampNeg))).bind fun q_24 =>
        if q_23.1 = q_24.1 then
          sLaw fu xs L n q_23.2 q_24.2 (x3 + (6 : Int32))
        else
          some (0 : Int32)
        else none
        else none
        else none
      else
      if ((xs (x3.toNatClampNeg)) &&& (31 : Int32)) = (3 : Int32) then
        if gi (x3 + (1 : Int32)) L then
        if gi (x3 + (2 : Int32)) L then
        (sX5_load σ (xs ((x3 + (1 : Int32)).toNatClampNeg)) (xs ((x3 + (2 : Int32)).toNatClampNeg))).bind fun q_28 =>
        (sX6_load fu τ (xs ((x3 + (1 : Int32)).toNatClampNeg)) (xs ((x3 + (2 : Int32)).toNatClampNeg))).bind fun q_29 =>
        if q_28.1 = q_29.1 then
          sLaw fu xs L n q_28.2 q_29.2 (x3 + (6 : Int32))
        else
          some (0 : Int32)
        else none
        else none
      else
      if ((xs (x3.toNatClampNeg)) &&& (31 : Int32)) = (4 : Int32) then
        if gi (x3 + (1 : Int32)) L then
        if gi (x3 + (2 : Int32)) L then
        if gi (x3 + (3 : Int32)) L then
        (sX5_define σ (xs ((x3 + (1 : Int32)).toNatClampNeg)) (xs ((x3 + (2 : Int32)).toNatClampNeg)) (xs ((x3 + (3 : Int32)).toNatClampNeg))).bind fun q_34 =>
        (sX6_define fu τ (xs ((x3 + (1 : Int32)).toNatClampNeg)) (xs ((x3 + (2 : Int32)).toNatClampNeg)) (xs ((x3 + (3 : Int32)).toNatClampNeg))).bind fun q_35 =>
        if q_34.1 = q_35.1 then
          sLaw fu xs L n q_34.2 q_35.2 (x3 + (6 : Int32))
        else
          some (0 : Int32)
        else none
        else none
        else none
      else
      if ((xs (x3.toNatClampNeg)) &&& (31 : Int32)) = (5 : Int32) then
        if gi (x3 + (1 : Int32)) L then
        if gi (x3 + (2 : Int32)) L then
        if gi (x3 + (3 : Int32)) L then
        (sX5_anew σ (xs ((x3 + (1 : Int32)).toNatClampNeg)) (xs ((x3 + (2 : Int32)).toNatClampNeg)) (xs ((x3 + (3 : Int32)).toNatClampNeg))).bind fun q_40 =>
        (sX6_anew fu τ (xs ((x3 + (1 : Int32)).toNatClampNeg)) (xs ((x3 + (2 : Int32)).toNatClampNeg)) (xs ((x3 + (3 : Int32)).toNatClampNeg))).bind fun q_41 =>
        if q_40.1 = q_41.1 then
          sLaw fu xs L n q_40.2 q_41.2 (x3 + (6 : Int32))
        else
          some (0 : Int32)
        else none
        else none
        else none
      else
      if ((xs (x3.toNatClampNeg)) &&& (31 : Int32)) = (6 : Int32) then
        if gi (x3 + (1 : Int32)) L then
        if gi (x3 + (2 : Int32)) L then
        (sX5_known σ (xs ((x3 + (1 : Int32)).toNatClampNeg)) (xs ((x3 + (2 : Int32)).toNatClampNeg))).bind fun r_45 =>
        (sX6_known τ (xs ((x3 + (1 : Int32)).toNatClampNeg)) (xs ((x3 + (2 : Int32)).toNatClampNeg))).bind fun r_46 =>
        if r_45 = r_46 then
          sLaw fu xs L n σ τ (x3 + (6 : Int32))
        else
          some (0 : Int32)
        else none
        else none
      else
      if ((xs (x3.toNatClampNeg)) &&& (31 : Int32)) = (7 : Int32) then
        if gi (x3 + (1 : Int32)) L then
        (sX5_begin fu σ (xs ((x3 + (1 : Int32)).toNatClampNeg))).bind fun q_49 =>
        (sX6_begin fu τ (xs ((x3 + (1 : Int32)).toNatClampNeg))).bind fun q_50 =>
        if q_49.1 = q_50.1 then
          sLaw fu xs L n q_49.2 q_50.2 (x3 + (6 : Int32))
        else
          some (0 : Int32)
        else none
      else
      if ((xs (x3.toNatClampNeg)) &&& (31 : Int32)) = (8 : Int32) then
        if gi (x3 + (1 : Int32)) L then
        (sX5_thing fu σ (xs ((x3 + (1 : Int32)).toNatClampNeg))).bind fun q_53 =>
        (sX6_thing fu τ (xs ((x3 + (1 : Int32)).toNatClampNeg))).bind fun q_54 =>
        if q_53.1 = q_54.1 then
          sLaw fu xs L n q_53.2 q_54.2 (x3 + (6 : Int32))
        else
          some (0 : Int32)
        else none
      else
      if ((xs (x3.toNatClampNeg)) &&& (31 : Int32)) = (9 : Int32) then
        if gi (x3 + (1 : Int32)) L then
        if gi (x3 + (2 : Int32)) L then
        (sX5_cast fu σ (xs ((x3 + (1 : Int32)).toNatClampNeg)) (xs ((x3 + (2 : Int32)).toNatClampNeg))).bind fun r_58 =>
        (sX6_cast fu τ (xs ((x3 + (1 : Int32)).toNatClampNeg)) (xs ((x3 + (2 : Int32)).toNatClampNeg))).bind fun r_59 =>
        if r_58 = r_59 then
          sLaw fu xs L n σ τ (x3 + (6 : Int32))
        else
          some (0 : Int32)
        else none
        else none
      else
      if ((xs (x3.toNatClampNeg)) &&& (31 : Int32)) = (10 : Int32) then
        if gi (x3 + (1 : Int32)) L then
        (sX5_drop σ (xs ((x3 + (1 : Int32)).toNatClampNeg))).bind fun q_62 =>
        (sX6_drop τ (xs ((x3 + (1 : Int32)).toNatClampNeg))).bind fun q_63 =>
        if q_62.1 = q_63.1 then
          sLaw fu xs L n q_62.2 q_63.2 (x3 + (6 : Int32))
        else
          some (0 : Int32)
        else none
      else
      if ((xs (x3.toNatClampNeg)) &&& (31 : Int32)) = (11 : Int32) then
        if gi (x3 + (1 : Int32)) L then
        (sX5_letGo fu σ (xs ((x3 + (1 : Int32)).toNatClampNeg))).bind fun q_66 =>
        (sX6_letGo fu τ (xs ((x3 + (1 : Int32)).toNatClampNeg))).bind fun q_67 =>
        if q_66.1 = q_67.1 then
          sLaw fu xs L n q_66.2 q_67.2 (x3 + (6 : Int32))
        else
          some (0 : Int32)
        else none
      else
      if ((xs (x3.toNatClampNeg)) &&& (31 : Int32)) = (12 : Int32) then
        if gi (x3 + (1 : Int32)) L then
        (sX5_held fu σ (xs ((x3 + (1 : Int32)).toNatClampNeg))).bind fun q_70 =>
        (sX6_held fu τ (xs ((x3 + (1 : Int32)).toNatClampNeg))).bind fun q_71 =>
        if q_70.1 = q_71.1 then
          sLaw fu xs L n q_70.2 q_71.2 (x3 + (6 : Int32))
        else
          some (0 : Int32)
        else none
      else
      if ((xs (x3.toNatClampNeg)) &&& (31 : Int32)) = (13 : Int32) then
        if gi (x3 + (1 : Int32)) L then
        (sX5_isHeld fu σ (xs ((x3 + (1 : Int32)).toNatClampNeg))).bind fun q_74 =>
        (sX6_isHeld fu τ (xs ((x3 + (1 : Int32)).toNatClampNeg))).bind fun q_75 =>
        if q_74.1 = q_75.1 then
          sLaw fu xs L n q_74.2 q_75.2 (x3 + (6 : Int32))
        else
          some (0 : Int32)
        else none
      else
      if ((xs (x3.toNatClampNeg)) &&& (31 : Int32)) = (14 : Int32) then
        if gi (x3 + (1 : Int32)) L then
        if gi (x3 + (2 : Int32)) L then
        (sX5_about σ (xs ((x3 + (1 : Int32)).toNatClampNeg)) (xs ((x3 + (2 : Int32)).toNatClampNeg))).bind fun r_79 =>
        (sX6_about τ (xs ((x3 + (1 : Int32)).toNatClampNeg)) (xs ((x3 + (2 : Int32)).toNatClampNeg))).bind fun r_80 =>
        if r_79 = r_80 then
          sLaw fu xs L n σ τ (x3 + (6 : Int32))
        else
          some (0 : Int32)
        else none
        else none
      else
      if ((xs (x3.toNatClampNeg)) &&& (31 : Int32)) = (15 : Int32) then
        if gi (x3 + (1 : Int32)) L then
        if gi (x3 + (2 : Int32)) L then
        (sX5_aboutThing σ (xs ((x3 + (1 : Int32)).toNatClampNeg)) (xs ((x3 + (2 : Int32)).toNatClampNeg))).bind fun r_84 =>
        (sX6_aboutThing τ (xs ((x3 + (1 : Int32)).toNatClampNeg)) (xs ((x3 + (2 : Int32)).toNatClampNeg))).bind fun r_85 =>
        if r_84 = r_85 then
          sLaw fu xs L n σ τ (x3 + (6 : Int32))
        else
          some (0 : Int32)
        else none
        else none
      else
      if ((xs (x3.toNatClampNeg)) &&& (31 : Int32)) = (16 : Int32) then
        if gi (x3 + (1 : Int32)) L then
        (sX5_order σ (xs ((x3 + (1 : Int32)).toNatClampNeg))).bind fun r_88 =>
        (sX6_order τ (xs ((x3 + (1 : Int32)).toNatClampNeg))).bind fun r_89 =>
        if r_88 = r_89 then
          sLaw fu xs L n σ τ (x3 + (6 : Int32))
        else
          some (0 : Int32)
        else none
      else
      if ((xs (x3.toNatClampNeg)) &&& (31 : Int32)) = (17 : Int32) then
        if gi (x3 + (1 : Int32)) L then
        (sX5_count σ (xs ((x3 + (1 : Int32)).toNatClampNeg))).bind fun r_92 =>
        (sX6_count τ (xs ((x3 + (1 : Int32)).toNatClampNeg))).bind fun r_93 =>
        if r_92 = r_93 then
          sLaw fu xs L n σ τ (x3 + (6 : Int32))
        else
          some (0 : Int32)
        else none
      else
      sLaw fu xs L n σ τ (x3 + (6 : Int32))
      else none

