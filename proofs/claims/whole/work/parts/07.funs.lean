def f_X0_forget_b2 (s : Int32 × GS) : Option ((Int32 × GS) ⊕ ((GS))) :=
  if (3 : Int32) ≤ s.1 then
    some (.inr s.2)
  else
    gd s.1 3 <|
    some (.inl ((s.1 + (1 : Int32)), (gtus s.2 s.1 (0 : Int32))))
def f_X0_forget (σ : GS) : Option (GS) :=
  (itr (f_X0_forget_b2) FU ((0 : Int32), σ)).bind fun e2 =>
  some e2
def f_X1_states (σ : GS) : Option (Int32) :=
  some ((1 : Int32) <<< ((gpl σ) &&& 31))
def f_X0_takeIntoUse_b2 (x1 : Int32) (s : Int32 × GS) : Option ((Int32 × GS) ⊕ ((GS))) :=
  ((f_X1_states s.2)).bind fun q1 =>
  if q1 ≤ s.1 then
    some (.inr s.2)
  else
    gd ((x1 * (1024 : Int32)) + s.1) 3072 <|
    some (.inl ((s.1 + (1 : Int32)), (gtwi s.2 ((x1 * (1024 : Int32)) + s.1) (-1 : Int32))))
def f_X0_takeIntoUse (σ : GS) (x1 : Int32) : Option (GS) :=
  (itr (f_X0_takeIntoUse_b2 x1) FU ((0 : Int32), σ)).bind fun e2 =>
  gd x1 3 <|
  some (gtus e2 x1 (1 : Int32))
def f_X1_weightsInto_b5 (σ : GS) (x1 : Int32) (x2 : Int32) (s : Int32 × Int32) : Option ((Int32 × Int32) ⊕ ((Int32))) :=
  if (gpl σ) ≤ s.2 then
    some (.inr s.1)
  else
    gd ((x1 * (10 : Int32)) + s.2) 100 <|
    some (.inl ((s.1 + ((gwe σ (((x1 * (10 : Int32)) + s.2) : Int32).toNatClampNeg) * ((x2 >>> (s.2 &&& 31)) &&& (1 : Int32)))), (s.2 + (1 : Int32))))
def f_X1_weightsInto (σ : GS) (x1 x2 : Int32) : Option (Int32) :=
  (itr (f_X1_weightsInto_b5 σ x1 x2) FU ((0 : Int32), (0 : Int32))).bind fun e5 =>
  some e5
def f_X1_payOf (σ : GS) (x1 x2 : Int32) : Option (Int32) :=
  gd (((2 : Int32) * x1) + x2) 4 <|
  some (gpa σ ((((2 : Int32) * x1) + x2) : Int32).toNatClampNeg)
def f_X1_wageOf (σ : GS) (x1 x2 x3 : Int32) : Option (Int32) :=
  ((f_X1_weightsInto σ x1 x3)).bind fun q1 =>
  gd x1 10 <|
  ((f_X1_payOf σ x2 (1 : Int32))).bind fun q2 =>
  ((f_X1_payOf σ x2 (0 : Int32))).bind fun q3 =>
  some ((q1 * q2) + (((gal σ (x1 : Int32).toNatClampNeg) - q1) * q3))
def f_X3_bitOf (x0 x1 : Int32) : Option (Int32) :=
  some ((x1 >>> (x0 &&& 31)) &&& (1 : Int32))
def f_X0_repliesTo_b4 (σ : GS) (x1 : Int32) (s : Int32 × Int32) : Option ((Int32 × Int32) ⊕ ((Int32))) :=
  if (gpl σ) ≤ s.2 then
    some (.inr s.1)
  else
    ((f_X1_wageOf σ s.2 (0 : Int32) x1)).bind fun q1 =>
    ((f_X1_wageOf σ s.2 (1 : Int32) x1)).bind fun q2 =>
    if q1 < q2 then
      some (.inl ((s.1 ||| ((1 : Int32) <<< (s.2 &&& 31))), (s.2 + (1 : Int32))))
    else
      if q2 = q1 then
        ((f_X3_bitOf s.2 x1)).bind fun q3 =>
        if q3 = (1 : Int32) then
          some (.inl ((s.1 ||| ((1 : Int32) <<< (s.2 &&& 31))), (s.2 + (1 : Int32))))
        else
          some (.inl (s.1, (s.2 + (1 : Int32))))
      else
        some (.inl (s.1, (s.2 + (1 : Int32))))
def f_X0_repliesTo (σ : GS) (x1 : Int32) : Option (Int32) :=
  (itr (f_X0_repliesTo_b4 σ x1) FU ((0 : Int32), (0 : Int32))).bind fun e4 =>
  some e4
def f_X1_weightOf (σ : GS) (x1 x2 : Int32) : Option (Int32) :=
  gd ((x1 * (10 : Int32)) + x2) 100 <|
  some (gwe σ (((x1 * (10 : Int32)) + x2) : Int32).toNatClampNeg)
def f_X0_bestBeside_b4 (σ : GS) (x1 : Int32) (s : Int32 × Int32) : Option ((Int32 × Int32) ⊕ ((Int32))) :=
  if (gpl σ) ≤ s.2 then
    some (.inr s.1)
  else
    ((f_X1_weightOf σ x1 s.2)).bind fun q1 =>
    if q1 = (0 : Int32) then
      some (.inl (s.1, (s.2 + (1 : Int32))))
    else
      gd s.2 10 <|
      gd s.1 10 <|
      if (gwg σ (s.2 : Int32).toNatClampNeg) ≤ (gwg σ (s.1 : Int32).toNatClampNeg) then
        some (.inl (s.1, (s.2 + (1 : Int32))))
      else
        some (.inl (s.2, (s.2 + (1 : Int32))))
def f_X0_bestBeside (σ : GS) (x1 : Int32) : Option (Int32) :=
  (itr (f_X0_bestBeside_b4 σ x1) FU (x1, (0 : Int32))).bind fun e4 =>
  some e4
def f_X0_copiesIn_b2 (x1 : Int32) (s : Int32 × GS) : Option ((Int32 × GS) ⊕ ((GS))) :=
  if (gpl s.2) ≤ s.1 then
    some (.inr s.2)
  else
    ((f_X3_bitOf s.1 x1)).bind fun q1 =>
    ((f_X1_wageOf s.2 s.1 q1 x1)).bind fun q2 =>
    gd s.1 10 <|
    some (.inl ((s.1 + (1 : Int32)), (gtwg s.2 s.1 q2)))
def f_X0_copiesIn_b43 (σz2_0 : GS) (x1 : Int32) (s : Int32 × Int32) : Option ((Int32 × Int32) ⊕ ((Int32))) :=
  if (gpl σz2_0) ≤ s.2 then
    some (.inr s.1)
  else
    ((f_X0_bestBeside σz2_0 s.2)).bind fun q4 =>
    ((f_X3_bitOf q4 x1)).bind fun q5 =>
    some (.inl ((s.1 ||| (q5 <<< (s.2 &&& 31))), (s.2 + (1 : Int32))))
def f_X0_copiesIn (σ : GS) (x1 : Int32) : Option (Int32 × GS) :=
  (itr (f_X0_copiesIn_b2 x1) FU ((0 : Int32), σ)).bind fun e2 =>
  (itr (f_X0_copiesIn_b43 e2 x1) FU ((0 : Int32), (0 : Int32))).bind fun e43 =>
  some (e43, e2)
def f_X1_reaches (σ : GS) (x1 x2 x3 : Int32) : Option (Int32) :=
  ((f_X1_weightsInto σ x1 x2)).bind fun q1 =>
  gd x1 10 <|
  if ((100 : Int32) * q1) < (x3 * (gal σ (x1 : Int32).toNatClampNeg)) then
    some (0 : Int32)
  else
    some (1 : Int32)
def f_X0_overBarIn_b4 (σ : GS) (x1 : Int32) (s : Int32 × Int32) : Option ((Int32 × Int32) ⊕ ((Int32))) :=
  if (gpl σ) ≤ s.2 then
    some (.inr s.1)
  else
    gd s.2 10 <|
    if (gal σ (s.2 : Int32).toNatClampNeg) = (0 : Int32) then
      ((f_X3_bitOf s.2 x1)).bind fun q2 =>
      if q2 = (1 : Int32) then
        some (.inl ((s.1 ||| ((1 : Int32) <<< (s.2 &&& 31))), (s.2 + (1 : Int32))))
      else
        some (.inl (s.1, (s.2 + (1 : Int32))))
    else
      ((f_X1_reaches σ s.2 x1 (gbr σ))).bind fun q1 =>
      if q1 = (0 : Int32) then
        some (.inl (s.1, (s.2 + (1 : Int32))))
      else
        some (.inl ((s.1 ||| ((1 : Int32) <<< (s.2 &&& 31))), (s.2 + (1 : Int32))))
def f_X0_overBarIn (σ : GS) (x1 : Int32) : Option (Int32) :=
  (itr (f_X0_overBarIn_b4 σ x1) FU ((0 : Int32), (0 : Int32))).bind fun e4 =>
  some e4
def f_X0_wishOf_j14 (x1 : Int32) (x2 : Int32) (σj14 : GS) : Option (Int32 × GS) :=
  gd ((x1 * (1024 : Int32)) + x2) 3072 <|
  if (gwi σj14 (((x1 * (1024 : Int32)) + x2) : Int32).toNatClampNeg) = (-1 : Int32) then
    if x1 = (0 : Int32) then
      ((f_X0_repliesTo σj14 x2)).bind fun q1 =>
      gd ((x1 * (1024 : Int32)) + x2) 3072 <|
      gd ((x1 * (1024 : Int32)) + x2) 3072 <|
      some ((gwi (gtwi σj14 ((x1 * (1024 : Int32)) + x2) q1) (((x1 * (1024 : Int32)) + x2) : Int32).toNatClampNeg), (gtwi σj14 ((x1 * (1024 : Int32)) + x2) q1))
    else
      if x1 = (1 : Int32) then
        ((f_X0_copiesIn σj14 x2)).bind fun q2 =>
        gd ((x1 * (1024 : Int32)) + x2) 3072 <|
        gd ((x1 * (1024 : Int32)) + x2) 3072 <|
        some ((gwi (gtwi q2.2 ((x1 * (1024 : Int32)) + x2) q2.1) (((x1 * (1024 : Int32)) + x2) : Int32).toNatClampNeg), (gtwi q2.2 ((x1 * (1024 : Int32)) + x2) q2.1))
      else
        ((f_X0_overBarIn σj14 x2)).bind fun q3 =>
        gd ((x1 * (1024 : Int32)) + x2) 3072 <|
        gd ((x1 * (1024 : Int32)) + x2) 3072 <|
        some ((gwi (gtwi σj14 ((x1 * (1024 : Int32)) + x2) q3) (((x1 * (1024 : Int32)) + x2) : Int32).toNatClampNeg), (gtwi σj14 ((x1 * (1024 : Int32)) + x2) q3))
  else
    gd ((x1 * (1024 : Int32)) + x2) 3072 <|
    some ((gwi σj14 (((x1 * (1024 : Int32)) + x2) : Int32).toNatClampNeg), σj14)
def f_X0_wishOf (σ : GS) (x1 x2 : Int32) : Option (Int32 × GS) :=
  gd x1 3 <|
  if (gus σ (x1 : Int32).toNatClampNeg) = (0 : Int32) then
    ((f_X0_takeIntoUse σ x1)).bind fun q4 =>
    f_X0_wishOf_j14 x1 x2 q4
  else
    f_X0_wishOf_j14 x1 x2 σ
def f_X0_next_b26 (x2 : Int32) (s : Int32 × Int32 × GS) : Option ((Int32 × Int32 × GS) ⊕ ((Int32 × GS))) :=
  if (gpl s.2.2) ≤ s.2.1 then
    some (.inr (s.1, s.2.2))
  else
    ((f_X0_wishOf s.2.2 (0 : Int32) s.1)).bind fun q1 =>
    some (.inl (((q1.1 &&& (((1 : Int32) <<< (s.2.1 &&& 31)) &&& (x2 ^^^ (-1 : Int32)))) ||| (s.1 &&& ((((1 : Int32) <<< (s.2.1 &&& 31)) &&& (x2 ^^^ (-1 : Int32))) ^^^ (-1 : Int32)))), (s.2.1 + (1 : Int32)), q1.2))
def f_X0_next (σ : GS) (x1 x2 x3 : Int32) : Option (Int32 × GS) :=
  if x1 = (3 : Int32) then
    (itr (f_X0_next_b26 x2) FU (x3, (0 : Int32), σ)).bind fun e26 =>
    some (e26.1, e26.2)
  else
    ((f_X0_wishOf σ x1 x3)).bind fun q3 =>
    some (((q3.1 &&& (x2 ^^^ (-1 : Int32))) ||| (x3 &&& x2)), q3.2)
def f_X1_beginAnew_b7 (s : Int32 × GS) : Option ((Int32 × GS) ⊕ ((GS))) :=
  if (100 : Int32) ≤ s.1 then
    some (.inr s.2)
  else
    gd s.1 100 <|
    some (.inl ((s.1 + (1 : Int32)), (gtwe s.2 s.1 (0 : Int32))))
def f_X1_beginAnew_b31 (s : Int32 × GS) : Option ((Int32 × GS) ⊕ ((GS))) :=
  if (10 : Int32) ≤ s.1 then
    some (.inr s.2)
  else
    gd s.1 10 <|
    some (.inl ((s.1 + (1 : Int32)), (gtal s.2 s.1 (0 : Int32))))
def f_X1_beginAnew (σ : GS) (x1 : Int32) : Option (GS) :=
  (itr (f_X1_beginAnew_b7) FU ((0 : Int32), (gspl σ x1))).bind fun e7 =>
  (itr (f_X1_beginAnew_b31) FU ((0 : Int32), e7)).bind fun e31 =>
  some e31
def f_X1_has (σ : GS) (x1 : Int32) : Option (Int32) :=
  if x1 < (0 : Int32) then
    some (0 : Int32)
  else
    if (gpl σ) ≤ x1 then
      some (0 : Int32)
    else
      some (1 : Int32)
def f_X1_mayJoin (σ : GS) (x1 x2 : Int32) : Option (Int32) :=
  ((f_X1_has σ x1)).bind fun q1 =>
  if q1 = (0 : Int32) then
    some (0 : Int32)
  else
    ((f_X1_has σ x2)).bind fun q2 =>
    if q2 = (0 : Int32) then
      some (0 : Int32)
    else
      if x1 = x2 then
        some (0 : Int32)
      else
        some (1 : Int32)
def f_X1_isState (σ : GS) (x1 : Int32) : Option (Int32) :=
  if x1 < (0 : Int32) then
    some (0 : Int32)
  else
    ((f_X1_states σ)).bind fun q1 =>
    if q1 ≤ x1 then
      some (0 : Int32)
    else
      some (1 : Int32)
def f_X1_setWeight (σ : GS) (x1 x2 x3 : Int32) : Option (GS) :=
  ((f_X1_weightOf σ x1 x2)).bind fun q1 =>
  gd x1 10 <|
  gd x1 10 <|
  gd x2 10 <|
  gd x2 10 <|
  gd ((x1 * (10 : Int32)) + x2) 100 <|
  gd ((x2 * (10 : Int32)) + x1) 100 <|
  some (gtwe (gtwe (gtal (gtal σ x1 ((gal σ (x1 : Int32).toNatClampNeg) + (x3 - q1))) x2 ((gal (gtal σ x1 ((gal σ (x1 : Int32).toNatClampNeg) + (x3 - q1))) (x2 : Int32).toNatClampNeg) + (x3 - q1))) ((x1 * (10 : Int32)) + x2) x3) ((x2 * (10 : Int32)) + x1) x3)
def f_X1_setPay (σ : GS) (x1 x2 x3 : Int32) : Option (GS) :=
  gd (((2 : Int32) * x1) + x2) 4 <|
  some (gtpa σ (((2 : Int32) * x1) + x2) x3)
def f_X1_howManyLines_b16 (σ : GS) (y4_2 : Int32) (s : Int32 × Int32) : Option ((Int32 × Int32) ⊕ ((Int32))) :=
  if (gpl σ) ≤ s.2 then
    some (.inr s.1)
  else
    ((f_X1_weightOf σ y4_2 s.2)).bind fun q1 =>
    if q1 = (0 : Int32) then
      some (.inl (s.1, (s.2 + (1 : Int32))))
    else
      some (.inl ((s.1 + (1 : Int32)), (s.2 + (1 : Int32))))
def f_X1_howManyLines_b4 (σ : GS) (s : Int32 × Int32) : Option ((Int32 × Int32) ⊕ ((Int32))) :=
  if (gpl σ) ≤ s.2 then
    some (.inr s.1)
  else
    (itr (f_X1_howManyLines_b16 σ s.2) FU (s.1, (s.2 + (1 : Int32)))).bind fun e16 =>
    some (.inl (e16, (s.2 + (1 : Int32))))
def f_X1_howManyLines (σ : GS) : Option (Int32) :=
  (itr (f_X1_howManyLines_b4 σ) FU ((0 : Int32), (0 : Int32))).bind fun e4 =>
  some e4
def f_X1_gainOfZero (σ : GS) : Option (Int32) :=
  ((f_X1_payOf σ (0 : Int32) (0 : Int32))).bind fun q1 =>
  ((f_X1_payOf σ (1 : Int32) (0 : Int32))).bind fun q2 =>
  some (q1 - q2)
def f_X1_gainOfOne (σ : GS) : Option (Int32) :=
  ((f_X1_payOf σ (1 : Int32) (1 : Int32))).bind fun q1 =>
  ((f_X1_payOf σ (0 : Int32) (1 : Int32))).bind fun q2 =>
  some (q1 - q2)
def f_X1_riseOf_b43 (σ : GS) (x1 : Int32) (j36_4 : Int32) (j36_3 : Int32) (j36_s0 : Int32) (s : Int32 × Int32) : Option ((Int32 × Int32) ⊕ ((Int32))) :=
  if (gpl σ) ≤ s.2 then
    some (.inr s.1)
  else
    ((f_X3_bitOf s.2 x1)).bind fun q3 =>
    if q3 = j36_4 then
      ((f_X1_weightOf σ j36_3 s.2)).bind fun q4 =>
      some (.inl ((s.1 + (q4 * j36_s0)), (s.2 + (1 : Int32))))
    else
      some (.inl (s.1, (s.2 + (1 : Int32))))
def f_X1_riseOf_j36 (σ : GS) (x1 : Int32) (j36_2 : Int32) (j36_3 : Int32) (j36_4 : Int32) (j36_s0 : Int32) : Option ((Int32 × Int32) ⊕ ((Int32))) :=
  (itr (f_X1_riseOf_b43 σ x1 j36_4 j36_3 j36_s0) FU (j36_2, (j36_3 + (1 : Int32)))).bind fun e43 =>
  some (.inl (e43, (j36_3 + (1 : Int32))))
def f_X1_riseOf_b4 (σ : GS) (x1 : Int32) (s : Int32 × Int32) : Option ((Int32 × Int32) ⊕ ((Int32))) :=
  if (gpl σ) ≤ s.2 then
    some (.inr s.1)
  else
    ((f_X3_bitOf s.2 x1)).bind fun q1 =>
    if q1 = (1 : Int32) then
      ((f_X1_gainOfOne σ)).bind fun q6 =>
      f_X1_riseOf_j36 σ x1 s.1 s.2 q1 q6
    else
      ((f_X1_gainOfZero σ)).bind fun q2 =>
      f_X1_riseOf_j36 σ x1 s.1 s.2 q1 q2
def f_X1_riseOf (σ : GS) (x1 : Int32) : Option (Int32) :=
  (itr (f_X1_riseOf_b4 σ x1) FU ((0 : Int32), (0 : Int32))).bind fun e4 =>
  some e4
def f_X2_forget (σ : GS) : Option (GS) :=
  some (gsst σ (0 : Int32))
def f_X2_isBeginning (σ : GS) (x1 : Int32) : Option (Int32) :=
  if (x1 &&& (gsh σ)) = (gsw σ) then
    some (1 : Int32)
  else
    some (0 : Int32)
def f_X2_closeRing_b12 (σ : GS) (x1 : Int32) (s : Int32 × Int32 × Int32) : Option ((Int32 × Int32 × Int32) ⊕ ((Int32 × Int32))) :=
  if (1024 : Int32) ≤ s.2.2 then
    some (.inr (s.1, s.2.1))
  else
    if s.2.1 = x1 then
      some (.inr (s.1, s.2.1))
    else
      gd s.2.1 1024 <|
      some (.inl ((if s.2.1 < s.1 then s.2.1 else s.1), (gbe σ (s.2.1 : Int32).toNatClampNeg), (s.2.2 + (1 : Int32))))
def f_X2_closeRing_b47 (j44_2 : Int32) (s : Int32 × Int32 × GS) : Option ((Int32 × Int32 × GS) ⊕ ((GS))) :=
  if (1024 : Int32) ≤ s.2.1 then
    some (.inr s.2.2)
  else
    gd s.1 1024 <|
    if (gen s.2.2 (s.1 : Int32).toNatClampNeg) = (-2 : Int32) then
      gd s.1 1024 <|
      gd s.1 1024 <|
      some (.inl ((gbe (gten s.2.2 s.1 j44_2) (s.1 : Int32).toNatClampNeg), (s.2.1 + (1 : Int32)), (gten s.2.2 s.1 j44_2)))
    else
      some (.inr s.2.2)
def f_X2_closeRing_j44 (j44_2 : Int32) (j44_3 : Int32) (σj44 : GS) : Option (GS) :=
  (itr (f_X2_closeRing_b47 j44_2) FU (j44_3, (0 : Int32), σj44)).bind fun e47 =>
  some e47
def f_X2_closeRing (σ : GS) (x1 : Int32) : Option (GS) :=
  gd x1 1024 <|
  (itr (f_X2_closeRing_b12 σ x1) FU (x1, (gbe σ (x1 : Int32).toNatClampNeg), (0 : Int32))).bind fun e12 =>
  f_X2_closeRing_j44 e12.1 e12.2 σ
def f_X2_closeTail_b4 (σ : GS) (s : Int32 × Int32) : Option ((Int32 × Int32) ⊕ ((Int32 × Int32))) :=
  if (1024 : Int32) ≤ s.1 then
    some (.inr (s.1, s.2))
  else
    gd s.2 1024 <|
    if (gen σ (s.2 : Int32).toNatClampNeg) = (-2 : Int32) then
      gd s.2 1024 <|
      some (.inl ((s.1 + (1 : Int32)), (gbe σ (s.2 : Int32).toNatClampNeg)))
    else
      some (.inr (s.1, s.2))
def f_X2_closeTail_b58 (σj35 : GS) (j35_2 : Int32) (j35_3 : Int32) (s : Int32 × Int32 × GS) : Option ((Int32 × Int32 × GS) ⊕ ((GS))) :=
  if j35_2 ≤ s.2.1 then
    some (.inr s.2.2)
  else
    gd s.1 1024 <|
    gd s.1 1024 <|
    gd s.1 1024 <|
    some (.inl ((gbe (gtta (gten s.2.2 s.1 (gen σj35 (j35_3 : Int32).toNatClampNeg)) s.1 (((gta σj35 (j35_3 : Int32).toNatClampNeg) + j35_2) - s.2.1)) (s.1 : Int32).toNatClampNeg), (s.2.1 + (1 : Int32)), (gtta (gten s.2.2 s.1 (gen σj35 (j35_3 : Int32).toNatClampNeg)) s.1 (((gta σj35 (j35_3 : Int32).toNatClampNeg) + j35_2) - s.2.1))))
def f_X2_closeTail_j35 (x1 : Int32) (j35_2 : Int32) (j35_3 : Int32) (σj35 : GS) : Option (GS) :=
  gd j35_3 1024 <|
  gd j35_3 1024 <|
  (itr (f_X2_closeTail_b58 σj35 j35_2 j35_3) FU (x1, (0 : Int32), σj35)).bind fun e58 =>
  some e58
def f_X2_closeTail (σ : GS) (x1 : Int32) : Option (GS) :=
  (itr (f_X2_closeTail_b4 σ) FU ((0 : Int32), x1)).bind fun e4 =>
  f_X2_closeTail_j35 x1 e4.1 e4.2 σ
def f_X2_follow_b4 (s : Int32 × Int32 × GS) : Option ((Int32 × Int32 × GS) ⊕ ((Int32 × GS))) :=
  if (1024 : Int32) ≤ s.2.1 then
    some (.inr (s.1, s.2.2))
  else
    gd s.1 1024 <|
    if (gen s.2.2 (s.1 : Int32).toNatClampNeg) = (-1 : Int32) then
      gd s.1 1024 <|
      gd s.1 1024 <|
      some (.inl ((gbe (gten s.2.2 s.1 (-2 : Int32)) (s.1 : Int32).toNatClampNeg), (s.2.1 + (1 : Int32)), (gten s.2.2 s.1 (-2 : Int32))))
    else
      some (.inr (s.1, s.2.2))
def f_X2_follow (σ : GS) (x1 : Int32) : Option (GS) :=
  (itr (f_X2_follow_b4) FU (x1, (0 : Int32), σ)).bind fun e4 =>
  gd e4.1 1024 <|
  if (gen e4.2 (e4.1 : Int32).toNatClampNeg) = (-2 : Int32) then
    ((f_X2_closeRing e4.2 e4.1)).bind fun q3 =>
    ((f_X2_closeTail q3 x1)).bind fun q4 =>
    some q4
  else
    ((f_X2_closeTail e4.2 x1)).bind fun q2 =>
    some q2
def f_X2_goThrough_b54 (s : Int32 × GS) : Option ((Int32 × GS) ⊕ ((GS))) :=
  ((f_X1_states s.2)).bind fun q1 =>
  if q1 ≤ s.1 then
    some (.inr s.2)
  else
    ((f_X2_isBeginning s.2 s.1)).bind fun q2 =>
    if q2 = (0 : Int32) then
      gd s.1 1024 <|
      gd s.1 1024 <|
      gd s.1 1024 <|
      some (.inl ((s.1 + (1 : Int32)), (gtta (gten (gtbe s.2 s.1 s.1) s.1 (-1 : Int32)) s.1 (0 : Int32))))
    else
      ((f_X0_next s.2 (gru s.2) (gsh s.2) s.1)).bind fun q3 =>
      gd s.1 1024 <|
      gd s.1 1024 <|
      gd s.1 1024 <|
      some (.inl ((s.1 + (1 : Int32)), (gtta (gten (gtbe q3.2 s.1 q3.1) s.1 (-1 : Int32)) s.1 (0 : Int32))))
def f_X2_goThrough_b129 (s : Int32 × GS) : Option ((Int32 × GS) ⊕ ((GS))) :=
  ((f_X1_states s.2)).bind fun q5 =>
  if q5 ≤ s.1 then
    some (.inr s.2)
  else
    ((f_X2_isBeginning s.2 s.1)).bind fun q6 =>
    if q6 = (0 : Int32) then
      some (.inl ((s.1 + (1 : Int32)), s.2))
    else
      ((f_X2_follow s.2 s.1)).bind fun q7 =>
      some (.inl ((s.1 + (1 : Int32)), q7))
def f_X2_goThrough_j34 (x1 : Int32) (x2 : Int32) (x3 : Int32) (σj34 : GS) : Option (GS) :=
  (itr (f_X2_goThrough_b54) FU ((0 : Int32), (gssw (gssh (gsru σj34 x1) x2) (x3 &&& x2)))).bind fun e54 =>
  (itr (f_X2_goThrough_b129) FU ((0 : Int32), e54)).bind fun e129 =>
  some (gsst e129 (1 : Int32))
def f_X2_goThrough (σ : GS) (x1 x2 x3 : Int32) : Option (GS) :=
  if (gst σ) = (0 : Int32) then
    f_X2_goThrough_j34 x1 x2 x3 σ
  else
    if (gru σ) = x1 then
      if (gsh σ) = x2 then
        if (gsw σ) = (x3 &&& x2) then
          some σ
        else
          f_X2_goThrough_j34 x1 x2 x3 σ
      else
        f_X2_goThrough_j34 x1 x2 x3 σ
    else
      f_X2_goThrough_j34 x1 x2 x3 σ
def f_X2_howManyEnds_b4 (σ : GS) (s : Int32 × Int32) : Option ((Int32 × Int32) ⊕ ((Int32))) :=
  ((f_X1_states σ)).bind fun q1 =>
  if q1 ≤ s.2 then
    some (.inr s.1)
  else
    gd s.2 1024 <|
    if (gen σ (s.2 : Int32).toNatClampNeg) = s.2 then
      some (.inl ((s.1 + (1 : Int32)), (s.2 + (1 : Int32))))
    else
      some (.inl (s.1, (s.2 + (1 : Int32))))
def f_X2_howManyEnds (σ : GS) : Option (Int32) :=
  (itr (f_X2_howManyEnds_b4 σ) FU ((0 : Int32), (0 : Int32))).bind fun e4 =>
  some e4
def f_X2_endAt_b4 (σ : GS) (x1 : Int32) (s : Int32 × Int32) : Option ((Int32 × Int32) ⊕ ((Int32) ⊕ Unit)) :=
  ((f_X1_states σ)).bind fun q1 =>
  if q1 ≤ s.2 then
    some (.inr (.inr ()))
  else
    gd s.2 1024 <|
    if (gen σ (s.2 : Int32).toNatClampNeg) = s.2 then
      if s.1 = x1 then
        some (.inr (.inl s.2))
      else
        some (.inl ((s.1 + (1 : Int32)), (s.2 + (1 : Int32))))
    else
      some (.inl (s.1, (s.2 + (1 : Int32))))
def f_X2_endAt (σ : GS) (x1 : Int32) : Option (Int32) :=
  (itr (f_X2_endAt_b4 σ x1) FU ((0 : Int32), (0 : Int32))).bind fun e4 => match e4 with
  | .inl e4_0 =>
    some e4_0
  | .inr e4_1 =>
    some (-6 : Int32)
def f_X2_howManyComeTo_b4 (σ : GS) (x1 : Int32) (s : Int32 × Int32) : Option ((Int32 × Int32) ⊕ ((Int32))) :=
  ((f_X1_states σ)).bind fun q1 =>
  if q1 ≤ s.2 then
    some (.inr s.1)
  else
    gd s.2 1024 <|
    if (gen σ (s.2 : Int32).toNatClampNeg) = x1 then
      some (.inl ((s.1 + (1 : Int32)), (s.2 + (1 : Int32))))
    else
      some (.inl (s.1, (s.2 + (1 : Int32))))
def f_X2_howManyComeTo (σ : GS) (x1 : Int32) : Option (Int32) :=
  (itr (f_X2_howManyComeTo_b4 σ x1) FU ((0 : Int32), (0 : Int32))).bind fun e4 =>
  some e4
def f_X2_ringLength_b4 (σ : GS) (x1 : Int32) (s : Int32 × Int32) : Option ((Int32 × Int32) ⊕ ((Int32))) :=
  ((f_X1_states σ)).bind fun q1 =>
  if q1 ≤ s.2 then
    some (.inr s.1)
  else
    gd s.2 1024 <|
    if (gen σ (s.2 : Int32).toNatClampNeg) = x1 then
      gd s.2 1024 <|
      if (gta σ (s.2 : Int32).toNatClampNeg) = (0 : Int32) then
        some (.inl ((s.1 + (1 : Int32)), (s.2 + (1 : Int32))))
      else
        some (.inl (s.1, (s.2 + (1 : Int32))))
    else
      some (.inl (s.1, (s.2 + (1 : Int32))))
def f_X2_ringLength (σ : GS) (x1 : Int32) : Option (Int32) :=
  (itr (f_X2_ringLength_b4 σ x1) FU ((0 : Int32), (0 : Int32))).bind fun e4 =>
  some e4
def f_X2_greatestTail_b4 (σ : GS) (x1 : Int32) (s : Int32 × Int32) : Option ((Int32 × Int32) ⊕ ((Int32))) :=
  ((f_X1_states σ)).bind fun q1 =>
  if q1 ≤ s.2 then
    some (.inr s.1)
  else
    gd s.2 1024 <|
    if (gen σ (s.2 : Int32).toNatClampNeg) = x1 then
      gd s.2 1024 <|
      some (.inl ((if s.1 < (gta σ (s.2 : Int32).toNatClampNeg) then (gta σ (s.2 : Int32).toNatClampNeg) else s.1), (s.2 + (1 : Int32))))
    else
      some (.inl (s.1, (s.2 + (1 : Int32))))
def f_X2_greatestTail (σ : GS) (x1 : Int32) : Option (Int32) :=
  (itr (f_X2_greatestTail_b4 σ x1) FU ((0 : Int32), (0 : Int32))).bind fun e4 =>
  some e4
def f_X2_firstOfRing_b12 (σ : GS) (x1 : Int32) (s : Int32 × Int32) : Option ((Int32 × Int32) ⊕ ((Int32))) :=
  if (gta σ (x1 : Int32).toNatClampNeg) ≤ s.2 then
    some (.inr s.1)
  else
    gd s.1 1024 <|
    some (.inl ((gbe σ (s.1 : Int32).toNatClampNeg), (s.2 + (1 : Int32))))
def f_X2_firstOfRing (σ : GS) (x1 : Int32) : Option (Int32) :=
  gd x1 1024 <|
  (itr (f_X2_firstOfRing_b12 σ x1) FU (x1, (0 : Int32))).bind fun e12 =>
  some e12
def f_X3_forgetMoves (σ : GS) : Option (GS) :=
  ((f_X0_forget σ)).bind fun q1 =>
  ((f_X2_forget q1)).bind fun q2 =>
  some q2
def f_X3_players (σ : GS) (x1 : Int32) : Option (Int32 × GS) :=
  if x1 < (2 : Int32) then
    some ((-2 : Int32), σ)
  else
    if x1 ≤ (10 : Int32) then
      ((f_X1_beginAnew σ x1)).bind fun q1 =>
      ((f_X3_forgetMoves (gsnw (gshd q1 (0 : Int32)) (0 : Int32)))).bind fun q2 =>
      some ((gpl σ), q2)
    else
      some ((-2 : Int32), σ)
def f_X3_line (σ : GS) (x1 x2 x3 : Int32) : Option (Int32 × GS) :=
  ((f_X1_mayJoin σ x1 x2)).bind fun q1 =>
  if q1 = (0 : Int32) then
    some ((-1 : Int32), σ)
  else
    if x3 < (0 : Int32) then
      some ((-2 : Int32), σ)
    else
      if x3 ≤ (9 : Int32) then
        ((f_X1_weightOf σ x1 x2)).bind fun q2 =>
        ((f_X1_setWeight σ x1 x2 x3)).bind fun q3 =>
        ((f_X3_forgetMoves q3)).bind fun q4 =>
        some (q2, q4)
      else
        some ((-2 : Int32), σ)
def f_X3_weight (σ : GS) (x1 x2 : Int32) : Option (Int32) :=
  ((f_X1_mayJoin σ x1 x2)).bind fun q1 =>
  if q1 = (0 : Int32) then
    some (-1 : Int32)
  else
    ((f_X1_weightOf σ x1 x2)).bind fun q2 =>
    some q2
def f_X3_isWay (x0 : Int32) : Option (Int32) :=
  if x0 = (0 : Int32) then
    some (1 : Int32)
  else
    if x0 = (1 : Int32) then
      some (1 : Int32)
    else
      some (0 : Int32)
def f_X3_pay (σ : GS) (x1 x2 x3 : Int32) : Option (Int32 × GS) :=
  ((f_X3_isWay x1)).bind fun q1 =>
  if q1 = (0 : Int32) then
    some ((-100002 : Int32), σ)
  else
    ((f_X3_isWay x2)).bind fun q2 =>
    if q2 = (0 : Int32) then
      some ((-100002 : Int32), σ)
    else
      if x3 < (-9 : Int32) then
        some ((-100002 : Int32), σ)
      else
        if x3 ≤ (9 : Int32) then
          ((f_X1_payOf σ x1 x2)).bind fun q3 =>
          ((f_X1_setPay σ x1 x2 x3)).bind fun q4 =>
          ((f_X3_forgetMoves q4)).bind fun q5 =>
          some (q3, q5)
        else
          some ((-100002 : Int32), σ)
def f_X3_bar (σ : GS) (x1 : Int32) : Option (Int32 × GS) :=
  if x1 < (0 : Int32) then
    some ((-2 : Int32), σ)
  else
    if x1 ≤ (100 : Int32) then
      ((f_X3_forgetMoves (gsbr σ x1))).bind fun q1 =>
      some ((gbr σ), q1)
    else
      some ((-2 : Int32), σ)
def f_X3_hold (σ : GS) (x1 x2 : Int32) : Option (Int32 × GS) :=
  ((f_X1_has σ x1)).bind fun q1 =>
  if q1 = (0 : Int32) then
    some ((-1 : Int32), σ)
  else
    ((f_X3_bitOf x1 (ghd σ))).bind fun q2 =>
    if x2 = (0 : Int32) then
      some (q2, (gshd σ ((ghd σ) &&& (((1 : Int32) <<< (x1 &&& 31)) ^^^ (-1 : Int32)))))
    else
      some (q2, (gshd σ ((ghd σ) ||| ((1 : Int32) <<< (x1 &&& 31)))))
def f_X3_state (σ : GS) (x1 : Int32) : Option (Int32 × GS) :=
  ((f_X1_isState σ x1)).bind fun q1 =>
  if q1 = (0 : Int32) then
    some ((-2 : Int32), σ)
  else
    some ((gnw σ), (gsnw σ x1))
def f_X3_wage (σ : GS) (x1 x2 : Int32) : Option (Int32) :=
  ((f_X1_has σ x1)).bind fun q1 =>
  if q1 = (0 : Int32) then
    some (-100001 : Int32)
  else
    if x2 = (0 : Int32) then
      ((f_X3_bitOf x1 (gnw σ))).bind fun q2 =>
      ((f_X1_wageOf σ x1 (q2 ^^^ x2) (gnw σ))).bind fun q3 =>
      some q3
    else
      if x2 = (1 : Int32) then
        ((f_X3_bitOf x1 (gnw σ))).bind fun q4 =>
        ((f_X1_wageOf σ x1 (q4 ^^^ x2) (gnw σ))).bind fun q5 =>
        some q5
      else
        some (-100002 : Int32)
def f_X3_sum_b4 (σ : GS) (s : Int32 × Int32) : Option ((Int32 × Int32) ⊕ ((Int32))) :=
  if (gpl σ) ≤ s.2 then
    some (.inr s.1)
  else
    ((f_X3_bitOf s.2 (gnw σ))).bind fun q1 =>
    ((f_X1_wageOf σ s.2 q1 (gnw σ))).bind fun q2 =>
    some (.inl ((s.1 + q2), (s.2 + (1 : Int32))))
def f_X3_sum (σ : GS) : Option (Int32) :=
  (itr (f_X3_sum_b4 σ) FU ((0 : Int32), (0 : Int32))).bind fun e4 =>
  some e4
def f_X3_isRule (x0 : Int32) : Option (Int32) :=
  if x0 < (0 : Int32) then
    some (0 : Int32)
  else
    if (3 : Int32) < x0 then
      some (0 : Int32)
    else
      some (1 : Int32)
def f_X3_step_b23 (x2 : Int32) (x1 : Int32) (s : Int32 × GS) : Option ((Int32 × GS) ⊕ ((GS))) :=
  if x2 ≤ s.1 then
    some (.inr s.2)
  else
    ((f_X0_next s.2 x1 (ghd s.2) (gnw s.2))).bind fun q2 =>
    some (.inl ((s.1 + (1 : Int32)), (gsnw q2.2 q2.1)))
def f_X3_step (σ : GS) (x1 x2 : Int32) : Option (Int32 × GS) :=
  ((f_X3_isRule x1)).bind fun q1 =>
  if q1 = (0 : Int32) then
    some ((-2 : Int32), σ)
  else
    if x2 < (1 : Int32) then
      some ((-2 : Int32), σ)
    else
      if x2 ≤ (100 : Int32) then
        (itr (f_X3_step_b23 x2 x1) FU ((0 : Int32), σ)).bind fun e23 =>
        some ((gnw e23), e23)
      else
        some ((-2 : Int32), σ)
def f_X3_after (σ : GS) (x1 x2 : Int32) : Option (Int32 × GS) :=
  ((f_X3_isRule x1)).bind fun q1 =>
  if q1 = (0 : Int32) then
    some ((-2 : Int32), σ)
  else
    ((f_X1_isState σ x2)).bind fun q2 =>
    if q2 = (0 : Int32) then
      some ((-2 : Int32), σ)
    else
      ((f_X0_next σ x1 (ghd σ) x2)).bind fun q3 =>
      some (q3.1, q3.2)
def f_X3_goes (σ : GS) (x1 x2 : Int32) : Option (Int32 × GS) :=
  ((f_X3_isRule x1)).bind fun q1 =>
  if q1 = (0 : Int32) then
    some ((-2 : Int32), σ)
  else
    if x2 < (0 : Int32) then
      some ((-2 : Int32), σ)
    else
      if x2 ≤ (3 : Int32) then
        ((f_X2_goThrough σ x1 (ghd σ) (gnw σ))).bind fun q2 =>
        if x2 = (0 : Int32) then
          gd (gnw q2) 1024 <|
          some ((gta q2 ((gnw q2) : Int32).toNatClampNeg), q2)
        else
          if x2 = (1 : Int32) then
            gd (gnw q2) 1024 <|
            ((f_X2_ringLength q2 (gen q2 ((gnw q2) : Int32).toNatClampNeg))).bind fun q3 =>
            some (q3, q2)
          else
            if x2 = (2 : Int32) then
              gd (gnw q2) 1024 <|
              some ((gen q2 ((gnw q2) : Int32).toNatClampNeg), q2)
            else
              ((f_X2_firstOfRing q2 (gnw q2))).bind fun q4 =>
              some (q4, q2)
      else
        some ((-2 : Int32), σ)
def f_X3_end (σ : GS) (x1 x2 : Int32) : Option (Int32 × GS) :=
  ((f_X3_isRule x1)).bind fun q1 =>
  if q1 = (0 : Int32) then
    some ((-2 : Int32), σ)
  else
    ((f_X2_goThrough σ x1 (ghd σ) (gnw σ))).bind fun q2 =>
    if x2 = (-1 : Int32) then
      ((f_X2_howManyEnds q2)).bind fun q4 =>
      some (q4, q2)
    else
      ((f_X2_endAt q2 x2)).bind fun q3 =>
      some (q3, q2)
def f_X3_basin (σ : GS) (x1 x2 x3 : Int32) : Option (Int32 × GS) :=
  ((f_X3_isRule x1)).bind fun q1 =>
  if q1 = (0 : Int32) then
    some ((-2 : Int32), σ)
  else
    if x3 < (0 : Int32) then
      some ((-2 : Int32), σ)
    else
      if x3 ≤ (2 : Int32) then
        ((f_X2_goThrough σ x1 (ghd σ) (gnw σ))).bind fun q2 =>
        ((f_X2_endAt q2 x2)).bind fun q3 =>
        if q3 = (-6 : Int32) then
          some ((-6 : Int32), q2)
        else
          if x3 = (0 : Int32) then
            ((f_X2_howManyComeTo q2 q3)).bind fun q4 =>
            some (q4, q2)
          else
            if x3 = (1 : Int32) then
              ((f_X2_ringLength q2 q3)).bind fun q5 =>
              some (q5, q2)
            else
              ((f_X2_greatestTail q2 q3)).bind fun q6 =>
              some (q6, q2)
      else
        some ((-2 : Int32), σ)
def f_X3_clearMarks_b2 (s : Int32 × GS) : Option ((Int32 × GS) ⊕ ((GS))) :=
  ((f_X1_states s.2)).bind fun q1 =>
  if q1 ≤ s.1 then
    some (.inr s.2)
  else
    gd s.1 1024 <|
    some (.inl ((s.1 + (1 : Int32)), (gtma s.2 s.1 (-1 : Int32))))
def f_X3_clearMarks (σ : GS) : Option (GS) :=
  (itr (f_X3_clearMarks_b2) FU ((0 : Int32), σ)).bind fun e2 =>
  some e2
def f_X3_isBeginning (σ : GS) (x1 : Int32) : Option (Int32) :=
  if ((x1 ^^^ (gnw σ)) &&& (ghd σ)) = (0 : Int32) then
    some (1 : Int32)
  else
    some (0 : Int32)
def f_X3_lone_b16 (x1 : Int32) (s : Int32 × GS) : Option ((Int32 × GS) ⊕ ((GS))) :=
  ((f_X1_states s.2)).bind fun q3 =>
  if q3 ≤ s.1 then
    some (.inr s.2)
  else
    ((f_X3_isBeginning s.2 s.1)).bind fun q4 =>
    if q4 = (0 : Int32) then
      some (.inl ((s.1 + (1 : Int32)), s.2))
    else
      ((f_X0_next s.2 x1 (ghd s.2) s.1)).bind fun q5 =>
      gd q5.1 1024 <|
      some (.inl ((s.1 + (1 : Int32)), (gtma q5.2 q5.1 s.1)))
def f_X3_lone_b64 (σz16_0 : GS) (s : Int32 × Int32) : Option ((Int32 × Int32) ⊕ ((Int32))) :=
  ((f_X1_states σz16_0)).bind fun q7 =>
  if q7 ≤ s.2 then
    some (.inr s.1)
  else
    ((f_X3_isBeginning σz16_0 s.2)).bind fun q8 =>
    if q8 = (0 : Int32) then
      some (.inl (s.1, (s.2 + (1 : Int32))))
    else
      gd s.2 1024 <|
      if (gma σz16_0 (s.2 : Int32).toNatClampNeg) = (-1 : Int32) then
        some (.inl ((s.1 + (1 : Int32)), (s.2 + (1 : Int32))))
      else
        some (.inl (s.1, (s.2 + (1 : Int32))))
def f_X3_lone (σ : GS) (x1 : Int32) : Option (Int32 × GS) :=
  ((f_X3_isRule x1)).bind fun q1 =>
  if q1 = (0 : Int32) then
    some ((-2 : Int32), σ)
  else
    ((f_X3_clearMarks σ)).bind fun q2 =>
    (itr (f_X3_lone_b16 x1) FU ((0 : Int32), q2)).bind fun e16 =>
    (itr (f_X3_lone_b64 e16) FU ((0 : Int32), (0 : Int32))).bind fun e64 =>
    some (e64, e16)
def f_X3_before_b15 (x1 : Int32) (x2 : Int32) (s : Int32 × Int32 × GS) : Option ((Int32 × Int32 × GS) ⊕ ((Int32 × GS) ⊕ (Int32 × GS))) :=
  ((f_X1_states s.2.2)).bind fun q2 =>
  if q2 ≤ s.2.1 then
    some (.inr (.inr (s.1, s.2.2)))
  else
    ((f_X3_isBeginning s.2.2 s.2.1)).bind fun q3 =>
    if q3 = (0 : Int32) then
      some (.inl (s.1, (s.2.1 + (1 : Int32)), s.2.2))
    else
      ((f_X0_next s.2.2 x1 (ghd s.2.2) s.2.1)).bind fun q4 =>
      if q4.1 = (gnw q4.2) then
        if s.1 = x2 then
          some (.inr (.inl (s.2.1, q4.2)))
        else
          some (.inl ((s.1 + (1 : Int32)), (s.2.1 + (1 : Int32)), q4.2))
      else
        some (.inl (s.1, (s.2.1 + (1 : Int32)), q4.2))
def f_X3_before (σ : GS) (x1 x2 : Int32) : Option (Int32 × GS) :=
  ((f_X3_isRule x1)).bind fun q1 =>
  if q1 = (0 : Int32) then
    some ((-2 : Int32), σ)
  else
    (itr (f_X3_before_b15 x1 x2) FU ((0 : Int32), (0 : Int32), σ)).bind fun e15 => match e15 with
    | .inl e15_0 =>
      some (e15_0.1, e15_0.2)
    | .inr e15_1 =>
      if x2 = (-1 : Int32) then
        some (e15_1.1, e15_1.2)
      else
        some ((-6 : Int32), e15_1.2)
def f_X3_rise (σ : GS) : Option (Int32) :=
  ((f_X1_riseOf σ (gnw σ))).bind fun q1 =>
  some q1
def f_X3_highest_b19 (σ : GS) (s : Int32 × Int32 × Int32) : Option ((Int32 × Int32 × Int32) ⊕ ((Int32))) :=
  ((f_X1_states σ)).bind fun q2 =>
  if q2 ≤ s.2.2 then
    some (.inr s.1)
  else
    ((f_X3_isBeginning σ s.2.2)).bind fun q3 =>
    if q3 = (0 : Int32) then
      some (.inl (s.1, s.2.1, (s.2.2 + (1 : Int32))))
    else
      ((f_X1_riseOf σ s.2.2)).bind fun q4 =>
      if s.2.1 < q4 then
        some (.inl (s.2.2, q4, (s.2.2 + (1 : Int32))))
      else
        if q4 = s.2.1 then
          if s.1 ≤ s.2.2 then
            some (.inl (s.1, s.2.1, (s.2.2 + (1 : Int32))))
          else
            some (.inl (s.2.2, q4, (s.2.2 + (1 : Int32))))
        else
          some (.inl (s.1, s.2.1, (s.2.2 + (1 : Int32))))
def f_X3_highest (σ : GS) : Option (Int32) :=
  ((f_X1_riseOf σ (gnw σ))).bind fun q1 =>
  (itr (f_X3_highest_b19 σ) FU ((gnw σ), q1, (0 : Int32))).bind fun e19 =>
  some e19
def f_X3_isAtRest (σ : GS) (x1 : Int32) : Option (Int32 × GS) :=
  ((f_X0_next σ (0 : Int32) (ghd σ) x1)).bind fun q1 =>
  if q1.1 = x1 then
    some ((1 : Int32), q1.2)
  else
    some ((0 : Int32), q1.2)
def f_X3_rests (σ : GS) : Option (Int32 × GS) :=
  ((f_X3_isAtRest σ (gnw σ))).bind fun q1 =>
  if q1.1 = (0 : Int32) then
    some ((0 : Int32), q1.2)
  else
    some ((1 : Int32), q1.2)
def f_X3_restMany_b4 (s : Int32 × Int32 × GS) : Option ((Int32 × Int32 × GS) ⊕ ((Int32 × GS))) :=
  ((f_X1_states s.2.2)).bind fun q1 =>
  if q1 ≤ s.2.1 then
    some (.inr (s.1, s.2.2))
  else
    ((f_X3_isBeginning s.2.2 s.2.1)).bind fun q2 =>
    if q2 = (0 : Int32) then
      some (.inl (s.1, (s.2.1 + (1 : Int32)), s.2.2))
    else
      ((f_X3_isAtRest s.2.2 s.2.1)).bind fun q3 =>
      if q3.1 = (0 : Int32) then
        some (.inl (s.1, (s.2.1 + (1 : Int32)), q3.2))
      else
        some (.inl ((s.1 + (1 : Int32)), (s.2.1 + (1 : Int32)), q3.2))
def f_X3_restMany (σ : GS) : Option (Int32 × GS) :=
  (itr (f_X3_restMany_b4) FU ((0 : Int32), (0 : Int32), σ)).bind fun e4 =>
  some (e4.1, e4.2)
def f_J6_bitCount_0f7a4 (x0 : Int32) : Option (Int32) :=
  some ((((((((x0 - (((x0).toUInt32 >>> (((1 : Int32)).toUInt32 &&& Int32.toUInt32 31)).toInt32 &&& (1431655765 : Int32))) &&& (858993459 : Int32)) + ((((x0 - (((x0).toUInt32 >>> (((1 : Int32)).toUInt32 &&& Int32.toUInt32 31)).toInt32 &&& (1431655765 : Int32)))).toUInt32 >>> (((2 : Int32)).toUInt32 &&& Int32.toUInt32 31)).toInt32 &&& (858993459 : Int32))) + (((((x0 - (((x0).toUInt32 >>> (((1 : Int32)).toUInt32 &&& Int32.toUInt32 31)).toInt32 &&& (1431655765 : Int32))) &&& (858993459 : Int32)) + ((((x0 - (((x0).toUInt32 >>> (((1 : Int32)).toUInt32 &&& Int32.toUInt32 31)).toInt32 &&& (1431655765 : Int32)))).toUInt32 >>> (((2 : Int32)).toUInt32 &&& Int32.toUInt32 31)).toInt32 &&& (858993459 : Int32)))).toUInt32 >>> (((4 : Int32)).toUInt32 &&& Int32.toUInt32 31)).toInt32) &&& (252645135 : Int32)) + (((((((x0 - (((x0).toUInt32 >>> (((1 : Int32)).toUInt32 &&& Int32.toUInt32 31)).toInt32 &&& (1431655765 : Int32))) &&& (858993459 : Int32)) + ((((x0 - (((x0).toUInt32 >>> (((1 : Int32)).toUInt32 &&& Int32.toUInt32 31)).toInt32 &&& (1431655765 : Int32)))).toUInt32 >>> (((2 : Int32)).toUInt32 &&& Int32.toUInt32 31)).toInt32 &&& (858993459 : Int32))) + (((((x0 - (((x0).toUInt32 >>> (((1 : Int32)).toUInt32 &&& Int32.toUInt32 31)).toInt32 &&& (1431655765 : Int32))) &&& (858993459 : Int32)) + ((((x0 - (((x0).toUInt32 >>> (((1 : Int32)).toUInt32 &&& Int32.toUInt32 31)).toInt32 &&& (1431655765 : Int32)))).toUInt32 >>> (((2 : Int32)).toUInt32 &&& Int32.toUInt32 31)).toInt32 &&& (858993459 : Int32)))).toUInt32 >>> (((4 : Int32)).toUInt32 &&& Int32.toUInt32 31)).toInt32) &&& (252645135 : Int32))).toUInt32 >>> (((8 : Int32)).toUInt32 &&& Int32.toUInt32 31)).toInt32) + ((((((((x0 - (((x0).toUInt32 >>> (((1 : Int32)).toUInt32 &&& Int32.toUInt32 31)).toInt32 &&& (1431655765 : Int32))) &&& (858993459 : Int32)) + ((((x0 - (((x0).toUInt32 >>> (((1 : Int32)).toUInt32 &&& Int32.toUInt32 31)).toInt32 &&& (1431655765 : Int32)))).toUInt32 >>> (((2 : Int32)).toUInt32 &&& Int32.toUInt32 31)).toInt32 &&& (858993459 : Int32))) + (((((x0 - (((x0).toUInt32 >>> (((1 : Int32)).toUInt32 &&& Int32.toUInt32 31)).toInt32 &&& (1431655765 : Int32))) &&& (858993459 : Int32)) + ((((x0 - (((x0).toUInt32 >>> (((1 : Int32)).toUInt32 &&& Int32.toUInt32 31)).toInt32 &&& (1431655765 : Int32)))).toUInt32 >>> (((2 : Int32)).toUInt32 &&& Int32.toUInt32 31)).toInt32 &&& (858993459 : Int32)))).toUInt32 >>> (((4 : Int32)).toUInt32 &&& Int32.toUInt32 31)).toInt32) &&& (252645135 : Int32)) + (((((((x0 - (((x0).toUInt32 >>> (((1 : Int32)).toUInt32 &&& Int32.toUInt32 31)).toInt32 &&& (1431655765 : Int32))) &&& (858993459 : Int32)) + ((((x0 - (((x0).toUInt32 >>> (((1 : Int32)).toUInt32 &&& Int32.toUInt32 31)).toInt32 &&& (1431655765 : Int32)))).toUInt32 >>> (((2 : Int32)).toUInt32 &&& Int32.toUInt32 31)).toInt32 &&& (858993459 : Int32))) + (((((x0 - (((x0).toUInt32 >>> (((1 : Int32)).toUInt32 &&& Int32.toUInt32 31)).toInt32 &&& (1431655765 : Int32))) &&& (858993459 : Int32)) + ((((x0 - (((x0).toUInt32 >>> (((1 : Int32)).toUInt32 &&& Int32.toUInt32 31)).toInt32 &&& (1431655765 : Int32)))).toUInt32 >>> (((2 : Int32)).toUInt32 &&& Int32.toUInt32 31)).toInt32 &&& (858993459 : Int32)))).toUInt32 >>> (((4 : Int32)).toUInt32 &&& Int32.toUInt32 31)).toInt32) &&& (252645135 : Int32))).toUInt32 >>> (((8 : Int32)).toUInt32 &&& Int32.toUInt32 31)).toInt32)).toUInt32 >>> (((16 : Int32)).toUInt32 &&& Int32.toUInt32 31)).toInt32) &&& (63 : Int32))
def f_X3_tipsAll_b16 (x2 : Int32) (r1 : Int32) (x1 : Int32) (s : Int32 × Int32 × GS) : Option ((Int32 × Int32 × GS) ⊕ ((GS) ⊕ (GS))) :=
  if (1024 : Int32) < s.2.1 then
    some (.inr (.inr s.2.2))
  else
    gd s.1 1024 <|
    if (gma s.2.2 (s.1 : Int32).toNatClampNeg) = x2 then
      some (.inr (.inr s.2.2))
    else
      if s.1 = (r1 - (1 : Int32)) then
        some (.inr (.inl s.2.2))
      else
        gd s.1 1024 <|
        ((f_X0_next (gtma s.2.2 s.1 x2) x1 x2 s.1)).bind fun q2 =>
        some (.inl (q2.1, (s.2.1 + (1 : Int32)), q2.2))
def f_X3_tipsAll (σ : GS) (x1 x2 : Int32) : Option (Int32 × GS) :=
  ((f_X1_states σ)).bind fun q1 =>
  (itr (f_X3_tipsAll_b16 x2 q1 x1) FU (x2, (0 : Int32), σ)).bind fun e16 => match e16 with
  | .inl e16_0 =>
    some ((1 : Int32), e16_0)
  | .inr e16_1 =>
    some ((0 : Int32), e16_1)
def f_X3_tip_b29 (y16_2 : Int32) (x1 : Int32) (s : Int32 × GS) : Option ((Int32 × GS) ⊕ ((Int32 × GS) ⊕ (GS))) :=
  ((f_X1_states s.2)).bind fun q3 =>
  if q3 ≤ s.1 then
    some (.inr (.inr s.2))
  else
    ((f_J6_bitCount_0f7a4 s.1)).bind fun q4 =>
    if q4 = y16_2 then
      ((f_X3_tipsAll s.2 x1 s.1)).bind fun q5 =>
      if q5.1 = (0 : Int32) then
        some (.inl ((s.1 + (1 : Int32)), q5.2))
      else
        some (.inr (.inl (s.1, q5.2)))
    else
      some (.inl ((s.1 + (1 : Int32)), s.2))
def f_X3_tip_b16 (x1 : Int32) (s : Int32 × GS) : Option ((Int32 × GS) ⊕ ((Int32 × GS) ⊕ (GS))) :=
  if (gpl s.2) < s.1 then
    some (.inr (.inr s.2))
  else
    (itr (f_X3_tip_b29 s.1 x1) FU ((0 : Int32), s.2)).bind fun e29 => match e29 with
    | .inl e29_0 =>
      some (.inr (.inl (e29_0.1, e29_0.2)))
    | .inr e29_1 =>
      some (.inl ((s.1 + (1 : Int32)), e29_1))
def f_X3_tip (σ : GS) (x1 : Int32) : Option (Int32 × GS) :=
  ((f_X3_isRule x1)).bind fun q1 =>
  if q1 = (0 : Int32) then
    some ((-2 : Int32), σ)
  else
    ((f_X3_clearMarks σ)).bind fun q2 =>
    (itr (f_X3_tip_b16 x1) FU ((0 : Int32), q2)).bind fun e16 => match e16 with
    | .inl e16_0 =>
      some (e16_0.1, e16_0.2)
    | .inr e16_1 =>
      some ((-6 : Int32), e16_1)
def f_X3_commonDivisor_b7 (s : Int32 × Int32 × Int32) : Option ((Int32 × Int32 × Int32) ⊕ ((Int32))) :=
  if (100 : Int32) ≤ s.2.2 then
    some (.inr s.1)
  else
    if s.2.1 = (0 : Int32) then
      some (.inr s.1)
    else
      gz s.2.1 <|
      some (.inl (s.2.1, (s.1 - s.1 / s.2.1 * s.2.1), (s.2.2 + (1 : Int32))))
def f_X3_commonDivisor (x0 x1 : Int32) : Option (Int32) :=
  (itr (f_X3_commonDivisor_b7) FU (x0, x1, (0 : Int32))).bind fun e7 =>
  some e7
def f_X3_share (σ : GS) (x1 : Int32) : Option (Int32) :=
  if x1 = (0 : Int32) then
    ((f_X1_gainOfZero σ)).bind fun q1 =>
    ((f_X1_gainOfOne σ)).bind fun q2 =>
    if (q1 + q2) ≤ (0 : Int32) then
      some (-3 : Int32)
    else
      if q1 < (0 : Int32) then
        some (-3 : Int32)
      else
        if q1 ≤ (q1 + q2) then
          ((f_X3_commonDivisor (q1 + q2) q1)).bind fun q3 =>
          if (1 : Int32) ≤ q3 then
            if x1 = (0 : Int32) then
              gz q3 <|
              some (q1 / q3)
            else
              gz q3 <|
              some ((q1 + q2) / q3)
          else
            some (-3 : Int32)
        else
          some (-3 : Int32)
  else
    if x1 = (1 : Int32) then
      ((f_X1_gainOfZero σ)).bind fun q4 =>
      ((f_X1_gainOfOne σ)).bind fun q5 =>
      if (q4 + q5) ≤ (0 : Int32) then
        some (-3 : Int32)
      else
        if q4 < (0 : Int32) then
          some (-3 : Int32)
        else
          if q4 ≤ (q4 + q5) then
            ((f_X3_commonDivisor (q4 + q5) q4)).bind fun q6 =>
            if (1 : Int32) ≤ q6 then
              if x1 = (0 : Int32) then
                gz q6 <|
                some (q4 / q6)
              else
                gz q6 <|
                some ((q4 + q5) / q6)
            else
              some (-3 : Int32)
          else
            some (-3 : Int32)
    else
      some (-2 : Int32)
def f_X3_hangs_b27 (σ : GS) (x1 : Int32) (x2 : Int32) (s : Int32) : Option ((Int32) ⊕ (Unit ⊕ Unit)) :=
  if (gpl σ) ≤ s then
    some (.inr (.inr ()))
  else
    ((f_X3_bitOf s x1)).bind fun q2 =>
    if q2 = (1 : Int32) then
      ((f_X1_reaches σ s x1 x2)).bind fun q3 =>
      if q3 = (0 : Int32) then
        some (.inr (.inl ()))
      else
        some (.inl (s + (1 : Int32)))
    else
      some (.inl (s + (1 : Int32)))
def f_X3_hangs (σ : GS) (x1 x2 : Int32) : Option (Int32) :=
  ((f_X1_isState σ x1)).bind fun q1 =>
  if q1 = (0 : Int32) then
    some (-2 : Int32)
  else
    if x2 < (1 : Int32) then
      some (-2 : Int32)
    else
      if x2 ≤ (100 : Int32) then
        (itr (f_X3_hangs_b27 σ x1 x2) FU (0 : Int32)).bind fun e27 => match e27 with
        | .inl e27_0 =>
          some (0 : Int32)
        | .inr e27_1 =>
          some (1 : Int32)
      else
        some (-2 : Int32)
def f_X3_toldPay (σ : GS) (x1 : Int32) : Option (Int32) :=
  if x1 < (10 : Int32) then
    some (-100002 : Int32)
  else
    if x1 ≤ (13 : Int32) then
      ((f_X1_payOf σ ((x1 - (10 : Int32)) >>> ((1 : Int32) &&& 31)) ((x1 - (10 : Int32)) &&& (1 : Int32)))).bind fun q1 =>
      some q1
    else
      some (-100002 : Int32)
def f_X3_told (σ : GS) (x1 : Int32) : Option (Int32) :=
  if x1 = (0 : Int32) then
    some (gpl σ)
  else
    if x1 = (1 : Int32) then
      ((f_X1_howManyLines σ)).bind fun q1 =>
      some q1
    else
      if x1 = (2 : Int32) then
        some (ghd σ)
      else
        if x1 = (3 : Int32) then
          some (gnw σ)
        else
          if x1 = (4 : Int32) then
            some (gbr σ)
          else
            ((f_X3_toldPay σ x1)).bind fun q2 =>
            some q2
def f_X4_in (x0 x1 x2 : Int32) : Option (Int32) :=
  if x0 < x1 then
    some (0 : Int32)
  else
    if x2 < x0 then
      some (0 : Int32)
    else
      some (1 : Int32)
def f_X4_isOne (σ : MS) (x1 : Int32) : Option (Int32) :=
  ((f_X4_in x1 (0 : Int32) ((mpl σ) - (1 : Int32)))).bind fun q1 =>
  bz q1 <|
  some q1
def f_X4_states (σ : MS) : Option (Int32) :=
  some ((1 : Int32) <<< ((mpl σ) &&& 31))
def f_X4_isState (σ : MS) (x1 : Int32) : Option (Int32) :=
  ((f_X4_states σ)).bind fun q1 =>
  ((f_X4_in x1 (0 : Int32) (q1 - (1 : Int32)))).bind fun q2 =>
  bz q2 <|
  some q2
def f_X4_players_b35 (s : Int32 × MS) : Option ((Int32 × MS) ⊕ ((MS))) :=
  if (100 : Int32) ≤ s.1 then
    some (.inr s.2)
  else
    gd s.1 100 <|
    some (.inl ((s.1 + (1 : Int32)), (mtwe s.2 s.1 (0 : Int32))))
def f_X4_players (σ : MS) (x1 : Int32) : Option (Int32 × MS) :=
  ((f_X4_in x1 (2 : Int32) (10 : Int32))).bind fun q1 =>
  if q1 = (0 : Int32) then
    some ((-2 : Int32), σ)
  else
    (itr (f_X4_players_b35) FU ((0 : Int32), (msnw (mshd (mspl σ x1) (0 : Int32)) (0 : Int32)))).bind fun e35 =>
    some ((mpl σ), e35)
def f_X4_arePair (σ : MS) (x1 x2 : Int32) : Option (Int32) :=
  ((f_X4_isOne σ x1)).bind fun q1 =>
  if q1 = (0 : Int32) then
    some (0 : Int32)
  else
    ((f_X4_isOne σ x2)).bind fun q2 =>
    if q2 = (0 : Int32) then
      some (0 : Int32)
    else
      if x1 = x2 then
        some (0 : Int32)
      else
        some (1 : Int32)
def f_X4_line (σ : MS) (x1 x2 x3 : Int32) : Option (Int32 × MS) :=
  ((f_X4_arePair σ x1 x2)).bind fun q1 =>
  if q1 = (0 : Int32) then
    some ((-1 : Int32), σ)
  else
    ((f_X4_in x3 (0 : Int32) (9 : Int32))).bind fun q2 =>
    if q2 = (0 : Int32) then
      some ((-2 : Int32), σ)
    else
      gd (((10 : Int32) * x1) + x2) 100 <|
      gd (((10 : Int32) * x1) + x2) 100 <|
      gd (((10 : Int32) * x2) + x1) 100 <|
      some ((mwe σ ((((10 : Int32) * x1) + x2) : Int32).toNatClampNeg), (mtwe (mtwe σ (((10 : Int32) * x1) + x2) x3) (((10 : Int32) * x2) + x1) x3))
def f_X4_weight (σ : MS) (x1 x2 : Int32) : Option (Int32) :=
  ((f_X4_arePair σ x1 x2)).bind fun q1 =>
  if q1 = (0 : Int32) then
    some (-1 : Int32)
  else
    gd (((10 : Int32) * x1) + x2) 100 <|
    some (mwe σ ((((10 : Int32) * x1) + x2) : Int32).toNatClampNeg)
def f_X4_pay (σ : MS) (x1 x2 x3 : Int32) : Option (Int32 × MS) :=
  ((f_X4_in x1 (0 : Int32) (1 : Int32))).bind fun q1 =>
  if q1 = (0 : Int32) then
    some ((-100002 : Int32), σ)
  else
    ((f_X4_in x2 (0 : Int32) (1 : Int32))).bind fun q2 =>
    if q2 = (0 : Int32) then
      some ((-100002 : Int32), σ)
    else
      ((f_X4_in x3 (-9 : Int32) (9 : Int32))).bind fun q3 =>
      if q3 = (0 : Int32) then
        some ((-100002 : Int32), σ)
      else
        gd (((2 : Int32) * x1) + x2) 4 <|
        gd (((2 : Int32) * x1) + x2) 4 <|
        some ((mpa σ ((((2 : Int32) * x1) + x2) : Int32).toNatClampNeg), (mtpa σ (((2 : Int32) * x1) + x2) x3))
def f_X4_bar (σ : MS) (x1 : Int32) : Option (Int32 × MS) :=
  ((f_X4_in x1 (0 : Int32) (100 : Int32))).bind fun q1 =>
  if q1 = (0 : Int32) then
    some ((-2 : Int32), σ)
  else
    some ((mbr σ), (msbr σ x1))
def f_X4_hold (σ : MS) (x1 x2 : Int32) : Option (Int32 × MS) :=
  ((f_X4_isOne σ x1)).bind fun q1 =>
  if q1 = (0 : Int32) then
    some ((-1 : Int32), σ)
  else
    if x2 = (0 : Int32) then
      some ((((mhd σ) >>> (x1 &&& 31)) &&& (1 : Int32)), (mshd σ ((mhd σ) &&& (((1 : Int32) <<< (x1 &&& 31)) ^^^ (-1 : Int32)))))
    else
      some ((((mhd σ) >>> (x1 &&& 31)) &&& (1 : Int32)), (mshd σ ((mhd σ) ||| ((1 : Int32) <<< (x1 &&& 31)))))
def f_X4_state (σ : MS) (x1 : Int32) : Option (Int32 × MS) :=
  ((f_X4_isState σ x1)).bind fun q1 =>
  if q1 = (0 : Int32) then
    some ((-2 : Int32), σ)
  else
    some ((mnw σ), (msnw σ x1))
def f_X4_wageOf_b6 (σ : MS) (x2 : Int32) (x3 : Int32) (x1 : Int32) (s : Int32 × Int32) : Option ((Int32 × Int32) ⊕ ((Int32))) :=
  if (mpl σ) ≤ s.2 then
    some (.inr s.1)
  else
    gd (((10 : Int32) * x2) + s.2) 100 <|
    gd (((2 : Int32) * x3) + ((x1 >>> (s.2 &&& 31)) &&& (1 : Int32))) 4 <|
    some (.inl ((s.1 + ((mwe σ ((((10 : Int32) * x2) + s.2) : Int32).toNatClampNeg) * (mpa σ ((((2 : Int32) * x3) + ((x1 >>> (s.2 &&& 31)) &&& (1 : Int32))) : Int32).toNatClampNeg))), (s.2 + (1 : Int32))))
def f_X4_wageOf (σ : MS) (x1 x2 x3 : Int32) : Option (Int32) :=
  (itr (f_X4_wageOf_b6 σ x2 x3 x1) FU ((0 : Int32), (0 : Int32))).bind fun e6 =>
  some e6
def f_X4_wage (σ : MS) (x1 x2 : Int32) : Option (Int32) :=
  ((f_X4_isOne σ x1)).bind fun q1 =>
  if q1 = (0 : Int32) then
    some (-100001 : Int32)
  else
    ((f_X4_in x2 (0 : Int32) (1 : Int32))).bind fun q2 =>
    if q2 = (0 : Int32) then
      some (-100002 : Int32)
    else
      if x2 = (0 : Int32) then
        ((f_X4_wageOf σ (mnw σ) x1 (((mnw σ) >>> (x1 &&& 31)) &&& (1 : Int32)))).bind fun q4 =>
        some q4
      else
        ((f_X4_wageOf σ (mnw σ) x1 ((1 : Int32) - (((mnw σ) >>> (x1 &&& 31)) &&& (1 : Int32))))).bind fun q3 =>
        some q3
def f_X4_sum_b4 (σ : MS) (s : Int32 × Int32) : Option ((Int32 × Int32) ⊕ ((Int32))) :=
  if (mpl σ) ≤ s.2 then
    some (.inr s.1)
  else
    ((f_X4_wageOf σ (mnw σ) s.2 (((mnw σ) >>> (s.2 &&& 31)) &&& (1 : Int32)))).bind fun q1 =>
    some (.inl ((s.1 + q1), (s.2 + (1 : Int32))))
def f_X4_sum (σ : MS) : Option (Int32) :=
  (itr (f_X4_sum_b4 σ) FU ((0 : Int32), (0 : Int32))).bind fun e4 =>
  some e4
def f_X4_gains (σ : MS) (x1 x2 : Int32) : Option (Int32) :=
  ((f_X4_wageOf σ x1 x2 ((1 : Int32) - ((x1 >>> (x2 &&& 31)) &&& (1 : Int32))))).bind fun q1 =>
  ((f_X4_wageOf σ x1 x2 ((x1 >>> (x2 &&& 31)) &&& (1 : Int32)))).bind fun q2 =>
  if q1 ≤ q2 then
    some (0 : Int32)
  else
    some (1 : Int32)
def f_X4_copied_b5 (σ : MS) (x2 : Int32) (x1 : Int32) (s : Int32 × Int32) : Option ((Int32 × Int32) ⊕ ((Int32))) :=
  if (mpl σ) ≤ s.2 then
    some (.inr s.1)
  else
    gd (((10 : Int32) * x2) + s.2) 100 <|
    if (mwe σ ((((10 : Int32) * x2) + s.2) : Int32).toNatClampNeg) ≤ (0 : Int32) then
      some (.inl (s.1, (s.2 + (1 : Int32))))
    else
      ((f_X4_wageOf σ x1 s.2 ((x1 >>> (s.2 &&& 31)) &&& (1 : Int32)))).bind fun q1 =>
      ((f_X4_wageOf σ x1 s.1 ((x1 >>> (s.1 &&& 31)) &&& (1 : Int32)))).bind fun q2 =>
      if q1 ≤ q2 then
        some (.inl (s.1, (s.2 + (1 : Int32))))
      else
        some (.inl (s.2, (s.2 + (1 : Int32))))
def f_X4_copied (σ : MS) (x1 x2 : Int32) : Option (Int32) :=
  (itr (f_X4_copied_b5 σ x2 x1) FU (x2, (0 : Int32))).bind fun e5 =>
  some ((x1 >>> (e5 &&& 31)) &&& (1 : Int32))
def f_X4_tipped_b8 (σ : MS) (x2 : Int32) (x1 : Int32) (s : Int32 × Int32 × Int32) : Option ((Int32 × Int32 × Int32) ⊕ ((Int32 × Int32))) :=
  if (mpl σ) ≤ s.2.2 then
    some (.inr (s.1, s.2.1))
  else
    gd (((10 : Int32) * x2) + s.2.2) 100 <|
    if ((x1 >>> (s.2.2 &&& 31)) &&& (1 : Int32)) = (1 : Int32) then
      gd (((10 : Int32) * x2) + s.2.2) 100 <|
      some (.inl ((s.1 + (mwe σ ((((10 : Int32) * x2) + s.2.2) : Int32).toNatClampNeg)), (s.2.1 + (mwe σ ((((10 : Int32) * x2) + s.2.2) : Int32).toNatClampNeg)), (s.2.2 + (1 : Int32))))
    else
      some (.inl ((s.1 + (mwe σ ((((10 : Int32) * x2) + s.2.2) : Int32).toNatClampNeg)), (s.2.1 + (0 : Int32)), (s.2.2 + (1 : Int32))))
def f_X4_tipped (σ : MS) (x1 x2 : Int32) : Option (Int32) :=
  (itr (f_X4_tipped_b8 σ x2 x1) FU ((0 : Int32), (0 : Int32), (0 : Int32))).bind fun e8 =>
  if e8.1 = (0 : Int32) then
    some ((x1 >>> (x2 &&& 31)) &&& (1 : Int32))
  else
    if ((100 : Int32) * e8.2) < ((mbr σ) * e8.1) then
      some (0 : Int32)
    else
      some (1 : Int32)
def f_X4_wayBehind (σ : MS) (x1 x2 x3 : Int32) : Option (Int32) :=
  if x1 = (1 : Int32) then
    ((f_X4_copied σ x2 x3)).bind fun q3 =>
    some q3
  else
    if x1 = (2 : Int32) then
      ((f_X4_tipped σ x2 x3)).bind fun q2 =>
      some q2
    else
      ((f_X4_gains σ x2 x3)).bind fun q1 =>
      if q1 = (0 : Int32) then
        some ((x2 >>> (x3 &&& 31)) &&& (1 : Int32))
      else
        some ((1 : Int32) - ((x2 >>> (x3 &&& 31)) &&& (1 : Int32)))
def f_X4_next_b6 (σ : MS) (x3 : Int32) (x1 : Int32) (x2 : Int32) (s : Int32 × Int32) : Option ((Int32 × Int32) ⊕ ((Int32))) :=
  if (mpl σ) ≤ s.2 then
    some (.inr s.1)
  else
    if ((x3 >>> (s.2 &&& 31)) &&& (1 : Int32)) = (0 : Int32) then
      if x1 = (3 : Int32) then
        ((f_X4_wayBehind σ x1 s.1 s.2)).bind fun q2 =>
        if q2 = (1 : Int32) then
          some (.inl ((s.1 ||| ((1 : Int32) <<< (s.2 &&& 31))), (s.2 + (1 : Int32))))
        else
          some (.inl ((s.1 &&& (((1 : Int32) <<< (s.2 &&& 31)) ^^^ (-1 : Int32))), (s.2 + (1 : Int32))))
      else
        ((f_X4_wayBehind σ x1 x2 s.2)).bind fun q1 =>
        if q1 = (1 : Int32) then
          some (.inl ((s.1 ||| ((1 : Int32) <<< (s.2 &&& 31))), (s.2 + (1 : Int32))))
        else
          some (.inl ((s.1 &&& (((1 : Int32) <<< (s.2 &&& 31)) ^^^ (-1 : Int32))), (s.2 + (1 : Int32))))
    else
      some (.inl (s.1, (s.2 + (1 : Int32))))
def f_X4_next (σ : MS) (x1 x2 x3 : Int32) : Option (Int32) :=
  (itr (f_X4_next_b6 σ x3 x1 x2) FU (x2, (0 : Int32))).bind fun e6 =>
  some e6
def f_X4_isRule (x0 : Int32) : Option (Int32) :=
  ((f_X4_in x0 (0 : Int32) (3 : Int32))).bind fun q1 =>
  bz q1 <|
  some q1
def f_X4_step_b22 (x2 : Int32) (x1 : Int32) (s : Int32 × MS) : Option ((Int32 × MS) ⊕ ((MS))) :=
  if x2 ≤ s.1 then
    some (.inr s.2)
  else
    ((f_X4_next s.2 x1 (mnw s.2) (mhd s.2))).bind fun q3 =>
    some (.inl ((s.1 + (1 : Int32)), (msnw s.2 q3)))
def f_X4_step (σ : MS) (x1 x2 : Int32) : Option (Int32 × MS) :=
  ((f_X4_isRule x1)).bind fun q1 =>
  if q1 = (0 : Int32) then
    some ((-2 : Int32), σ)
  else
    ((f_X4_in x2 (1 : Int32) (100 : Int32))).bind fun q2 =>
    if q2 = (0 : Int32) then
      some ((-2 : Int32), σ)
    else
      (itr (f_X4_step_b22 x2 x1) FU ((0 : Int32), σ)).bind fun e22 =>
      some ((mnw e22), e22)
def f_X4_after (σ : MS) (x1 x2 : Int32) : Option (Int32) :=
  ((f_X4_isRule x1)).bind fun q1 =>
  if q1 = (0 : Int32) then
    some (-2 : Int32)
  else
    ((f_X4_isState σ x2)).bind fun q2 =>
    if q2 = (0 : Int32) then
      some (-2 : Int32)
    else
      ((f_X4_next σ x1 x2 (mhd σ))).bind fun q3 =>
      some q3
def f_X4_isBeginning (σ : MS) (x1 : Int32) : Option (Int32) :=
  if ((x1 ^^^ (mnw σ)) &&& (mhd σ)) = (0 : Int32) then
    some (1 : Int32)
  else
    some (0 : Int32)
def f_X4_layBehind_b2 (x1 : Int32) (s : Int32 × MS) : Option ((Int32 × MS) ⊕ ((MS))) :=
  ((f_X4_states s.2)).bind fun q1 =>
  if q1 ≤ s.1 then
    some (.inr s.2)
  else
    ((f_X4_isBeginning s.2 s.1)).bind fun q2 =>
    if q2 = (0 : Int32) then
      gd s.1 1024 <|
      some (.inl ((s.1 + (1 : Int32)), (mtbe s.2 s.1 (-6 : Int32))))
    else
      ((f_X4_next s.2 x1 s.1 (mhd s.2))).bind fun q3 =>
      gd s.1 1024 <|
      some (.inl ((s.1 + (1 : Int32)), (mtbe s.2 s.1 q3)))
def f_X4_layBehind (σ : MS) (x1 : Int32) : Option (MS) :=
  (itr (f_X4_layBehind_b2 x1) FU ((0 : Int32), σ)).bind fun e2 =>
  some e2
def f_X4_inRing_b4 (σ : MS) (s : Int32 × Int32) : Option ((Int32 × Int32) ⊕ ((Int32))) :=
  ((f_X4_states σ)).bind fun q1 =>
  if q1 ≤ s.2 then
    some (.inr s.1)
  else
    gd s.1 1024 <|
    some (.inl ((mbe σ (s.1 : Int32).toNatClampNeg), (s.2 + (1 : Int32))))
def f_X4_inRing (σ : MS) (x1 : Int32) : Option (Int32) :=
  (itr (f_X4_inRing_b4 σ) FU (x1, (0 : Int32))).bind fun e4 =>
  some e4
def f_X4_ringOf_b9 (σ : MS) (x1 : Int32) (s : Int32 × Int32) : Option ((Int32 × Int32) ⊕ ((Int32))) :=
  if s.2 = x1 then
    some (.inr s.1)
  else
    gd s.2 1024 <|
    some (.inl ((s.1 + (1 : Int32)), (mbe σ (s.2 : Int32).toNatClampNeg)))
def f_X4_ringOf (σ : MS) (x1 : Int32) : Option (Int32) :=
  gd x1 1024 <|
  (itr (f_X4_ringOf_b9 σ x1) FU ((1 : Int32), (mbe σ (x1 : Int32).toNatClampNeg))).bind fun e9 =>
  some e9
def f_X4_leastOf_b9 (σ : MS) (x1 : Int32) (s : Int32 × Int32) : Option ((Int32 × Int32) ⊕ ((Int32))) :=
  if s.2 = x1 then
    some (.inr s.1)
  else
    if s.1 ≤ s.2 then
      gd s.2 1024 <|
      some (.inl (s.1, (mbe σ (s.2 : Int32).toNatClampNeg)))
    else
      gd s.2 1024 <|
      some (.inl (s.2, (mbe σ (s.2 : Int32).toNatClampNeg)))
def f_X4_leastOf (σ : MS) (x1 : Int32) : Option (Int32) :=
  gd x1 1024 <|
  (itr (f_X4_leastOf_b9 σ x1) FU (x1, (mbe σ (x1 : Int32).toNatClampNeg))).bind fun e9 =>
  some e9
def f_X4_isOn_b19 (σ : MS) (x2 : Int32) (x1 : Int32) (s : Int32 × Int32) : Option ((Int32 × Int32) ⊕ ((Int32))) :=
  if s.2 = x2 then
    some (.inr s.1)
  else
    if s.1 = (0 : Int32) then
      if s.2 = x1 then
        gd s.2 1024 <|
        some (.inl ((1 : Int32), (mbe σ (s.2 : Int32).toNatClampNeg)))
      else
        gd s.2 1024 <|
        some (.inl ((0 : Int32), (mbe σ (s.2 : Int32).toNatClampNeg)))
    else
      some (.inr s.1)
def f_X4_isOn_j10 (x2 : Int32) (σ : MS) (x1 : Int32) (j10_s0 : Int32) : Option (Int32) :=
  gd x2 1024 <|
  (itr (f_X4_isOn_b19 σ x2 x1) FU (j10_s0, (mbe σ (x2 : Int32).toNatClampNeg))).bind fun e19 =>
  bz e19 <|
  some e19
def f_X4_isOn (σ : MS) (x1 x2 : Int32) : Option (Int32) :=
  if x1 = x2 then
    f_X4_isOn_j10 x2 σ x1 (1 : Int32)
  else
    f_X4_isOn_j10 x2 σ x1 (0 : Int32)
def f_X4_goes_b42 (σ3 : MS) (r4 : Int32) (s : Int32 × Int32) : Option ((Int32 × Int32) ⊕ ((Int32 × Int32))) :=
  ((f_X4_isOn σ3 s.2 r4)).bind fun q5 =>
  if q5 = (0 : Int32) then
    gd s.2 1024 <|
    some (.inl ((s.1 + (1 : Int32)), (mbe σ3 (s.2 : Int32).toNatClampNeg)))
  else
    some (.inr (s.1, s.2))
def f_X4_goes (σ : MS) (x1 x2 : Int32) : Option (Int32 × MS) :=
  ((f_X4_isRule x1)).bind fun q1 =>
  if q1 = (0 : Int32) then
    some ((-2 : Int32), σ)
  else
    ((f_X4_in x2 (0 : Int32) (3 : Int32))).bind fun q2 =>
    if q2 = (0 : Int32) then
      some ((-2 : Int32), σ)
    else
      ((f_X4_layBehind σ x1)).bind fun q3 =>
      ((f_X4_inRing q3 (mnw q3))).bind fun q4 =>
      (itr (f_X4_goes_b42 q3 q4) FU ((0 : Int32), (mnw q3))).bind fun e42 =>
      if x2 = (0 : Int32) then
        some (e42.1, q3)
      else
        if x2 = (1 : Int32) then
          ((f_X4_ringOf q3 q4)).bind fun q8 =>
          some (q8, q3)
        else
          if x2 = (2 : Int32) then
            ((f_X4_leastOf q3 q4)).bind fun q7 =>
            some (q7, q3)
          else
            some (e42.2, q3)
def f_X4_layEnds_b7 (s : Int32 × MS) : Option ((Int32 × MS) ⊕ ((MS))) :=
  ((f_X4_states s.2)).bind fun q2 =>
  if q2 ≤ s.1 then
    some (.inr s.2)
  else
    gd s.1 1024 <|
    some (.inl ((s.1 + (1 : Int32)), (mten s.2 s.1 (-6 : Int32))))
def f_X4_layEnds_b92 (r6 : Int32) (r7 : Int32) (s : Int32 × MS) : Option ((Int32 × MS) ⊕ ((MS))) :=
  if s.1 = r6 then
    some (.inr s.2)
  else
    gd s.1 1024 <|
    gd s.1 1024 <|
    gd s.1 1024 <|
    some (.inl ((mbe (mtta (mten s.2 s.1 r7) s.1 (0 : Int32)) (s.1 : Int32).toNatClampNeg), (mtta (mten s.2 s.1 r7) s.1 (0 : Int32))))
def f_X4_layEnds_b31 (s : Int32 × MS) : Option ((Int32 × MS) ⊕ ((MS))) :=
  ((f_X4_states s.2)).bind fun q4 =>
  if q4 ≤ s.1 then
    some (.inr s.2)
  else
    ((f_X4_isBeginning s.2 s.1)).bind fun q5 =>
    if q5 = (0 : Int32) then
      some (.inl ((s.1 + (1 : Int32)), s.2))
    else
      ((f_X4_inRing s.2 s.1)).bind fun q6 =>
      gd q6 1024 <|
      if (0 : Int32) ≤ (men s.2 (q6 : Int32).toNatClampNeg) then
        some (.inl ((s.1 + (1 : Int32)), s.2))
      else
        ((f_X4_leastOf s.2 q6)).bind fun q7 =>
        gd q6 1024 <|
        gd q6 1024 <|
        gd q6 1024 <|
        (itr (f_X4_layEnds_b92 q6 q7) FU ((mbe (mtta (mten s.2 q6 q7) q6 (0 : Int32)) (q6 : Int32).toNatClampNeg), (mtta (mten s.2 q6 q7) q6 (0 : Int32)))).bind fun e92 =>
        some (.inl ((s.1 + (1 : Int32)), e92))
def f_X4_layEnds_b143 (s : Int32 × Int32 × MS) : Option ((Int32 × Int32 × MS) ⊕ ((Int32 × MS))) :=
  ((f_X4_states s.2.2)).bind fun q10 =>
  if q10 ≤ s.2.1 then
    some (.inr (s.1, s.2.2))
  else
    ((f_X4_isBeginning s.2.2 s.2.1)).bind fun q11 =>
    if q11 = (0 : Int32) then
      some (.inl (s.1, (s.2.1 + (1 : Int32)), s.2.2))
    else
      gd s.2.1 1024 <|
      if (0 : Int32) ≤ (men s.2.2 (s.2.1 : Int32).toNatClampNeg) then
        some (.inl (s.1, (s.2.1 + (1 : Int32)), s.2.2))
      else
        gd s.2.1 1024 <|
        gd (mbe s.2.2 (s.2.1 : Int32).toNatClampNeg) 1024 <|
        if (men s.2.2 ((mbe s.2.2 (s.2.1 : Int32).toNatClampNeg) : Int32).toNatClampNeg) < (0 : Int32) then
          some (.inl (s.1, (s.2.1 + (1 : Int32)), s.2.2))
        else
          gd s.2.1 1024 <|
          gd (mbe s.2.2 (s.2.1 : Int32).toNatClampNeg) 1024 <|
          gd s.2.1 1024 <|
          gd s.2.1 1024 <|
          gd (mbe (mten s.2.2 s.2.1 (men s.2.2 ((mbe s.2.2 (s.2.1 : Int32).toNatClampNeg) : Int32).toNatClampNeg)) (s.2.1 : Int32).toNatClampNeg) 1024 <|
          gd s.2.1 1024 <|
          some (.inl ((1 : Int32), (s.2.1 + (1 : Int32)), (mtta (mten s.2.2 s.2.1 (men s.2.2 ((mbe s.2.2 (s.2.1 : Int32).toNatClampNeg) : Int32).toNatClampNeg)) s.2.1 ((mta (mten s.2.2 s.2.1 (men s.2.2 ((mbe s.2.2 (s.2.1 : Int32).toNatClampNeg) : Int32).toNatClampNeg)) ((mbe (mten s.2.2 s.2.1 (men s.2.2 ((mbe s.2.2 (s.2.1 : Int32).toNatClampNeg) : Int32).toNatClampNeg)) (s.2.1 : Int32).toNatClampNeg) : Int32).toNatClampNeg) + (1 : Int32)))))
def f_X4_layEnds_b135 (s : Int32 × MS) : Option ((Int32 × MS) ⊕ ((MS))) :=
  if s.1 = (0 : Int32) then
    some (.inr s.2)
  else
    (itr (f_X4_layEnds_b143) FU ((0 : Int32), (0 : Int32), s.2)).bind fun e143 =>
    some (.inl (e143.1, e143.2))
def f_X4_layEnds (σ : MS) (x1 : Int32) : Option (MS) :=
  ((f_X4_layBehind σ x1)).bind fun q1 =>
  (itr (f_X4_layEnds_b7) FU ((0 : Int32), q1)).bind fun e7 =>
  (itr (f_X4_layEnds_b31) FU ((0 : Int32), e7)).bind fun e31 =>
  (itr (f_X4_layEnds_b135) FU ((1 : Int32), e31)).bind fun e135 =>
  some e135
def f_X4_endAt_b4 (σ : MS) (x1 : Int32) (s : Int32 × Int32) : Option ((Int32 × Int32) ⊕ ((Int32) ⊕ (Int32))) :=
  ((f_X4_states σ)).bind fun q1 =>
  if q1 ≤ s.2 then
    some (.inr (.inr s.1))
  else
    gd s.2 1024 <|
    if (men σ (s.2 : Int32).toNatClampNeg) = s.2 then
      if s.1 = x1 then
        some (.inr (.inl s.2))
      else
        some (.inl ((s.1 + (1 : Int32)), (s.2 + (1 : Int32))))
    else
      some (.inl (s.1, (s.2 + (1 : Int32))))
def f_X4_endAt (σ : MS) (x1 : Int32) : Option (Int32) :=
  (itr (f_X4_endAt_b4 σ x1) FU ((0 : Int32), (0 : Int32))).bind fun e4 => match e4 with
  | .inl e4_0 =>
    some e4_0
  | .inr e4_1 =>
    if x1 = (-1 : Int32) then
      some e4_1
    else
      some (-6 : Int32)
def f_X4_end (σ : MS) (x1 x2 : Int32) : Option (Int32 × MS) :=
  ((f_X4_isRule x1)).bind fun q1 =>
  if q1 = (0 : Int32) then
    some ((-2 : Int32), σ)
  else
    ((f_X4_layEnds σ x1)).bind fun q2 =>
    ((f_X4_endAt q2 x2)).bind fun q3 =>
    some (q3, q2)
def f_X4_basin_b57 (σj38 : MS) (j38_s0 : Int32) (s : Int32 × Int32 × Int32) : Option ((Int32 × Int32 × Int32) ⊕ ((Int32 × Int32))) :=
  ((f_X4_states σj38)).bind fun q5 =>
  if q5 ≤ s.2.2 then
    some (.inr (s.1, s.2.1))
  else
    gd s.2.2 1024 <|
    if (men σj38 (s.2.2 : Int32).toNatClampNeg) = j38_s0 then
      gd s.2.2 1024 <|
      if (mta σj38 (s.2.2 : Int32).toNatClampNeg) ≤ s.2.1 then
        some (.inl ((s.1 + (1 : Int32)), s.2.1, (s.2.2 + (1 : Int32))))
      else
        gd s.2.2 1024 <|
        some (.inl ((s.1 + (1 : Int32)), (mta σj38 (s.2.2 : Int32).toNatClampNeg), (s.2.2 + (1 : Int32))))
    else
      some (.inl (s.1, s.2.1, (s.2.2 + (1 : Int32))))
def f_X4_basin_j38 (x3 : Int32) (j38_s0 : Int32) (σj38 : MS) : Option (Int32 × MS) :=
  if (0 : Int32) ≤ j38_s0 then
    (itr (f_X4_basin_b57 σj38 j38_s0) FU ((0 : Int32), (0 : Int32), (0 : Int32))).bind fun e57 =>
    if x3 = (0 : Int32) then
      some (e57.1, σj38)
    else
      if x3 = (1 : Int32) then
        ((f_X4_ringOf σj38 j38_s0)).bind fun q7 =>
        some (q7, σj38)
      else
        some (e57.2, σj38)
  else
    some ((-6 : Int32), σj38)
def f_X4_basin (σ : MS) (x1 x2 x3 : Int32) : Option (Int32 × MS) :=
  ((f_X4_isRule x1)).bind fun q1 =>
  if q1 = (0 : Int32) then
    some ((-2 : Int32), σ)
  else
    ((f_X4_in x3 (0 : Int32) (2 : Int32))).bind fun q2 =>
    if q2 = (0 : Int32) then
      some ((-2 : Int32), σ)
    else
      ((f_X4_layEnds σ x1)).bind fun q3 =>
      if (0 : Int32) ≤ x2 then
        ((f_X4_endAt q3 x2)).bind fun q4 =>
        f_X4_basin_j38 x3 q4 q3
      else
        f_X4_basin_j38 x3 (-6 : Int32) q3
def f_X4_lone_b17 (s : Int32 × MS) : Option ((Int32 × MS) ⊕ ((MS))) :=
  ((f_X4_states s.2)).bind fun q3 =>
  if q3 ≤ s.1 then
    some (.inr s.2)
  else
    gd s.1 1024 <|
    some (.inl ((s.1 + (1 : Int32)), (mten s.2 s.1 (0 : Int32))))
def f_X4_lone_b40 (s : Int32 × MS) : Option ((Int32 × MS) ⊕ ((MS))) :=
  ((f_X4_states s.2)).bind fun q5 =>
  if q5 ≤ s.1 then
    some (.inr s.2)
  else
    ((f_X4_isBeginning s.2 s.1)).bind fun q6 =>
    if q6 = (0 : Int32) then
      some (.inl ((s.1 + (1 : Int32)), s.2))
    else
      gd s.1 1024 <|
      gd (mbe s.2 (s.1 : Int32).toNatClampNeg) 1024 <|
      some (.inl ((s.1 + (1 : Int32)), (mten s.2 (mbe s.2 (s.1 : Int32).toNatClampNeg) (1 : Int32))))
def f_X4_lone_b78 (σz40_0 : MS) (s : Int32 × Int32) : Option ((Int32 × Int32) ⊕ ((Int32))) :=
  ((f_X4_states σz40_0)).bind fun q8 =>
  if q8 ≤ s.2 then
    some (.inr s.1)
  else
    ((f_X4_isBeginning σz40_0 s.2)).bind fun q9 =>
    if q9 = (0 : Int32) then
      some (.inl ((s.1 + (0 : Int32)), (s.2 + (1 : Int32))))
    else
      gd s.2 1024 <|
      if (men σz40_0 (s.2 : Int32).toNatClampNeg) = (0 : Int32) then
        some (.inl ((s.1 + (1 : Int32)), (s.2 + (1 : Int32))))
      else
        some (.inl ((s.1 + (0 : Int32)), (s.2 + (1 : Int32))))
def f_X4_lone (σ : MS) (x1 : Int32) : Option (Int32 × MS) :=
  ((f_X4_isRule x1)).bind fun q1 =>
  if q1 = (0 : Int32) then
    some ((-2 : Int32), σ)
  else
    ((f_X4_layBehind σ x1)).bind fun q2 =>
    (itr (f_X4_lone_b17) FU ((0 : Int32), q2)).bind fun e17 =>
    (itr (f_X4_lone_b40) FU ((0 : Int32), e17)).bind fun e40 =>
    (itr (f_X4_lone_b78 e40) FU ((0 : Int32), (0 : Int32))).bind fun e78 =>
    some (e78, e40)
def f_X4_before_b15 (σ : MS) (x1 : Int32) (x2 : Int32) (s : Int32 × Int32) : Option ((Int32 × Int32) ⊕ ((Int32) ⊕ (Int32))) :=
  ((f_X4_states σ)).bind fun q2 =>
  if q2 ≤ s.2 then
    some (.inr (.inr s.1))
  else
    ((f_X4_isBeginning σ s.2)).bind fun q3 =>
    if q3 = (0 : Int32) then
      some (.inl (s.1, (s.2 + (1 : Int32))))
    else
      ((f_X4_next σ x1 s.2 (mhd σ))).bind fun q4 =>
      if q4 = (mnw σ) then
        if s.1 = x2 then
          some (.inr (.inl s.2))
        else
          some (.inl ((s.1 + (1 : Int32)), (s.2 + (1 : Int32))))
      else
        some (.inl (s.1, (s.2 + (1 : Int32))))
def f_X4_before (σ : MS) (x1 x2 : Int32) : Option (Int32) :=
  ((f_X4_isRule x1)).bind fun q1 =>
  if q1 = (0 : Int32) then
    some (-2 : Int32)
  else
    (itr (f_X4_before_b15 σ x1 x2) FU ((0 : Int32), (0 : Int32))).bind fun e15 => match e15 with
    | .inl e15_0 =>
      some e15_0
    | .inr e15_1 =>
      if x2 = (-1 : Int32) then
        some e15_1
      else
        some (-6 : Int32)
def f_X4_riseOf_b17 (σ : MS) (y4_3 : Int32) (x1 : Int32) (s : Int32 × Int32) : Option ((Int32 × Int32) ⊕ ((Int32))) :=
  if (mpl σ) ≤ s.2 then
    some (.inr s.1)
  else
    gd (((10 : Int32) * y4_3) + s.2) 100 <|
    if (((x1 >>> (y4_3 &&& 31)) &&& (1 : Int32)) + ((x1 >>> (s.2 &&& 31)) &&& (1 : Int32))) = (0 : Int32) then
      gd (0 : Int32) 4 <|
      gd (2 : Int32) 4 <|
      some (.inl ((s.1 + ((mwe σ ((((10 : Int32) * y4_3) + s.2) : Int32).toNatClampNeg) * ((mpa σ ((0 : Int32) : Int32).toNatClampNeg) - (mpa σ ((2 : Int32) : Int32).toNatClampNeg)))), (s.2 + (1 : Int32))))
    else
      if (((x1 >>> (y4_3 &&& 31)) &&& (1 : Int32)) + ((x1 >>> (s.2 &&& 31)) &&& (1 : Int32))) = (2 : Int32) then
        gd (3 : Int32) 4 <|
        gd (1 : Int32) 4 <|
        some (.inl ((s.1 + ((mwe σ ((((10 : Int32) * y4_3) + s.2) : Int32).toNatClampNeg) * ((mpa σ ((3 : Int32) : Int32).toNatClampNeg) - (mpa σ ((1 : Int32) : Int32).toNatClampNeg)))), (s.2 + (1 : Int32))))
      else
        some (.inl ((s.1 + ((mwe σ ((((10 : Int32) * y4_3) + s.2) : Int32).toNatClampNeg) * (0 : Int32))), (s.2 + (1 : Int32))))
def f_X4_riseOf_b4 (σ : MS) (x1 : Int32) (s : Int32 × Int32) : Option ((Int32 × Int32) ⊕ ((Int32))) :=
  if (mpl σ) ≤ s.2 then
    some (.inr s.1)
  else
    (itr (f_X4_riseOf_b17 σ s.2 x1) FU (s.1, (s.2 + (1 : Int32)))).bind fun e17 =>
    some (.inl (e17, (s.2 + (1 : Int32))))
def f_X4_riseOf (σ : MS) (x1 : Int32) : Option (Int32) :=
  (itr (f_X4_riseOf_b4 σ x1) FU ((0 : Int32), (0 : Int32))).bind fun e4 =>
  some e4
def f_X4_rise (σ : MS) : Option (Int32) :=
  ((f_X4_riseOf σ (mnw σ))).bind fun q1 =>
  some q1
def f_X4_highest_b5 (σ : MS) (s : Int32 × Int32) : Option ((Int32 × Int32) ⊕ ((Int32))) :=
  ((f_X4_states σ)).bind fun q1 =>
  if q1 ≤ s.2 then
    some (.inr s.1)
  else
    ((f_X4_isBeginning σ s.2)).bind fun q2 =>
    if q2 = (0 : Int32) then
      some (.inl (s.1, (s.2 + (1 : Int32))))
    else
      if s.1 < (0 : Int32) then
        some (.inl (s.2, (s.2 + (1 : Int32))))
      else
        ((f_X4_riseOf σ s.2)).bind fun q3 =>
        ((f_X4_riseOf σ s.1)).bind fun q4 =>
        if q3 ≤ q4 then
          some (.inl (s.1, (s.2 + (1 : Int32))))
        else
          some (.inl (s.2, (s.2 + (1 : Int32))))
def f_X4_highest (σ : MS) : Option (Int32) :=
  (itr (f_X4_highest_b5 σ) FU ((-6 : Int32), (0 : Int32))).bind fun e5 =>
  some e5
def f_X4_restsIn_b4 (σ : MS) (x1 : Int32) (s : Int32 × Int32) : Option ((Int32 × Int32) ⊕ ((Int32))) :=
  if (mpl σ) ≤ s.2 then
    some (.inr s.1)
  else
    if s.1 = (0 : Int32) then
      some (.inl ((0 : Int32), (s.2 + (1 : Int32))))
    else
      if (((mhd σ) >>> (s.2 &&& 31)) &&& (1 : Int32)) = (1 : Int32) then
        some (.inl ((1 : Int32), (s.2 + (1 : Int32))))
      else
        ((f_X4_gains σ x1 s.2)).bind fun q1 =>
        if q1 = (0 : Int32) then
          some (.inl ((1 : Int32), (s.2 + (1 : Int32))))
        else
          some (.inl ((0 : Int32), (s.2 + (1 : Int32))))
def f_X4_restsIn (σ : MS) (x1 : Int32) : Option (Int32) :=
  (itr (f_X4_restsIn_b4 σ x1) FU ((1 : Int32), (0 : Int32))).bind fun e4 =>
  bz e4 <|
  some e4
def f_X4_rests (σ : MS) : Option (Int32) :=
  ((f_X4_restsIn σ (mnw σ))).bind fun q1 =>
  if q1 = (0 : Int32) then
    some (0 : Int32)
  else
    some (1 : Int32)
def f_X4_restMany_b4 (σ : MS) (s : Int32 × Int32) : Option ((Int32 × Int32) ⊕ ((Int32))) :=
  ((f_X4_states σ)).bind fun q1 =>
  if q1 ≤ s.2 then
    some (.inr s.1)
  else
    ((f_X4_isBeginning σ s.2)).bind fun q2 =>
    if q2 = (0 : Int32) then
      some (.inl ((s.1 + (0 : Int32)), (s.2 + (1 : Int32))))
    else
      ((f_X4_restsIn σ s.2)).bind fun q3 =>
      if q3 = (0 : Int32) then
        some (.inl ((s.1 + (0 : Int32)), (s.2 + (1 : Int32))))
      else
        some (.inl ((s.1 + (1 : Int32)), (s.2 + (1 : Int32))))
def f_X4_restMany (σ : MS) : Option (Int32) :=
  (itr (f_X4_restMany_b4 σ) FU ((0 : Int32), (0 : Int32))).bind fun e4 =>
  some e4
def f_X4_bits_b4 (σ : MS) (x1 : Int32) (s : Int32 × Int32) : Option ((Int32 × Int32) ⊕ ((Int32))) :=
  if (mpl σ) ≤ s.2 then
    some (.inr s.1)
  else
    some (.inl ((s.1 + ((x1 >>> (s.2 &&& 31)) &&& (1 : Int32))), (s.2 + (1 : Int32))))
def f_X4_bits (σ : MS) (x1 : Int32) : Option (Int32) :=
  (itr (f_X4_bits_b4 σ x1) FU ((0 : Int32), (0 : Int32))).bind fun e4 =>
  some e4
def f_X4_tips_b16 (σ : MS) (r1 : Int32) (x1 : Int32) (x2 : Int32) (s : Int32 × Int32 × Int32) : Option ((Int32 × Int32 × Int32) ⊕ ((Int32))) :=
  if (1024 : Int32) ≤ s.2.2 then
    some (.inr s.1)
  else
    if s.1 = (r1 - (1 : Int32)) then
      some (.inr s.1)
    else
      if s.1 = s.2.1 then
        some (.inr s.1)
      else
        if (s.2.2 &&& (s.2.2 - (1 : Int32))) = (0 : Int32) then
          ((f_X4_next σ x1 s.1 x2)).bind fun q3 =>
          some (.inl (q3, s.1, (s.2.2 + (1 : Int32))))
        else
          ((f_X4_next σ x1 s.1 x2)).bind fun q2 =>
          some (.inl (q2, s.2.1, (s.2.2 + (1 : Int32))))
def f_X4_tips (σ : MS) (x1 x2 : Int32) : Option (Int32) :=
  ((f_X4_states σ)).bind fun q1 =>
  (itr (f_X4_tips_b16 σ q1 x1 x2) FU (x2, (-1 : Int32), (0 : Int32))).bind fun e16 =>
  if e16 = (q1 - (1 : Int32)) then
    some (1 : Int32)
  else
    some (0 : Int32)
def f_X4_tip_b22 (σ : MS) (y12_2 : Int32) (x1 : Int32) (s : Int32) : Option ((Int32) ⊕ ((Int32) ⊕ Unit)) :=
  ((f_X4_states σ)).bind fun q2 =>
  if q2 ≤ s then
    some (.inr (.inr ()))
  else
    ((f_X4_bits σ s)).bind fun q3 =>
    if q3 = y12_2 then
      ((f_X4_tips σ x1 s)).bind fun q4 =>
      if q4 = (0 : Int32) then
        some (.inl (s + (1 : Int32)))
      else
        some (.inr (.inl s))
    else
      some (.inl (s + (1 : Int32)))
def f_X4_tip_b12 (σ : MS) (x1 : Int32) (s : Int32) : Option ((Int32) ⊕ ((Int32) ⊕ Unit)) :=
  if (mpl σ) < s then
    some (.inr (.inr ()))
  else
    (itr (f_X4_tip_b22 σ s x1) FU (0 : Int32)).bind fun e22 => match e22 with
    | .inl e22_0 =>
      some (.inr (.inl e22_0))
    | .inr e22_1 =>
      some (.inl (s + (1 : Int32)))
def f_X4_tip (σ : MS) (x1 : Int32) : Option (Int32) :=
  ((f_X4_isRule x1)).bind fun q1 =>
  if q1 = (0 : Int32) then
    some (-2 : Int32)
  else
    (itr (f_X4_tip_b12 σ x1) FU (0 : Int32)).bind fun e12 => match e12 with
    | .inl e12_0 =>
      some e12_0
    | .inr e12_1 =>
      some (-6 : Int32)
def f_X4_common_b4 (s : Int32 × Int32) : Option ((Int32 × Int32) ⊕ ((Int32))) :=
  if s.2 = (0 : Int32) then
    some (.inr s.1)
  else
    gz s.2 <|
    some (.inl (s.2, (s.1 - s.1 / s.2 * s.2)))
def f_X4_common (x0 x1 : Int32) : Option (Int32) :=
  (itr (f_X4_common_b4) FU (x0, x1)).bind fun e4 =>
  some e4
def f_X4_share (σ : MS) (x1 : Int32) : Option (Int32) :=
  ((f_X4_in x1 (0 : Int32) (1 : Int32))).bind fun q1 =>
  if q1 = (0 : Int32) then
    some (-2 : Int32)
  else
    gd (0 : Int32) 4 <|
    gd (2 : Int32) 4 <|
    gd (3 : Int32) 4 <|
    gd (1 : Int32) 4 <|
    if ((((mpa σ ((0 : Int32) : Int32).toNatClampNeg) - (mpa σ ((2 : Int32) : Int32).toNatClampNeg)) + (mpa σ ((3 : Int32) : Int32).toNatClampNeg)) - (mpa σ ((1 : Int32) : Int32).toNatClampNeg)) ≤ (0 : Int32) then
      some (-3 : Int32)
    else
      ((f_X4_in ((mpa σ ((0 : Int32) : Int32).toNatClampNeg) - (mpa σ ((2 : Int32) : Int32).toNatClampNeg)) (0 : Int32) ((((mpa σ ((0 : Int32) : Int32).toNatClampNeg) - (mpa σ ((2 : Int32) : Int32).toNatClampNeg)) + (mpa σ ((3 : Int32) : Int32).toNatClampNeg)) - (mpa σ ((1 : Int32) : Int32).toNatClampNeg)))).bind fun q2 =>
      if q2 = (0 : Int32) then
        some (-3 : Int32)
      else
        if x1 = (0 : Int32) then
          ((f_X4_common ((mpa σ ((0 : Int32) : Int32).toNatClampNeg) - (mpa σ ((2 : Int32) : Int32).toNatClampNeg)) ((((mpa σ ((0 : Int32) : Int32).toNatClampNeg) - (mpa σ ((2 : Int32) : Int32).toNatClampNeg)) + (mpa σ ((3 : Int32) : Int32).toNatClampNeg)) - (mpa σ ((1 : Int32) : Int32).toNatClampNeg)))).bind fun q4 =>
          gz q4 <|
          some (((mpa σ ((0 : Int32) : Int32).toNatClampNeg) - (mpa σ ((2 : Int32) : Int32).toNatClampNeg)) / q4)
        else
          ((f_X4_common ((mpa σ ((0 : Int32) : Int32).toNatClampNeg) - (mpa σ ((2 : Int32) : Int32).toNatClampNeg)) ((((mpa σ ((0 : Int32) : Int32).toNatClampNeg) - (mpa σ ((2 : Int32) : Int32).toNatClampNeg)) + (mpa σ ((3 : Int32) : Int32).toNatClampNeg)) - (mpa σ ((1 : Int32) : Int32).toNatClampNeg)))).bind fun q3 =>
          gz q3 <|
          some (((((mpa σ ((0 : Int32) : Int32).toNatClampNeg) - (mpa σ ((2 : Int32) : Int32).toNatClampNeg)) + (mpa σ ((3 : Int32) : Int32).toNatClampNeg)) - (mpa σ ((1 : Int32) : Int32).toNatClampNeg)) / q3)
def f_X4_hangs_b40 (σ : MS) (y23_3 : Int32) (x1 : Int32) (s : Int32 × Int32 × Int32) : Option ((Int32 × Int32 × Int32) ⊕ ((Int32 × Int32))) :=
  if (mpl σ) ≤ s.2.2 then
    some (.inr (s.1, s.2.1))
  else
    gd (((10 : Int32) * y23_3) + s.2.2) 100 <|
    if ((x1 >>> (s.2.2 &&& 31)) &&& (1 : Int32)) = (1 : Int32) then
      gd (((10 : Int32) * y23_3) + s.2.2) 100 <|
      some (.inl ((s.1 + (mwe σ ((((10 : Int32) * y23_3) + s.2.2) : Int32).toNatClampNeg)), (s.2.1 + (mwe σ ((((10 : Int32) * y23_3) + s.2.2) : Int32).toNatClampNeg)), (s.2.2 + (1 : Int32))))
    else
      some (.inl ((s.1 + (mwe σ ((((10 : Int32) * y23_3) + s.2.2) : Int32).toNatClampNeg)), (s.2.1 + (0 : Int32)), (s.2.2 + (1 : Int32))))
def f_X4_hangs_b23 (σ : MS) (x1 : Int32) (x2 : Int32) (s : Int32) : Option ((Int32) ⊕ (Unit ⊕ Unit)) :=
  if (mpl σ) ≤ s then
    some (.inr (.inr ()))
  else
    (itr (f_X4_hangs_b40 σ s x1) FU ((0 : Int32), (0 : Int32), (0 : Int32))).bind fun e40 =>
    if ((x1 >>> (s &&& 31)) &&& (1 : Int32)) = (1 : Int32) then
      if e40.1 ≤ (0 : Int32) then
        some (.inl (s + (1 : Int32)))
      else
        if (x2 * e40.1) ≤ ((100 : Int32) * e40.2) then
          some (.inl (s + (1 : Int32)))
        else
          some (.inr (.inl ()))
    else
      some (.inl (s + (1 : Int32)))
def f_X4_hangs (σ : MS) (x1 x2 : Int32) : Option (Int32) :=
  ((f_X4_isState σ x1)).bind fun q1 =>
  if q1 = (0 : Int32) then
    some (-2 : Int32)
  else
    ((f_X4_in x2 (1 : Int32) (100 : Int32))).bind fun q2 =>
    if q2 = (0 : Int32) then
      some (-2 : Int32)
    else
      (itr (f_X4_hangs_b23 σ x1 x2) FU (0 : Int32)).bind fun e23 => match e23 with
      | .inl e23_0 =>
        some (0 : Int32)
      | .inr e23_1 =>
        some (1 : Int32)
def f_X4_lines_b14 (σ : MS) (y4_2 : Int32) (s : Int32 × Int32) : Option ((Int32 × Int32) ⊕ ((Int32))) :=
  if y4_2 ≤ s.2 then
    some (.inr s.1)
  else
    gd (((10 : Int32) * y4_2) + s.2) 100 <|
    if (mwe σ ((((10 : Int32) * y4_2) + s.2) : Int32).toNatClampNeg) ≤ (0 : Int32) then
      some (.inl ((s.1 + (0 : Int32)), (s.2 + (1 : Int32))))
    else
      some (.inl ((s.1 + (1 : Int32)), (s.2 + (1 : Int32))))
def f_X4_lines_b4 (σ : MS) (s : Int32 × Int32) : Option ((Int32 × Int32) ⊕ ((Int32))) :=
  if (mpl σ) ≤ s.2 then
    some (.inr s.1)
  else
    (itr (f_X4_lines_b14 σ s.2) FU (s.1, (0 : Int32))).bind fun e14 =>
    some (.inl (e14, (s.2 + (1 : Int32))))
def f_X4_lines (σ : MS) : Option (Int32) :=
  (itr (f_X4_lines_b4 σ) FU ((0 : Int32), (0 : Int32))).bind fun e4 =>
  some e4
def f_X4_told (σ : MS) (x1 : Int32) : Option (Int32) :=
  if x1 = (0 : Int32) then
    some (mpl σ)
  else
    if x1 = (1 : Int32) then
      ((f_X4_lines σ)).bind fun q1 =>
      some q1
    else
      if x1 = (2 : Int32) then
        some (mhd σ)
      else
        if x1 = (3 : Int32) then
          some (mnw σ)
        else
          if x1 = (4 : Int32) then
            some (mbr σ)
          else
            ((f_X4_in x1 (10 : Int32) (13 : Int32))).bind fun q2 =>
            if q2 = (0 : Int32) then
              some (-100002 : Int32)
            else
              gd (x1 - (10 : Int32)) 4 <|
              some (mpa σ ((x1 - (10 : Int32)) : Int32).toNatClampNeg)
