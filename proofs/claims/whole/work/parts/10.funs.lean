/-! LeanCity$Tape.byteAt (I)I -/
noncomputable def f_X10_byteAt (x1 : Int32) (h : Hp) : Option Int32 :=
  if x1 < 0 then
    some (-1)
  else
    if x1 < 400 then
      gd (ix x1 400) (
      some (h 3 x1.toNatClampNeg))
    else
      some (-1)
/-! LeanCity$Breaks.tell (LLeanCity$Tape;I)V -/
noncomputable def S_X0_tell_7 (x2 : Int32) (q_7 : Int32 → Hp → Option Hp) (x3 : Int32) (h : Hp) : Option Hp :=
  if x3 < x2 then
    if x3 < 40 then
      Option.bind (f_X10_byteAt x3 h) fun r_3 =>
      gd (ix x3 40) (
      bnd (up1 h 26 x3.toNatClampNeg r_3) fun h_6 =>
      bnd (up1 h_6 23 4 ((h_6 23 4) + 1)) fun h_8 =>
      q_7 (x3 + 1) h_8)
    else
      some h
  else
    some h
noncomputable def F_X0_tell_7 (x2 : Int32) (n : Nat) : Int32 → Hp → Option Hp :=
  Nat.rec (motive := fun _ => Int32 → Hp → Option Hp) (fun _ _ => none) (fun _ q => S_X0_tell_7 x2 q) n
noncomputable def f_X0_tell (x2 : Int32) (h : Hp) : Option Hp :=
  bnd (up1 h 23 4 0) fun h_1 =>
  F_X0_tell_7 x2 FU 0 h_1
/-! LeanCity$City.isHouse (I)Z -/
noncomputable def f_X1_isHouse (k0 : Nat) (x1 : Int32) (h : Hp) : Bool :=
  if x1 < 0 then
    false
  else
    if x1 < (h k0 9) then
      if x1 < 8 then
        true
      else
        false
    else
      false
/-! LeanCity$City.partOf (II)I -/
noncomputable def f_X1_partOf (k0 : Nat) (x1 : Int32) (x2 : Int32) (h : Hp) : Option Int32 :=
  if (f_X1_isHouse k0 x1 h) then
    if (f_X1_isHouse k0 x2 h) then
      gd (ix ((x1 * 8) + x2) 64) (
      some (h (k0 + 5) (((x1 * 8) + x2).toNatClampNeg)))
    else
      some 0
  else
    some 0
/-! LeanCity$Log.copyFrom (LLeanCity$Log;)V -/
noncomputable def f_X6_copyFrom (k0 : Nat) (k1 : Nat) (h : Hp) : Option Hp :=
  bnd (up1 h k0 1 (h k1 1)) fun h_1 =>
  bnd (upA h_1 (k0 + 1) (va_cpy (h_1 (k1 + 1)) (h_1 (k0 + 1)) 0 0 360)) fun h_3 =>
  some h_3
/-! LeanCity$City.copyFrom (LLeanCity$City;)V -/
noncomputable def f_X1_copyFrom (k0 : Nat) (k1 : Nat) (h : Hp) : Option Hp :=
  bnd (upA h (k0 + 1) (va_cpy (h (k1 + 1)) (h (k0 + 1)) 0 0 8)) fun h_1 =>
  bnd (upA h_1 (k0 + 2) (va_cpy (h_1 (k1 + 2)) (h_1 (k0 + 2)) 0 0 8)) fun h_3 =>
  bnd (upA h_3 (k0 + 3) (va_cpy (h_3 (k1 + 3)) (h_3 (k0 + 3)) 0 0 8)) fun h_5 =>
  bnd (upA h_5 (k0 + 4) (va_cpy (h_5 (k1 + 4)) (h_5 (k0 + 4)) 0 0 8)) fun h_7 =>
  bnd (upA h_7 (k0 + 5) (va_cpy (h_7 (k1 + 5)) (h_7 (k0 + 5)) 0 0 64)) fun h_9 =>
  bnd (upA h_9 (k0 + 6) (va_cpy (h_9 (k1 + 6)) (h_9 (k0 + 6)) 0 0 6)) fun h_11 =>
  bnd (upA h_11 (k0 + 7) (va_cpy (h_11 (k1 + 7)) (h_11 (k0 + 7)) 0 0 6)) fun h_13 =>
  bnd (upA h_13 (k0 + 8) (va_cpy (h_13 (k1 + 8)) (h_13 (k0 + 8)) 0 0 6)) fun h_15 =>
  Option.bind (f_X6_copyFrom (k0 + 9) (k1 + 9) h_15) fun r_17 =>
  bnd (up1 r_17 k0 9 (r_17 k1 9)) fun h_19 =>
  bnd (up1 h_19 k0 10 (h_19 k1 10)) fun h_21 =>
  bnd (up1 h_21 k0 11 (h_21 k1 11)) fun h_23 =>
  bnd (up1 h_23 k0 12 (h_23 k1 12)) fun h_25 =>
  bnd (up1 h_25 k0 13 (h_25 k1 13)) fun h_27 =>
  bnd (up1 h_27 k0 14 (h_27 k1 14)) fun h_29 =>
  bnd (up1 h_29 k0 15 (h_29 k1 15)) fun h_31 =>
  bnd (up1 h_31 k0 16 (h_31 k1 16)) fun h_33 =>
  bnd (up1 h_33 k0 17 (h_33 k1 17)) fun h_35 =>
  some h_35
/-! LeanCity$City.setPart (III)V -/
noncomputable def f_X1_setPart (k0 : Nat) (x1 : Int32) (x2 : Int32) (x3 : Int32) (h : Hp) : Option Hp :=
  if (f_X1_isHouse k0 x1 h) then
    if (f_X1_isHouse k0 x2 h) then
      gd (ix ((x1 * 8) + x2) 64) (
      bnd (up1 h (k0 + 5) (((x1 * 8) + x2).toNatClampNeg) x3) fun h_4 =>
      some h_4)
    else
      some h
  else
    some h
/-! LeanCity$Strain.countParts (LLeanCity$City;)V -/
noncomputable def F_X9_countParts_62 (q_7 : Int32 → Hp → Option Hp) (q_18 : Int32 → Int32 → Hp → Option Hp) (k1 : Nat) (x2 : Int32) (x3 : Int32) (x4 : Int32) (t0 : Int32) (t1 : Int32) (h : Hp) : Option Hp :=
  bnd (up1 h 5 9 (t1 ||| t0)) fun h_1 =>
  q_18 x3 (x4 + 1) h_1
noncomputable def S_X9_countParts_18 (q_7 : Int32 → Hp → Option Hp) (k1 : Nat) (x2 : Int32) (q_18 : Int32 → Int32 → Hp → Option Hp) (x3 : Int32) (x4 : Int32) (h : Hp) : Option Hp :=
  if x4 < 8 then
    gd (ix ((x2 * 8) + x4) 64) (
    bnd (h (k1 + 5) (((x2 * 8) + x4).toNatClampNeg)) fun x5_3 =>
    bnd (x3 + x5_3) fun x3_5 =>
    if 0 < x5_3 then
      F_X9_countParts_62 q_7 q_18 k1 x2 x3_5 x4 (shl 1 x4) (h 5 9) h
    else
      F_X9_countParts_62 q_7 q_18 k1 x2 x3_5 x4 0 (h 5 9) h)
  else
    gd (ix x2 8) (
    bnd (up1 h 12 x2.toNatClampNeg x3) fun h_9 =>
    q_7 (x2 + 1) h_9)
noncomputable def F_X9_countParts_18 (q_7 : Int32 → Hp → Option Hp) (k1 : Nat) (x2 : Int32) (n : Nat) : Int32 → Int32 → Hp → Option Hp :=
  Nat.rec (motive := fun _ => Int32 → Int32 → Hp → Option Hp) (fun _ _ _ => none) (fun _ q => S_X9_countParts_18 q_7 k1 x2 q) n
noncomputable def S_X9_countParts_7 (k1 : Nat) (q_7 : Int32 → Hp → Option Hp) (x2 : Int32) (h : Hp) : Option Hp :=
  if x2 < 8 then
    F_X9_countParts_18 q_7 k1 x2 FU 0 0 h
  else
    some h
noncomputable def F_X9_countParts_7 (k1 : Nat) (n : Nat) : Int32 → Hp → Option Hp :=
  Nat.rec (motive := fun _ => Int32 → Hp → Option Hp) (fun _ _ => none) (fun _ q => S_X9_countParts_7 k1 q) n
noncomputable def f_X9_countParts (k1 : Nat) (h : Hp) : Option Hp :=
  bnd (up1 h 5 9 0) fun h_1 =>
  F_X9_countParts_7 k1 FU 0 h_1
/-! LeanCity$Strain.pressOnce (LLeanCity$City;)Z -/
noncomputable def S_X9_pressOnce_60 (q_23 : Int32 → Hp → Option (Bool × Hp)) (k1 : Nat) (x2 : Int32) (x3 : Int32) (x4 : Int32) (q_60 : Int32 → Hp → Option (Bool × Hp)) (x5 : Int32) (h : Hp) : Option (Bool × Hp) :=
  if x5 < 8 then
    gd (ix x5 8) (
    gd (ix ((x2 * 8) + x5) 64) (
    gd (¬ x3 = 0) (
    gd (ix x5 8) (
    bnd (up1 h 11 x5.toNatClampNeg ((h 11 x5.toNatClampNeg) + ((x4 * (h (k1 + 5) (((x2 * 8) + x5).toNatClampNeg))) / x3))) fun h_6 =>
    q_60 (x5 + 1) h_6))))
  else
    q_23 (x2 + 1) h
noncomputable def F_X9_pressOnce_60 (q_23 : Int32 → Hp → Option (Bool × Hp)) (k1 : Nat) (x2 : Int32) (x3 : Int32) (x4 : Int32) (n : Nat) : Int32 → Hp → Option (Bool × Hp) :=
  Nat.rec (motive := fun _ => Int32 → Hp → Option (Bool × Hp)) (fun _ _ => none) (fun _ q => S_X9_pressOnce_60 q_23 k1 x2 x3 x4 q) n
noncomputable def F_X9_pressOnce_137 (q_110 : Int32 → Int32 → Hp → Option (Bool × Hp)) (x3 : Int32) (t0 : Int32) (t1 : Int32) (h : Hp) : Option (Bool × Hp) :=
  bnd (t1 ||| t0) fun x2_1 =>
  gd (ix x3 8) (
  gd (ix x3 8) (
  bnd (up1 h 6 x3.toNatClampNeg (h 11 x3.toNatClampNeg)) fun h_5 =>
  q_110 x2_1 (x3 + 1) h_5))
noncomputable def S_X9_pressOnce_110 (q_110 : Int32 → Int32 → Hp → Option (Bool × Hp)) (x2 : Int32) (x3 : Int32) (h : Hp) : Option (Bool × Hp) :=
  if x3 < 8 then
    gd (ix x3 8) (
    gd (ix x3 8) (
    if (h 6 x3.toNatClampNeg) = (h 11 x3.toNatClampNeg) then
      F_X9_pressOnce_137 q_110 x3 0 x2 h
    else
      F_X9_pressOnce_137 q_110 x3 1 x2 h))
  else
    Option.bind (toB x2) fun b_5 =>
    some (b_5, h)
noncomputable def F_X9_pressOnce_110 (n : Nat) : Int32 → Int32 → Hp → Option (Bool × Hp) :=
  Nat.rec (motive := fun _ => Int32 → Int32 → Hp → Option (Bool × Hp)) (fun _ _ _ => none) (fun _ q => S_X9_pressOnce_110 q) n
noncomputable def S_X9_pressOnce_23 (k1 : Nat) (q_23 : Int32 → Hp → Option (Bool × Hp)) (x2 : Int32) (h : Hp) : Option (Bool × Hp) :=
  if x2 < 8 then
    gd (ix x2 8) (
    bnd (h 12 x2.toNatClampNeg) fun x3_3 =>
    if 0 < x3_3 then
      gd (ix x2 8) (
      gd (ix x2 8) (
      bnd (((h (k1 + 1) x2.toNatClampNeg) + (h 6 x2.toNatClampNeg)) / 2) fun x4_8 =>
      F_X9_pressOnce_60 q_23 k1 x2 x3_3 x4_8 FU 0 h))
    else
      q_23 (x2 + 1) h)
  else
    F_X9_pressOnce_110 FU 0 0 h
noncomputable def F_X9_pressOnce_23 (k1 : Nat) (n : Nat) : Int32 → Hp → Option (Bool × Hp) :=
  Nat.rec (motive := fun _ => Int32 → Hp → Option (Bool × Hp)) (fun _ _ => none) (fun _ q => S_X9_pressOnce_23 k1 q) n
noncomputable def S_X9_pressOnce_2 (k1 : Nat) (q_2 : Int32 → Hp → Option (Bool × Hp)) (x2 : Int32) (h : Hp) : Option (Bool × Hp) :=
  if x2 < 8 then
    gd (ix x2 8) (
    bnd (up1 h 11 x2.toNatClampNeg 0) fun h_3 =>
    q_2 (x2 + 1) h_3)
  else
    F_X9_pressOnce_23 k1 FU 0 h
noncomputable def F_X9_pressOnce_2 (k1 : Nat) (n : Nat) : Int32 → Hp → Option (Bool × Hp) :=
  Nat.rec (motive := fun _ => Int32 → Hp → Option (Bool × Hp)) (fun _ _ => none) (fun _ q => S_X9_pressOnce_2 k1 q) n
noncomputable def f_X9_pressOnce (k1 : Nat) (h : Hp) : Option (Bool × Hp) :=
  F_X9_pressOnce_2 k1 FU 0 h
/-! LeanCity$Strain.measurePress (LLeanCity$City;)V -/
noncomputable def S_X9_measurePress_30 (k1 : Nat) (q_30 : Int32 → Int32 → Hp → Option Hp) (x2 : Int32) (x3 : Int32) (h : Hp) : Option Hp :=
  if x2 = 0 then
    some h
  else
    if x3 < 12 then
      Option.bind (f_X9_pressOnce k1 h) fun r_3 =>
      bnd (b2i r_3.1) fun x2_5 =>
      q_30 x2_5 (x3 + 1) r_3.2
    else
      some h
noncomputable def F_X9_measurePress_30 (k1 : Nat) (n : Nat) : Int32 → Int32 → Hp → Option Hp :=
  Nat.rec (motive := fun _ => Int32 → Int32 → Hp → Option Hp) (fun _ _ _ => none) (fun _ q => S_X9_measurePress_30 k1 q) n
noncomputable def S_X9_measurePress_7 (k1 : Nat) (q_7 : Int32 → Hp → Option Hp) (x2 : Int32) (h : Hp) : Option Hp :=
  if x2 < 8 then
    gd (ix x2 8) (
    bnd (up1 h 6 x2.toNatClampNeg 0) fun h_3 =>
    q_7 (x2 + 1) h_3)
  else
    F_X9_measurePress_30 k1 FU 1 0 h
noncomputable def F_X9_measurePress_7 (k1 : Nat) (n : Nat) : Int32 → Hp → Option Hp :=
  Nat.rec (motive := fun _ => Int32 → Hp → Option Hp) (fun _ _ => none) (fun _ q => S_X9_measurePress_7 k1 q) n
noncomputable def f_X9_measurePress (k1 : Nat) (h : Hp) : Option Hp :=
  Option.bind (f_X9_countParts k1 h) fun r_1 =>
  F_X9_measurePress_7 k1 FU 0 r_1
/-! LeanCity$Breaks.keepIfFits (I[I)V -/
noncomputable def F_X0_keepIfFits_48 (q_2 : Int32 → Hp → Option Hp) (x1 : Int32) (x3 : Int32) (t0 : Int32) (h : Hp) : Option Hp :=
  gd (ix (x3 + 1) 40) (
  if 1 < (iabs (t0 - (h 26 ((x3 + 1).toNatClampNeg)))) then
    some h
  else
    q_2 (x3 + 2) h)
noncomputable def F_X0_keepIfFits_139 (h : Hp) : Option Hp :=
  bnd (up1 h 23 1 ((h 23 1) + 1)) fun h_1 =>
  some h_1
noncomputable def S_X0_keepIfFits_104 (q_104 : Int32 → Hp → Option Hp) (x3 : Int32) (h : Hp) : Option Hp :=
  if x3 < 8 then
    if x3 < 8 then
      gd (ix x3 8) (
      gd (ix (((h 23 1) * 8) + x3) 520) (
      bnd (up1 h 25 ((((h 23 1) * 8) + x3).toNatClampNeg) (h 6 x3.toNatClampNeg)) fun h_5 =>
      q_104 (x3 + 1) h_5))
    else
      F_X0_keepIfFits_139 h
  else
    F_X0_keepIfFits_139 h
noncomputable def F_X0_keepIfFits_104 (n : Nat) : Int32 → Hp → Option Hp :=
  Nat.rec (motive := fun _ => Int32 → Hp → Option Hp) (fun _ _ => none) (fun _ q => S_X0_keepIfFits_104 q) n
noncomputable def F_X0_keepIfFits_75 (x1 : Int32) (h : Hp) : Option Hp :=
  if (h 23 1) < 0 then
    some h
  else
    if 64 < (h 23 1) then
      some h
    else
      gd (ix (h 23 1) 65) (
      bnd (up1 h 24 ((h 23 1).toNatClampNeg) x1) fun h_4 =>
      F_X0_keepIfFits_104 FU 0 h_4)
noncomputable def S_X0_keepIfFits_2 (x1 : Int32) (q_2 : Int32 → Hp → Option Hp) (x3 : Int32) (h : Hp) : Option Hp :=
  if (x3 + 1) < (h 23 4) then
    if (x3 + 1) < 40 then
      gd (ix x3 40) (
      bnd (h 26 x3.toNatClampNeg) fun x4_4 =>
      if x4_4 < 0 then
        F_X0_keepIfFits_48 q_2 x1 x3 0 h
      else
        if x4_4 < 8 then
          gd (ix x4_4 8) (
          F_X0_keepIfFits_48 q_2 x1 x3 (h 6 x4_4.toNatClampNeg) h)
        else
          F_X0_keepIfFits_48 q_2 x1 x3 0 h)
    else
      F_X0_keepIfFits_75 x1 h
  else
    F_X0_keepIfFits_75 x1 h
noncomputable def F_X0_keepIfFits_2 (x1 : Int32) (n : Nat) : Int32 → Hp → Option Hp :=
  Nat.rec (motive := fun _ => Int32 → Hp → Option Hp) (fun _ _ => none) (fun _ q => S_X0_keepIfFits_2 x1 q) n
noncomputable def f_X0_keepIfFits (x1 : Int32) (h : Hp) : Option Hp :=
  F_X0_keepIfFits_2 x1 FU 0 h
/-! LeanCity$Breaks.collect (LLeanCity$City;LLeanCity$City;LLeanCity$Strain;)V -/
noncomputable def F_X0_collect_47 (q_8 : Int32 → Hp → Option Hp) (k1 : Nat) (k2 : Nat) (x4 : Int32) (x5 : Int32) (x6 : Int32) (h : Hp) : Option Hp :=
  Option.bind (f_X1_copyFrom k2 k1 h) fun r_1 =>
  Option.bind (f_X1_setPart k2 x5 x6 0 r_1) fun r_3 =>
  Option.bind (f_X9_measurePress k2 r_3) fun r_5 =>
  Option.bind (f_X0_keepIfFits x4 r_5) fun r_7 =>
  q_8 (x4 + 1) r_7
noncomputable def S_X0_collect_8 (k1 : Nat) (k2 : Nat) (q_8 : Int32 → Hp → Option Hp) (x4 : Int32) (h : Hp) : Option Hp :=
  if 64 < x4 then
    some h
  else
    if x4 = 64 then
      F_X0_collect_47 q_8 k1 k2 x4 (x4 / 8) (rem x4 8) h
    else
      Option.bind (f_X1_partOf k1 (x4 / 8) (rem x4 8) h) fun r_3 =>
      if 0 < r_3 then
        F_X0_collect_47 q_8 k1 k2 x4 (x4 / 8) (rem x4 8) h
      else
        q_8 (x4 + 1) h
noncomputable def F_X0_collect_8 (k1 : Nat) (k2 : Nat) (n : Nat) : Int32 → Hp → Option Hp :=
  Nat.rec (motive := fun _ => Int32 → Hp → Option Hp) (fun _ _ => none) (fun _ q => S_X0_collect_8 k1 k2 q) n
noncomputable def f_X0_collect (k1 : Nat) (k2 : Nat) (h : Hp) : Option Hp :=
  bnd (up1 h 23 1 0) fun h_1 =>
  F_X0_collect_8 k1 k2 FU 0 h_1
/-! LeanCity$Breaks.pressOf (II)I -/
noncomputable def f_X0_pressOf (x1 : Int32) (x2 : Int32) (h : Hp) : Option Int32 :=
  bnd ((x1 * 8) + x2) fun x3_1 =>
  if x3_1 < 0 then
    some 0
  else
    if x3_1 < 520 then
      gd (ix x3_1 520) (
      some (h 25 x3_1.toNatClampNeg))
    else
      some 0
/-! LeanCity$Breaks.greatestPart (I)I -/
noncomputable def F_X0_greatestPart_50 (q_4 : Int32 → Int32 → Option Int32) (q_18 : Int32 → Int32 → Option Int32) (h : Hp) (x1 : Int32) (x2 : Int32) (x3 : Int32) (x5 : Int32) (t0 : Int32) (t1 : Int32) : Option Int32 :=
  q_18 (t1 + t0) (x5 + 1)
noncomputable def S_X0_greatestPart_18 (q_4 : Int32 → Int32 → Option Int32) (h : Hp) (x1 : Int32) (x2 : Int32) (x3 : Int32) (q_18 : Int32 → Int32 → Option Int32) (x4 : Int32) (x5 : Int32) : Option Int32 :=
  if x5 < (h 23 1) then
    Option.bind (f_X0_pressOf x3 x1 h) fun r_2 =>
    Option.bind (f_X0_pressOf x5 x1 h) fun r_4 =>
    if r_2 = r_4 then
      F_X0_greatestPart_50 q_4 q_18 h x1 x2 x3 x5 1 x4
    else
      F_X0_greatestPart_50 q_4 q_18 h x1 x2 x3 x5 0 x4
  else
    bnd (imax x2 x4) fun x2_7 =>
    q_4 x2_7 (x3 + 1)
noncomputable def F_X0_greatestPart_18 (q_4 : Int32 → Int32 → Option Int32) (h : Hp) (x1 : Int32) (x2 : Int32) (x3 : Int32) (n : Nat) : Int32 → Int32 → Option Int32 :=
  Nat.rec (motive := fun _ => Int32 → Int32 → Option Int32) (fun _ _ => none) (fun _ q => S_X0_greatestPart_18 q_4 h x1 x2 x3 q) n
noncomputable def S_X0_greatestPart_4 (h : Hp) (x1 : Int32) (q_4 : Int32 → Int32 → Option Int32) (x2 : Int32) (x3 : Int32) : Option Int32 :=
  if x3 < (h 23 1) then
    F_X0_greatestPart_18 q_4 h x1 x2 x3 FU 0 0
  else
    some x2
noncomputable def F_X0_greatestPart_4 (h : Hp) (x1 : Int32) (n : Nat) : Int32 → Int32 → Option Int32 :=
  Nat.rec (motive := fun _ => Int32 → Int32 → Option Int32) (fun _ _ => none) (fun _ q => S_X0_greatestPart_4 h x1 q) n
noncomputable def f_X0_greatestPart (x1 : Int32) (h : Hp) : Option Int32 :=
  F_X0_greatestPart_4 h x1 FU 0 0
/-! LeanCity$Breaks.bestTap (I)I -/
noncomputable def F_X0_bestTap_35 (q_8 : Int32 → Int32 → Int32 → Option Int32) (h : Hp) (x1 : Int32) (x2 : Int32) (x3 : Int32) (x4 : Int32) (t0 : Int32) : Option Int32 :=
  if t0 < x3 then
    q_8 x4 t0 (x4 + 1)
  else
    q_8 x2 x3 (x4 + 1)
noncomputable def S_X0_bestTap_8 (h : Hp) (x1 : Int32) (q_8 : Int32 → Int32 → Int32 → Option Int32) (x2 : Int32) (x3 : Int32) (x4 : Int32) : Option Int32 :=
  if x4 < 8 then
    if ((shr x1 x4) &&& 1) = 1 then
      Option.bind (f_X0_greatestPart x4 h) fun r_3 =>
      F_X0_bestTap_35 q_8 h x1 x2 x3 x4 r_3
    else
      F_X0_bestTap_35 q_8 h x1 x2 x3 x4 x3
  else
    some x2
noncomputable def F_X0_bestTap_8 (h : Hp) (x1 : Int32) (n : Nat) : Int32 → Int32 → Int32 → Option Int32 :=
  Nat.rec (motive := fun _ => Int32 → Int32 → Int32 → Option Int32) (fun _ _ _ => none) (fun _ q => S_X0_bestTap_8 h x1 q) n
noncomputable def f_X0_bestTap (x1 : Int32) (h : Hp) : Option Int32 :=
  F_X0_bestTap_8 h x1 FU (-1) 66 0
/-! LeanCity$City.isUp (I)Z -/
noncomputable def f_X1_isUp (k0 : Nat) (x1 : Int32) (h : Hp) : Bool :=
  if (f_X1_isHouse k0 x1 h) then
    if ((shr (h k0 11) x1) &&& 1) = 1 then
      true
    else
      false
  else
    false
/-! LeanCity$City.isPerson (I)Z -/
noncomputable def f_X1_isPerson (k0 : Nat) (x1 : Int32) (h : Hp) : Bool :=
  if x1 < 0 then
    false
  else
    if x1 < (h k0 10) then
      if x1 < 6 then
        true
      else
        false
    else
      false
/-! LeanCity$City.addHouse (IIII)I -/
noncomputable def f_X1_addHouse (k0 : Nat) (x1 : Int32) (x2 : Int32) (x3 : Int32) (x4 : Int32) (h : Hp) : Option (Int32 × Hp) :=
  if (h k0 9) < 0 then
    some ((-1), h)
  else
    if (h k0 9) < 8 then
      gd (ix (h k0 9) 8) (
      bnd (up1 h (k0 + 1) ((h k0 9).toNatClampNeg) x1) fun h_4 =>
      gd (ix (h k0 9) 8) (
      bnd (up1 h_4 (k0 + 2) ((h k0 9).toNatClampNeg) x2) fun h_7 =>
      gd (ix (h k0 9) 8) (
      bnd (up1 h_7 (k0 + 3) ((h k0 9).toNatClampNeg) x3) fun h_10 =>
      gd (ix (h k0 9) 8) (
      bnd (up1 h_10 (k0 + 4) ((h k0 9).toNatClampNeg) x4) fun h_13 =>
      bnd (up1 h_13 k0 11 ((h_13 k0 11) ||| (shl 1 (h k0 9)))) fun h_15 =>
      bnd (up1 h_15 k0 9 ((h_15 k0 9) + 1)) fun h_17 =>
      some (h k0 9, h_17)))))
    else
      some ((-1), h)
/-! LeanCity$City.addPerson (III)Z -/
noncomputable def f_X1_addPerson (k0 : Nat) (x1 : Int32) (x2 : Int32) (x3 : Int32) (h : Hp) : Option (Bool × Hp) :=
  if (h k0 10) < 0 then
    some (false, h)
  else
    if (h k0 10) < 6 then
      gd (ix (h k0 10) 6) (
      bnd (up1 h (k0 + 6) ((h k0 10).toNatClampNeg) x1) fun h_4 =>
      gd (ix (h k0 10) 6) (
      bnd (up1 h_4 (k0 + 7) ((h k0 10).toNatClampNeg) x2) fun h_7 =>
      gd (ix (h k0 10) 6) (
      bnd (up1 h_7 (k0 + 8) ((h k0 10).toNatClampNeg) x3) fun h_10 =>
      bnd (up1 h_10 k0 10 ((h_10 k0 10) + 1)) fun h_12 =>
      some (true, h_12))))
    else
      some (false, h)
/-! LeanCity$City.marry (II)V -/
noncomputable def f_X1_marry (k0 : Nat) (x1 : Int32) (x2 : Int32) (h : Hp) : Option Hp :=
  Option.bind (f_X1_partOf k0 x1 x2 h) fun r_1 =>
  Option.bind (f_X1_setPart k0 x1 x2 (imin 9 (r_1 + 1)) h) fun r_3 =>
  Option.bind (f_X1_partOf k0 x2 x1 r_3) fun r_5 =>
  Option.bind (f_X1_setPart k0 x2 x1 (imin 9 (r_5 + 1)) r_3) fun r_7 =>
  some r_7
/-! LeanCity$City.cutIvy (I)I -/
noncomputable def f_X1_cutIvy (k0 : Nat) (x1 : Int32) (h : Hp) : Option (Int32 × Hp) :=
  if (f_X1_isHouse k0 x1 h) then
    gd (ix x1 8) (
    bnd (h (k0 + 3) x1.toNatClampNeg) fun x2_3 =>
    gd (ix x1 8) (
    bnd (up1 h (k0 + 3) x1.toNatClampNeg 0) fun h_6 =>
    some (x2_3, h_6)))
  else
    some (0, h)
/-! LeanCity$City.priceOf (I)I -/
noncomputable def f_X1_priceOf (k0 : Nat) (x1 : Int32) (h : Hp) : Option Int32 :=
  if (f_X1_isHouse k0 x1 h) then
    gd (ix x1 8) (
    gd (ix x1 8) (
    gd (ix x1 8) (
    some (imax 0 ((((h (k0 + 2) x1.toNatClampNeg) / 10) + (h (k0 + 3) x1.toNatClampNeg)) - ((h (k0 + 4) x1.toNatClampNeg) / 5))))))
  else
    some 0
/-! LeanCity$City.gateOf (I)I -/
noncomputable def S_X1_gateOf_4 (h : Hp) (k0 : Nat) (x1 : Int32) (q_4 : Int32 → Int32 → Option Int32) (x2 : Int32) (x3 : Int32) : Option Int32 :=
  if x3 < 6 then
    if (f_X1_isPerson k0 x3 h) then
      gd (ix x3 6) (
      if (h (k0 + 6) x3.toNatClampNeg) = x1 then
        bnd (x2 ||| (shl 1 x3)) fun x2_5 =>
        q_4 x2_5 (x3 + 1)
      else
        q_4 x2 (x3 + 1))
    else
      q_4 x2 (x3 + 1)
  else
    some x2
noncomputable def F_X1_gateOf_4 (h : Hp) (k0 : Nat) (x1 : Int32) (n : Nat) : Int32 → Int32 → Option Int32 :=
  Nat.rec (motive := fun _ => Int32 → Int32 → Option Int32) (fun _ _ => none) (fun _ q => S_X1_gateOf_4 h k0 x1 q) n
noncomputable def f_X1_gateOf (k0 : Nat) (x1 : Int32) (h : Hp) : Option Int32 :=
  F_X1_gateOf_4 h k0 x1 FU 0 0
/-! LeanCity$City.placeOf (I)I -/
noncomputable def f_X1_placeOf (k0 : Nat) (x1 : Int32) (h : Hp) : Option Int32 :=
  if (f_X1_isPerson k0 x1 h) then
    gd (ix x1 6) (
    some (h (k0 + 6) x1.toNatClampNeg))
  else
    some (-1)
/-! LeanCity$City.holdOf (I)I -/
noncomputable def f_X1_holdOf (k0 : Nat) (x1 : Int32) (h : Hp) : Option Int32 :=
  if (f_X1_isPerson k0 x1 h) then
    gd (ix x1 6) (
    some (h (k0 + 7) x1.toNatClampNeg))
  else
    some 0
/-! LeanCity$City.daysOf (I)I -/
noncomputable def f_X1_daysOf (k0 : Nat) (x1 : Int32) (h : Hp) : Option Int32 :=
  if (f_X1_isPerson k0 x1 h) then
    gd (ix x1 6) (
    some (h (k0 + 8) x1.toNatClampNeg))
  else
    some 0
/-! LeanCity$City.isThere (II)Z -/
noncomputable def f_X1_isThere (k0 : Nat) (x1 : Int32) (x2 : Int32) (h : Hp) : Option Bool :=
  if (f_X1_isPerson k0 x1 h) then
    if x2 < 0 then
      some false
    else
      if x2 < 7 then
        gd (ix x1 6) (
        if ((shr (h (k0 + 8) x1.toNatClampNeg) x2) &&& 1) = 1 then
          some true
        else
          some false)
      else
        some false
  else
    some false
/-! LeanCity$City.holdOfAll ()I -/
noncomputable def F_X1_holdOfAll_29 (q_4 : Int32 → Int32 → Option Int32) (h : Hp) (k0 : Nat) (x2 : Int32) (t0 : Int32) (t1 : Int32) : Option Int32 :=
  q_4 (t1 + t0) (x2 + 1)
noncomputable def S_X1_holdOfAll_4 (h : Hp) (k0 : Nat) (q_4 : Int32 → Int32 → Option Int32) (x1 : Int32) (x2 : Int32) : Option Int32 :=
  if x2 < 6 then
    Option.bind (f_X1_placeOf k0 x2 h) fun r_2 =>
    if r_2 = (-1) then
      F_X1_holdOfAll_29 q_4 h k0 x2 0 x1
    else
      Option.bind (f_X1_holdOf k0 x2 h) fun r_5 =>
      F_X1_holdOfAll_29 q_4 h k0 x2 r_5 x1
  else
    some x1
noncomputable def F_X1_holdOfAll_4 (h : Hp) (k0 : Nat) (n : Nat) : Int32 → Int32 → Option Int32 :=
  Nat.rec (motive := fun _ => Int32 → Int32 → Option Int32) (fun _ _ => none) (fun _ q => S_X1_holdOfAll_4 h k0 q) n
noncomputable def f_X1_holdOfAll (k0 : Nat) (h : Hp) : Option Int32 :=
  F_X1_holdOfAll_4 h k0 FU 0 0
/-! LeanCity$City.put (II)V -/
noncomputable def f_X1_put (k0 : Nat) (x1 : Int32) (x2 : Int32) (h : Hp) : Option Hp :=
  if (f_X1_isPerson k0 x1 h) then
    gd (ix x1 6) (
    bnd (up1 h (k0 + 6) x1.toNatClampNeg x2) fun h_3 =>
    some h_3)
  else
    some h
/-! LeanCity$City.setDay (IIZ)Z -/
noncomputable def F_X1_setDay_15 (k0 : Nat) (x1 : Int32) (x2 : Int32) (t0 : Int32) (h : Hp) : Option (Bool × Hp) :=
  if t0 = 0 then
    Option.bind (toB t0) fun b_2 =>
    some (b_2, h)
  else
    if (f_X1_isPerson k0 x1 h) then
      gd (ix x1 6) (
      gd (ix x1 6) (
      bnd (up1 h (k0 + 8) x1.toNatClampNeg ((h (k0 + 8) x1.toNatClampNeg) ^^^ (shl 1 x2))) fun h_7 =>
      Option.bind (toB t0) fun b_9 =>
      some (b_9, h_7)))
    else
      Option.bind (toB t0) fun b_11 =>
      some (b_11, h)
noncomputable def f_X1_setDay (k0 : Nat) (x1 : Int32) (x2 : Int32) (x3 : Int32) (h : Hp) : Option (Bool × Hp) :=
  Option.bind (f_X1_isThere k0 x1 x2 h) fun r_1 =>
  if (b2i r_1) = x3 then
    F_X1_setDay_15 k0 x1 x2 0 h
  else
    F_X1_setDay_15 k0 x1 x2 1 h
/-! LeanCity$City.takeDown (I)V -/
noncomputable def S_X1_takeDown_63 (k0 : Nat) (x1 : Int32) (q_63 : Int32 → Hp → Option Hp) (x2 : Int32) (h : Hp) : Option Hp :=
  if x2 < 6 then
    gd (ix x2 6) (
    if (h (k0 + 6) x2.toNatClampNeg) = x1 then
      gd (ix x2 6) (
      bnd (up1 h (k0 + 6) x2.toNatClampNeg (-1)) fun h_5 =>
      q_63 (x2 + 1) h_5)
    else
      q_63 (x2 + 1) h)
  else
    some h
noncomputable def F_X1_takeDown_63 (k0 : Nat) (x1 : Int32) (n : Nat) : Int32 → Hp → Option Hp :=
  Nat.rec (motive := fun _ => Int32 → Hp → Option Hp) (fun _ _ => none) (fun _ q => S_X1_takeDown_63 k0 x1 q) n
noncomputable def S_X1_takeDown_25 (k0 : Nat) (x1 : Int32) (q_25 : Int32 → Hp → Option Hp) (x2 : Int32) (h : Hp) : Option Hp :=
  if x2 < 8 then
    gd (ix ((x1 * 8) + x2) 64) (
    bnd (up1 h (k0 + 5) (((x1 * 8) + x2).toNatClampNeg) 0) fun h_3 =>
    gd (ix ((x2 * 8) + x1) 64) (
    bnd (up1 h_3 (k0 + 5) (((x2 * 8) + x1).toNatClampNeg) 0) fun h_6 =>
    q_25 (x2 + 1) h_6))
  else
    F_X1_takeDown_63 k0 x1 FU 0 h
noncomputable def F_X1_takeDown_25 (k0 : Nat) (x1 : Int32) (n : Nat) : Int32 → Hp → Option Hp :=
  Nat.rec (motive := fun _ => Int32 → Hp → Option Hp) (fun _ _ => none) (fun _ q => S_X1_takeDown_25 k0 x1 q) n
noncomputable def f_X1_takeDown (k0 : Nat) (x1 : Int32) (h : Hp) : Option Hp :=
  if (f_X1_isHouse k0 x1 h) then
    bnd (up1 h k0 11 ((h k0 11) &&& ((shl 1 x1) ^^^ (-1)))) fun h_2 =>
    F_X1_takeDown_25 k0 x1 FU 0 h_2
  else
    some h
/-! LeanCity$City.leansOn (I)I -/
noncomputable def S_X1_leansOn_4 (h : Hp) (k0 : Nat) (x1 : Int32) (q_4 : Int32 → Int32 → Option Int32) (x2 : Int32) (x3 : Int32) : Option Int32 :=
  if x3 < 8 then
    Option.bind (f_X1_partOf k0 x1 x3 h) fun r_2 =>
    if 0 < r_2 then
      bnd (x2 ||| (shl 1 x3)) fun x2_5 =>
      q_4 x2_5 (x3 + 1)
    else
      q_4 x2 (x3 + 1)
  else
    some x2
noncomputable def F_X1_leansOn_4 (h : Hp) (k0 : Nat) (x1 : Int32) (n : Nat) : Int32 → Int32 → Option Int32 :=
  Nat.rec (motive := fun _ => Int32 → Int32 → Option Int32) (fun _ _ => none) (fun _ q => S_X1_leansOn_4 h k0 x1 q) n
noncomputable def f_X1_leansOn (k0 : Nat) (x1 : Int32) (h : Hp) : Option Int32 :=
  F_X1_leansOn_4 h k0 x1 FU 0 0
/-! LeanCity$City.touching (I)I -/
noncomputable def S_X1_touching_8 (h : Hp) (k0 : Nat) (x1 : Int32) (q_8 : Int32 → Int32 → Option Int32) (x2 : Int32) (x3 : Int32) : Option Int32 :=
  if x3 < 8 then
    Option.bind (f_X1_partOf k0 x3 x1 h) fun r_2 =>
    if 0 < r_2 then
      bnd (x2 ||| (shl 1 x3)) fun x2_5 =>
      q_8 x2_5 (x3 + 1)
    else
      q_8 x2 (x3 + 1)
  else
    some x2
noncomputable def F_X1_touching_8 (h : Hp) (k0 : Nat) (x1 : Int32) (n : Nat) : Int32 → Int32 → Option Int32 :=
  Nat.rec (motive := fun _ => Int32 → Int32 → Option Int32) (fun _ _ => none) (fun _ q => S_X1_touching_8 h k0 x1 q) n
noncomputable def f_X1_touching (k0 : Nat) (x1 : Int32) (h : Hp) : Option Int32 :=
  Option.bind (f_X1_leansOn k0 x1 h) fun r_1 =>
  F_X1_touching_8 h k0 x1 FU r_1 0
/-! LeanCity$City.onward (I)I -/
noncomputable def S_X1_onward_17 (q_8 : Int32 → Int32 → Option Int32) (h : Hp) (k0 : Nat) (x3 : Int32) (q_17 : Int32 → Int32 → Option Int32) (x2 : Int32) (x4 : Int32) : Option Int32 :=
  if x4 < 8 then
    if ((shr x2 x4) &&& 1) = 1 then
      Option.bind (f_X1_leansOn k0 x4 h) fun r_3 =>
      bnd (x2 ||| r_3) fun x2_5 =>
      q_17 x2_5 (x4 + 1)
    else
      q_17 x2 (x4 + 1)
  else
    q_8 x2 (x3 + 1)
noncomputable def F_X1_onward_17 (q_8 : Int32 → Int32 → Option Int32) (h : Hp) (k0 : Nat) (x3 : Int32) (n : Nat) : Int32 → Int32 → Option Int32 :=
  Nat.rec (motive := fun _ => Int32 → Int32 → Option Int32) (fun _ _ => none) (fun _ q => S_X1_onward_17 q_8 h k0 x3 q) n
noncomputable def S_X1_onward_8 (h : Hp) (k0 : Nat) (q_8 : Int32 → Int32 → Option Int32) (x2 : Int32) (x3 : Int32) : Option Int32 :=
  if x3 < 8 then
    F_X1_onward_17 q_8 h k0 x3 FU x2 0
  else
    some x2
noncomputable def F_X1_onward_8 (h : Hp) (k0 : Nat) (n : Nat) : Int32 → Int32 → Option Int32 :=
  Nat.rec (motive := fun _ => Int32 → Int32 → Option Int32) (fun _ _ => none) (fun _ q => S_X1_onward_8 h k0 q) n
noncomputable def f_X1_onward (k0 : Nat) (x1 : Int32) (h : Hp) : Option Int32 :=
  Option.bind (f_X1_leansOn k0 x1 h) fun r_1 =>
  F_X1_onward_8 h k0 FU r_1 0
/-! LeanCity$City.pieceOf (II)I -/
noncomputable def S_X1_pieceOf_19 (q_9 : Int32 → Int32 → Option Int32) (h : Hp) (k0 : Nat) (x2 : Int32) (x4 : Int32) (q_19 : Int32 → Int32 → Option Int32) (x3 : Int32) (x5 : Int32) : Option Int32 :=
  if x5 < 8 then
    if ((shr x3 x5) &&& 1) = 1 then
      Option.bind (f_X1_touching k0 x5 h) fun r_3 =>
      bnd (x3 ||| (r_3 &&& x2)) fun x3_5 =>
      q_19 x3_5 (x5 + 1)
    else
      q_19 x3 (x5 + 1)
  else
    q_9 x3 (x4 + 1)
noncomputable def F_X1_pieceOf_19 (q_9 : Int32 → Int32 → Option Int32) (h : Hp) (k0 : Nat) (x2 : Int32) (x4 : Int32) (n : Nat) : Int32 → Int32 → Option Int32 :=
  Nat.rec (motive := fun _ => Int32 → Int32 → Option Int32) (fun _ _ => none) (fun _ q => S_X1_pieceOf_19 q_9 h k0 x2 x4 q) n
noncomputable def S_X1_pieceOf_9 (h : Hp) (k0 : Nat) (x2 : Int32) (q_9 : Int32 → Int32 → Option Int32) (x3 : Int32) (x4 : Int32) : Option Int32 :=
  if x4 < 8 then
    F_X1_pieceOf_19 q_9 h k0 x2 x4 FU x3 0
  else
    some x3
noncomputable def F_X1_pieceOf_9 (h : Hp) (k0 : Nat) (x2 : Int32) (n : Nat) : Int32 → Int32 → Option Int32 :=
  Nat.rec (motive := fun _ => Int32 → Int32 → Option Int32) (fun _ _ => none) (fun _ q => S_X1_pieceOf_9 h k0 x2 q) n
noncomputable def f_X1_pieceOf (k0 : Nat) (x1 : Int32) (x2 : Int32) (h : Hp) : Option Int32 :=
  bnd ((shl 1 x1) &&& x2) fun x3_1 =>
  F_X1_pieceOf_9 h k0 x2 FU x3_1 0
/-! LeanCity$City.draw ()I -/
noncomputable def f_X1_draw (k0 : Nat) (h : Hp) : Option (Int32 × Hp) :=
  bnd (up1 h k0 17 ((1103515245 * (h k0 17)) + 12345)) fun h_1 =>
  some ((ushr (h_1 k0 17) 16) &&& 32767, h_1)
/-! LeanCity$City.upAt (I)I -/
noncomputable def S_X1_upAt_4 (h : Hp) (k0 : Nat) (q_4 : Int32 → Int32 → Option Int32) (x2 : Int32) (x3 : Int32) : Option Int32 :=
  if x3 < 8 then
    if (f_X1_isUp k0 x3 h) then
      if x2 = 0 then
        some x3
      else
        q_4 (x2 + (-1)) (x3 + 1)
    else
      q_4 x2 (x3 + 1)
  else
    some (-1)
noncomputable def F_X1_upAt_4 (h : Hp) (k0 : Nat) (n : Nat) : Int32 → Int32 → Option Int32 :=
  Nat.rec (motive := fun _ => Int32 → Int32 → Option Int32) (fun _ _ => none) (fun _ q => S_X1_upAt_4 h k0 q) n
noncomputable def f_X1_upAt (k0 : Nat) (x1 : Int32) (h : Hp) : Option Int32 :=
  F_X1_upAt_4 h k0 FU x1 0
/-! LeanCity$Tape.step ()V -/
noncomputable def F_X10_step_241 (x2 : Int32) (h : Hp) : Option Hp :=
  bnd (up1 h 2 4 x2) fun h_1 =>
  some h_1
noncomputable def S_X10_step_173 (x1 : Int32) (x6 : Int32) (x7 : Int32) (q_173 : Int32 → Hp → Option Hp) (x2 : Int32) (h : Hp) : Option Hp :=
  if x2 < x1 then
    gd (ix x2 400) (
    if (h 3 x2.toNatClampNeg) < x6 then
      F_X10_step_241 x2 h
    else
      gd (ix x2 400) (
      if x7 < (h 3 x2.toNatClampNeg) then
        F_X10_step_241 x2 h
      else
        gd (ix x2 400) (
        bnd (up1 h 2 6 (imin 1000 ((((h 2 6) * 10) + (h 3 x2.toNatClampNeg)) - x6))) fun h_7 =>
        q_173 (x2 + 1) h_7)))
  else
    F_X10_step_241 x2 h
noncomputable def F_X10_step_173 (x1 : Int32) (x6 : Int32) (x7 : Int32) (n : Nat) : Int32 → Hp → Option Hp :=
  Nat.rec (motive := fun _ => Int32 → Hp → Option Hp) (fun _ _ => none) (fun _ q => S_X10_step_173 x1 x6 x7 q) n
noncomputable def F_X10_step_155 (x1 : Int32) (x2 : Int32) (x4 : Int32) (x5 : Int32) (x6 : Int32) (x7 : Int32) (t0 : Int32) (h : Hp) : Option Hp :=
  bnd (up1 h 2 5 t0) fun h_1 =>
  bnd (up1 h_1 2 6 0) fun h_3 =>
  if x4 = 0 then
    if x5 = 0 then
      if x2 < x1 then
        F_X10_step_241 (x2 + 1) h_3
      else
        F_X10_step_241 x2 h_3
    else
      F_X10_step_173 x1 x6 x7 FU x2 h_3
  else
    F_X10_step_173 x1 x6 x7 FU x2 h_3
noncomputable def F_X10_step_129 (x1 : Int32) (x2 : Int32) (x3 : Int32) (x4 : Int32) (x5 : Int32) (x6 : Int32) (t0 : Int32) (h : Hp) : Option Hp :=
  if x4 = 0 then
    if x5 = 0 then
      F_X10_step_155 x1 x2 x4 x5 x6 t0 x3 h
    else
      F_X10_step_155 x1 x2 x4 x5 x6 t0 257 h
  else
    F_X10_step_155 x1 x2 x4 x5 x6 t0 256 h
noncomputable def F_X10_step_115 (x1 : Int32) (x2 : Int32) (x3 : Int32) (x4 : Int32) (x5 : Int32) (t0 : Int32) (h : Hp) : Option Hp :=
  if x4 = 0 then
    F_X10_step_129 x1 x2 x3 x4 x5 t0 57 h
  else
    F_X10_step_129 x1 x2 x3 x4 x5 t0 122 h
noncomputable def F_X10_step_101 (x1 : Int32) (x2 : Int32) (x3 : Int32) (x4 : Int32) (t0 : Int32) (h : Hp) : Option Hp :=
  if x4 = 0 then
    F_X10_step_115 x1 x2 x3 x4 t0 48 h
  else
    F_X10_step_115 x1 x2 x3 x4 t0 97 h
noncomputable def F_X10_step_82 (x1 : Int32) (x2 : Int32) (x3 : Int32) (t0 : Int32) (h : Hp) : Option Hp :=
  if x3 < 48 then
    F_X10_step_101 x1 x2 x3 t0 0 h
  else
    if 57 < x3 then
      F_X10_step_101 x1 x2 x3 t0 0 h
    else
      F_X10_step_101 x1 x2 x3 t0 1 h
noncomputable def F_X10_step_64 (x1 : Int32) (x2 : Int32) (t0 : Int32) (h : Hp) : Option Hp :=
  if t0 < 97 then
    F_X10_step_82 x1 x2 t0 0 h
  else
    if 122 < t0 then
      F_X10_step_82 x1 x2 t0 0 h
    else
      F_X10_step_82 x1 x2 t0 1 h
noncomputable def F_X10_step_44 (x1 : Int32) (x2 : Int32) (h : Hp) : Option Hp :=
  bnd (up1 h 2 3 x2) fun h_1 =>
  if x2 < x1 then
    gd (ix x2 400) (
    F_X10_step_64 x1 x2 (h_1 3 x2.toNatClampNeg) h_1)
  else
    F_X10_step_64 x1 x2 (-1) h_1
noncomputable def S_X10_step_22 (x1 : Int32) (q_22 : Int32 → Hp → Option Hp) (x2 : Int32) (h : Hp) : Option Hp :=
  if x2 < x1 then
    gd (ix x2 400) (
    if (h 3 x2.toNatClampNeg) = 32 then
      q_22 (x2 + 1) h
    else
      F_X10_step_44 x1 x2 h)
  else
    F_X10_step_44 x1 x2 h
noncomputable def F_X10_step_22 (x1 : Int32) (n : Nat) : Int32 → Hp → Option Hp :=
  Nat.rec (motive := fun _ => Int32 → Hp → Option Hp) (fun _ _ => none) (fun _ q => S_X10_step_22 x1 q) n
noncomputable def f_X10_step (h : Hp) : Option Hp :=
  bnd (imin (h 2 1) 400) fun x1_1 =>
  bnd (imax 0 (h 2 4)) fun x2_3 =>
  F_X10_step_22 x1_1 FU x2_3 h
/-! LeanCity$Tape.open ()V -/
noncomputable def f_X10_open (h : Hp) : Option Hp :=
  bnd (up1 h 2 2 (-1)) fun h_1 =>
  bnd (up1 h_1 2 4 0) fun h_3 =>
  Option.bind (f_X10_step h_3) fun r_5 =>
  some r_5
/-! LeanCity$Tape.isDone ()Z -/
noncomputable def f_X10_isDone (h : Hp) : Bool :=
  if (h 2 5) = (-1) then
    true
  else
    false
/-! LeanCity$Tape.wordOf (Ljava/lang/String;)I -/
noncomputable def F_X10_wordOf_128 (q_25 : Int32 → Int32 → Int32 → Int32 → Option Int32) (h : Hp) (k1 : Nat) (x2 : Int32) (x5 : Int32) : Option Int32 :=
  q_25 (x2 + 1) (h 2 3) 1 (x5 + 1)
noncomputable def F_X10_wordOf_54 (q_25 : Int32 → Int32 → Int32 → Int32 → Option Int32) (h : Hp) (k1 : Nat) (x2 : Int32) (x3 : Int32) (x4 : Int32) (x5 : Int32) (t0 : Int32) : Option Int32 :=
  if t0 = 32 then
    if x4 = 0 then
      F_X10_wordOf_128 q_25 h k1 x2 x5
    else
      if x3 = (h 2 4) then
        some x2
      else
        F_X10_wordOf_128 q_25 h k1 x2 x5
  else
    if x4 = 0 then
      q_25 x2 (x3 + 1) 0 (x5 + 1)
    else
      if x3 < 0 then
        q_25 x2 (x3 + 1) 0 (x5 + 1)
      else
        if x3 < (h 2 4) then
          if x3 < 400 then
            gd (ix x3 400) (
            if (h 3 x3.toNatClampNeg) = t0 then
              q_25 x2 (x3 + 1) 1 (x5 + 1)
            else
              q_25 x2 (x3 + 1) 0 (x5 + 1))
          else
            q_25 x2 (x3 + 1) 0 (x5 + 1)
        else
          q_25 x2 (x3 + 1) 0 (x5 + 1)
noncomputable def S_X10_wordOf_25 (h : Hp) (k1 : Nat) (q_25 : Int32 → Int32 → Int32 → Int32 → Option Int32) (x2 : Int32) (x3 : Int32) (x4 : Int32) (x5 : Int32) : Option Int32 :=
  if (sLen k1) < x5 then
    some (-1)
  else
    if x5 < (sLen k1) then
      gd (ix x5 (sLn k1)) (
      F_X10_wordOf_54 q_25 h k1 x2 x3 x4 x5 (sAt k1 x5.toNatClampNeg))
    else
      F_X10_wordOf_54 q_25 h k1 x2 x3 x4 x5 32
noncomputable def F_X10_wordOf_25 (h : Hp) (k1 : Nat) (n : Nat) : Int32 → Int32 → Int32 → Int32 → Option Int32 :=
  Nat.rec (motive := fun _ => Int32 → Int32 → Int32 → Int32 → Option Int32) (fun _ _ _ _ => none) (fun _ q => S_X10_wordOf_25 h k1 q) n
noncomputable def f_X10_wordOf (k1 : Nat) (h : Hp) : Option Int32 :=
  if (h 2 5) = 256 then
    F_X10_wordOf_25 h k1 FU 0 (h 2 3) 1 0
  else
    some (-1)
/-! LeanCity$Tape.take (Ljava/lang/String;)I -/
noncomputable def f_X10_take (k1 : Nat) (h : Hp) : Option (Int32 × Hp) :=
  Option.bind (f_X10_wordOf k1 h) fun r_1 =>
  if r_1 = (-1) then
    some (r_1, h)
  else
    Option.bind (f_X10_step h) fun r_4 =>
    some (r_1, r_4)
/-! LeanCity$Tape.fail ()Z -/
noncomputable def f_X10_fail (h : Hp) : Option (Bool × Hp) :=
  bnd (up1 h 2 2 (h 2 3)) fun h_1 =>
  some (false, h_1)
/-! LeanCity$Tape.needs (Ljava/lang/String;)Z -/
noncomputable def f_X10_needs (k1 : Nat) (h : Hp) : Option (Bool × Hp) :=
  Option.bind (f_X10_take k1 h) fun r_1 =>
  if r_1.1 = (-1) then
    Option.bind (f_X10_fail r_1.2) fun r_4 =>
    if r_4.1 then
      some (true, r_4.2)
    else
      some (false, r_4.2)
  else
    some (true, r_1.2)
/-! LeanCity$Tape.numberAhead (II)I -/
noncomputable def F_X10_numberAhead_44 (h : Hp) (t0 : Int32) : Int32 :=
  if t0 = 0 then
    (-1)
  else
    (h 2 6)
noncomputable def f_X10_numberAhead (x1 : Int32) (x2 : Int32) (h : Hp) : Int32 :=
  if (h 2 5) = 257 then
    if 3 < ((h 2 4) - (h 2 3)) then
      F_X10_numberAhead_44 h 0
    else
      if (h 2 6) < x1 then
        F_X10_numberAhead_44 h 0
      else
        if x2 < (h 2 6) then
          F_X10_numberAhead_44 h 0
        else
          F_X10_numberAhead_44 h 1
  else
    F_X10_numberAhead_44 h 0
/-! LeanCity$Tape.takeNumber (II)I -/
noncomputable def f_X10_takeNumber (x1 : Int32) (x2 : Int32) (h : Hp) : Option (Int32 × Hp) :=
  bnd (f_X10_numberAhead x1 x2 h) fun x3_1 =>
  if x3_1 = (-1) then
    Option.bind (f_X10_fail h) fun r_4 =>
    some ((-1), r_4.2)
  else
    Option.bind (f_X10_step h) fun r_6 =>
    some (x3_1, r_6)
/-! LeanCity$Tape.takes (Ljava/lang/String;)Z -/
noncomputable def f_X10_takes (k1 : Nat) (h : Hp) : Option (Bool × Hp) :=
  Option.bind (f_X10_take k1 h) fun r_1 =>
  if r_1.1 = (-1) then
    some (false, r_1.2)
  else
    some (true, r_1.2)
/-! LeanCity$CityReader.readHouse (LLeanCity$Tape;LLeanCity$City;)Z -/
noncomputable def F_X2_readHouse_107 (k1 : Nat) (x2 : Int32) (x3 : Int32) (x4 : Int32) (t0 : Int32) (h : Hp) : Option (Bool × Hp) :=
  if t0 = (-1) then
    some (false, h)
  else
    Option.bind (f_X1_addHouse k1 x2 x3 x4 t0 h) fun r_2 =>
    if r_2.1 = (-1) then
      some (false, r_2.2)
    else
      some (true, r_2.2)
noncomputable def F_X2_readHouse_77 (k1 : Nat) (x2 : Int32) (x3 : Int32) (t0 : Int32) (h : Hp) : Option (Bool × Hp) :=
  if t0 = (-1) then
    some (false, h)
  else
    Option.bind (f_X10_takes 1004 h) fun r_2 =>
    if r_2.1 then
      Option.bind (f_X10_takeNumber 0 99 r_2.2) fun r_5 =>
      F_X2_readHouse_107 k1 x2 x3 t0 r_5.1 r_5.2
    else
      F_X2_readHouse_107 k1 x2 x3 t0 0 r_2.2
noncomputable def F_X2_readHouse_49 (k1 : Nat) (x2 : Int32) (t0 : Int32) (h : Hp) : Option (Bool × Hp) :=
  if t0 = (-1) then
    some (false, h)
  else
    Option.bind (f_X10_takes 1003 h) fun r_2 =>
    if r_2.1 then
      Option.bind (f_X10_takeNumber 0 9 r_2.2) fun r_5 =>
      F_X2_readHouse_77 k1 x2 t0 r_5.1 r_5.2
    else
      F_X2_readHouse_77 k1 x2 t0 0 r_2.2
noncomputable def F_X2_readHouse_20 (k1 : Nat) (t0 : Int32) (h : Hp) : Option (Bool × Hp) :=
  if t0 = (-1) then
    some (false, h)
  else
    Option.bind (f_X10_needs 1002 h) fun r_2 =>
    if r_2.1 then
      Option.bind (f_X10_takeNumber 0 999 r_2.2) fun r_5 =>
      F_X2_readHouse_49 k1 t0 r_5.1 r_5.2
    else
      F_X2_readHouse_49 k1 t0 (-1) r_2.2
noncomputable def f_X2_readHouse (k1 : Nat) (h : Hp) : Option (Bool × Hp) :=
  Option.bind (f_X10_needs 1001 h) fun r_1 =>
  if r_1.1 then
    Option.bind (f_X10_takeNumber 1 99 r_1.2) fun r_4 =>
    F_X2_readHouse_20 k1 r_4.1 r_4.2
  else
    F_X2_readHouse_20 k1 (-1) r_1.2
/-! LeanCity$Tape.failAt (I)Z -/
noncomputable def f_X10_failAt (x1 : Int32) (h : Hp) : Option (Bool × Hp) :=
  bnd (up1 h 2 2 x1) fun h_1 =>
  some (false, h_1)
/-! LeanCity$CityReader.readStanding (LLeanCity$Tape;LLeanCity$City;)I -/
noncomputable def f_X2_readStanding (k1 : Nat) (h : Hp) : Option (Int32 × Hp) :=
  Option.bind (f_X10_takeNumber 0 ((h k1 9) - 1) h) fun r_1 =>
  if r_1.1 = (-1) then
    some (r_1.1, r_1.2)
  else
    if (f_X1_isUp k1 r_1.1 r_1.2) then
      some (r_1.1, r_1.2)
    else
      Option.bind (f_X10_failAt (h 2 3) r_1.2) fun r_5 =>
      some ((-1), r_5.2)
/-! LeanCity$Tape.takeDays ()I -/
noncomputable def F_X10_takeDays_89 (x1 : Int32) (x2 : Int32) (h : Hp) : Option (Int32 × Hp) :=
  if x2 = 0 then
    Option.bind (f_X10_fail h) fun r_2 =>
    some ((-1), r_2.2)
  else
    Option.bind (f_X10_step h) fun r_4 =>
    some (x1, r_4)
noncomputable def F_X10_takeDays_75 (q_34 : Int32 → Int32 → Int32 → Hp → Option (Int32 × Hp)) (x1 : Int32) (x3 : Int32) (x4 : Int32) (t0 : Int32) (h : Hp) : Option (Int32 × Hp) :=
  bnd (x1 ||| (shl x4 x3)) fun x1_1 =>
  q_34 x1_1 t0 (x3 + 1) h
noncomputable def S_X10_takeDays_34 (q_34 : Int32 → Int32 → Int32 → Hp → Option (Int32 × Hp)) (x1 : Int32) (x2 : Int32) (x3 : Int32) (h : Hp) : Option (Int32 × Hp) :=
  if x2 = 0 then
    F_X10_takeDays_89 x1 x2 h
  else
    if x3 < 7 then
      Option.bind (f_X10_byteAt ((h 2 3) + x3) h) fun r_3 =>
      if (r_3 - 48) = 0 then
        F_X10_takeDays_75 q_34 x1 x3 (r_3 - 48) 1 h
      else
        if (r_3 - 48) = 1 then
          F_X10_takeDays_75 q_34 x1 x3 (r_3 - 48) 1 h
        else
          F_X10_takeDays_75 q_34 x1 x3 (r_3 - 48) 0 h
    else
      F_X10_takeDays_89 x1 x2 h
noncomputable def F_X10_takeDays_34 (n : Nat) : Int32 → Int32 → Int32 → Hp → Option (Int32 × Hp) :=
  Nat.rec (motive := fun _ => Int32 → Int32 → Int32 → Hp → Option (Int32 × Hp)) (fun _ _ _ _ => none) (fun _ q => S_X10_takeDays_34 q) n
noncomputable def f_X10_takeDays (h : Hp) : Option (Int32 × Hp) :=
  if (h 2 5) = 257 then
    if ((h 2 4) - (h 2 3)) = 7 then
      F_X10_takeDays_34 FU 0 1 0 h
    else
      F_X10_takeDays_34 FU 0 0 0 h
  else
    F_X10_takeDays_34 FU 0 0 0 h
/-! LeanCity$CityReader.readPerson (LLeanCity$Tape;LLeanCity$City;)Z -/
noncomputable def F_X2_readPerson_72 (k1 : Nat) (x2 : Int32) (x3 : Int32) (t0 : Int32) (h : Hp) : Option (Bool × Hp) :=
  if t0 = (-1) then
    some (false, h)
  else
    Option.bind (f_X1_addPerson k1 x2 x3 t0 h) fun r_2 =>
    if r_2.1 then
      some (true, r_2.2)
    else
      some (false, r_2.2)
noncomputable def F_X2_readPerson_46 (k1 : Nat) (x2 : Int32) (t0 : Int32) (h : Hp) : Option (Bool × Hp) :=
  if t0 = (-1) then
    some (false, h)
  else
    Option.bind (f_X10_takes 1007 h) fun r_2 =>
    if r_2.1 then
      Option.bind (f_X10_takeDays r_2.2) fun r_5 =>
      F_X2_readPerson_72 k1 x2 t0 r_5.1 r_5.2
    else
      F_X2_readPerson_72 k1 x2 t0 127 r_2.2
noncomputable def F_X2_readPerson_18 (k1 : Nat) (t0 : Int32) (h : Hp) : Option (Bool × Hp) :=
  if t0 = (-1) then
    some (false, h)
  else
    Option.bind (f_X10_needs 1006 h) fun r_2 =>
    if r_2.1 then
      Option.bind (f_X10_takeNumber 0 99 r_2.2) fun r_5 =>
      F_X2_readPerson_46 k1 t0 r_5.1 r_5.2
    else
      F_X2_readPerson_46 k1 t0 (-1) r_2.2
noncomputable def f_X2_readPerson (k1 : Nat) (h : Hp) : Option (Bool × Hp) :=
  Option.bind (f_X10_needs 1005 h) fun r_1 =>
  if r_1.1 then
    Option.bind (f_X2_readStanding k1 r_1.2) fun r_4 =>
    F_X2_readPerson_18 k1 r_4.1 r_4.2
  else
    F_X2_readPerson_18 k1 (-1) r_1.2
/-! LeanCity$CityReader.readLean (LLeanCity$Tape;LLeanCity$City;)Z -/
noncomputable def F_X2_readLean_65 (k1 : Nat) (x2 : Int32) (x4 : Int32) (t0 : Int32) (h : Hp) : Option (Bool × Hp) :=
  if t0 = (-1) then
    some (false, h)
  else
    Option.bind (f_X1_setPart k1 x2 x4 t0 h) fun r_2 =>
    some (true, r_2)
noncomputable def f_X2_readLean (k1 : Nat) (h : Hp) : Option (Bool × Hp) :=
  Option.bind (f_X2_readStanding k1 h) fun r_1 =>
  if r_1.1 = (-1) then
    some (false, r_1.2)
  else
    bnd (r_1.2 2 3) fun x3_4 =>
    Option.bind (f_X2_readStanding k1 r_1.2) fun r_6 =>
    if r_6.1 = (-1) then
      some (false, r_6.2)
    else
      if r_6.1 = r_1.1 then
        Option.bind (f_X10_failAt x3_4 r_6.2) fun r_10 =>
        some (r_10.1, r_10.2)
      else
        Option.bind (f_X10_needs 1008 r_6.2) fun r_12 =>
        if r_12.1 then
          Option.bind (f_X10_takeNumber 0 9 r_12.2) fun r_15 =>
          F_X2_readLean_65 k1 r_1.1 r_6.1 r_15.1 r_15.2
        else
          F_X2_readLean_65 k1 r_1.1 r_6.1 (-1) r_12.2
/-! LeanCity$CityReader.readLine (LLeanCity$Tape;LLeanCity$City;)Z -/
noncomputable def f_X2_readLine (k1 : Nat) (h : Hp) : Option (Bool × Hp) :=
  Option.bind (f_X10_take 1000 h) fun r_1 =>
  if r_1.1 = 0 then
    if (r_1.2 k1 9) < 8 then
      Option.bind (f_X2_readHouse k1 r_1.2) fun r_5 =>
      some (r_5.1, r_5.2)
    else
      Option.bind (f_X10_failAt (h 2 3) r_1.2) fun r_7 =>
      some (r_7.1, r_7.2)
  else if r_1.1 = 1 then
    if (r_1.2 k1 10) < 6 then
      Option.bind (f_X2_readPerson k1 r_1.2) fun r_11 =>
      some (r_11.1, r_11.2)
    else
      Option.bind (f_X10_failAt (h 2 3) r_1.2) fun r_13 =>
      some (r_13.1, r_13.2)
  else if r_1.1 = 2 then
    Option.bind (f_X2_readLean k1 r_1.2) fun r_16 =>
    some (r_16.1, r_16.2)
  else if r_1.1 = 3 then
    Option.bind (f_X10_takeNumber 0 100 r_1.2) fun r_19 =>
    bnd (up1 r_19.2 k1 14 r_19.1) fun h_21 =>
    if (h_21 k1 14) = (-1) then
      some (false, h_21)
    else
      some (true, h_21)
  else if r_1.1 = 4 then
    Option.bind (f_X10_takeNumber 1 99 r_1.2) fun r_25 =>
    bnd (up1 r_25.2 k1 15 r_25.1) fun h_27 =>
    if (h_27 k1 15) = (-1) then
      some (false, h_27)
    else
      some (true, h_27)
  else if r_1.1 = 5 then
    Option.bind (f_X10_takeNumber 0 6 r_1.2) fun r_31 =>
    bnd (up1 r_31.2 k1 12 r_31.1) fun h_33 =>
    if (h_33 k1 12) = (-1) then
      some (false, h_33)
    else
      some (true, h_33)
  else if r_1.1 = 6 then
    Option.bind (f_X10_takeNumber 0 999 r_1.2) fun r_37 =>
    bnd (up1 r_37.2 k1 13 r_37.1) fun h_39 =>
    if (h_39 k1 13) = (-1) then
      some (false, h_39)
    else
      some (true, h_39)
  else 
    Option.bind (f_X10_fail r_1.2) fun r_42 =>
    some (r_42.1, r_42.2)
/-! LeanCity$Tape.takesSign (C)Z -/
noncomputable def f_X10_takesSign (x1 : Int32) (h : Hp) : Option (Bool × Hp) :=
  if (h 2 5) = x1 then
    Option.bind (f_X10_step h) fun r_2 =>
    some (true, r_2)
  else
    some (false, h)
/-! LeanCity$CityReader.read (LLeanCity$Tape;LLeanCity$City;)Z -/
noncomputable def S_X2_read_15 (k1 : Nat) (q_15 : Int32 → Hp → Option (Bool × Hp)) (x2 : Int32) (h : Hp) : Option (Bool × Hp) :=
  if x2 < 14 then
    Option.bind (f_X2_readLine k1 h) fun r_2 =>
    if r_2.1 then
      if (f_X10_isDone r_2.2) then
        some (true, r_2.2)
      else
        Option.bind (f_X10_takesSign 59 r_2.2) fun r_6 =>
        if r_6.1 then
          q_15 (x2 + 1) r_6.2
        else
          Option.bind (f_X10_fail r_6.2) fun r_9 =>
          some (r_9.1, r_9.2)
    else
      some (false, r_2.2)
  else
    Option.bind (f_X10_fail h) fun r_11 =>
    some (r_11.1, r_11.2)
noncomputable def F_X2_read_15 (k1 : Nat) (n : Nat) : Int32 → Hp → Option (Bool × Hp) :=
  Nat.rec (motive := fun _ => Int32 → Hp → Option (Bool × Hp)) (fun _ _ => none) (fun _ q => S_X2_read_15 k1 q) n
noncomputable def f_X2_read (k1 : Nat) (h : Hp) : Option (Bool × Hp) :=
  Option.bind (f_X10_open h) fun r_1 =>
  if (f_X10_isDone r_1) then
    some (true, r_1)
  else
    F_X2_read_15 k1 FU 0 r_1
/-! LeanCity$Strain.countHelp (LLeanCity$City;I)V -/
noncomputable def S_X9_countHelp_28 (k1 : Nat) (x2 : Int32) (q_28 : Int32 → Hp → Option Hp) (x3 : Int32) (h : Hp) : Option Hp :=
  if x3 < 6 then
    Option.bind (f_X1_placeOf k1 x3 h) fun r_2 =>
    if (f_X1_isUp k1 r_2 h) then
      Option.bind (f_X1_isThere k1 x3 x2 h) fun r_5 =>
      if r_5 then
        gd (ix r_2 8) (
        Option.bind (f_X1_holdOf k1 x3 h) fun r_9 =>
        gd (ix r_2 8) (
        bnd (up1 h 13 r_2.toNatClampNeg ((h 13 r_2.toNatClampNeg) + r_9)) fun h_12 =>
        bnd (up1 h_12 5 10 ((h_12 5 10) ||| (shl 1 r_2))) fun h_14 =>
        q_28 (x3 + 1) h_14))
      else
        q_28 (x3 + 1) h
    else
      q_28 (x3 + 1) h
  else
    some h
noncomputable def F_X9_countHelp_28 (k1 : Nat) (x2 : Int32) (n : Nat) : Int32 → Hp → Option Hp :=
  Nat.rec (motive := fun _ => Int32 → Hp → Option Hp) (fun _ _ => none) (fun _ q => S_X9_countHelp_28 k1 x2 q) n
noncomputable def S_X9_countHelp_7 (k1 : Nat) (x2 : Int32) (q_7 : Int32 → Hp → Option Hp) (x3 : Int32) (h : Hp) : Option Hp :=
  if x3 < 8 then
    gd (ix x3 8) (
    bnd (up1 h 13 x3.toNatClampNeg 0) fun h_3 =>
    q_7 (x3 + 1) h_3)
  else
    F_X9_countHelp_28 k1 x2 FU 0 h
noncomputable def F_X9_countHelp_7 (k1 : Nat) (x2 : Int32) (n : Nat) : Int32 → Hp → Option Hp :=
  Nat.rec (motive := fun _ => Int32 → Hp → Option Hp) (fun _ _ => none) (fun _ q => S_X9_countHelp_7 k1 x2 q) n
noncomputable def f_X9_countHelp (k1 : Nat) (x2 : Int32) (h : Hp) : Option Hp :=
  bnd (up1 h 5 10 0) fun h_1 =>
  F_X9_countHelp_7 k1 x2 FU 0 h_1
/-! LeanCity$Strain.noteFacts (LLeanCity$City;II)V -/
noncomputable def F_X9_noteFacts_91 (x2 : Int32) (t0 : Int32) (t1 : Int32) (h : Hp) : Option Hp :=
  gd (ix t1 9) (
  bnd (up1 h 14 t1.toNatClampNeg t0) fun h_2 =>
  bnd (up1 h_2 14 7 ((shr (h_2 5 9) x2) &&& 1)) fun h_4 =>
  bnd (up1 h_4 14 8 ((shr (h_4 5 10) x2) &&& 1)) fun h_6 =>
  some h_6)
noncomputable def f_X9_noteFacts (k1 : Nat) (x2 : Int32) (x3 : Int32) (h : Hp) : Option Hp :=
  if (f_X1_isHouse k1 x2 h) then
    bnd (up1 h 14 0 x2) fun h_2 =>
    gd (ix x2 8) (
    bnd (up1 h_2 14 1 (h_2 (k1 + 1) x2.toNatClampNeg)) fun h_5 =>
    gd (ix x2 8) (
    bnd (up1 h_5 14 2 (h_5 (k1 + 3) x2.toNatClampNeg)) fun h_8 =>
    gd (ix x2 8) (
    bnd (up1 h_8 14 3 (h_8 (k1 + 4) x2.toNatClampNeg)) fun h_11 =>
    bnd (up1 h_11 14 4 x3) fun h_13 =>
    gd (ix x2 8) (
    bnd (up1 h_13 14 5 (h_13 6 x2.toNatClampNeg)) fun h_16 =>
    gd (ix x2 8) (
    if 0 < (h_16 12 x2.toNatClampNeg) then
      F_X9_noteFacts_91 x2 1 6 h_16
    else
      F_X9_noteFacts_91 x2 0 6 h_16)))))
  else
    some h
/-! LeanCity$Law.joined (III)I -/
noncomputable def f_X4_joined (x0 : Int32) (x1 : Int32) (x2 : Int32) (h : Hp) : Int32 :=
  if x0 = 11 then
    (x1 + x2)
  else if x0 = 12 then
    if x1 < x2 then
      1
    else
      0
  else if x0 = 13 then
    if x2 < x1 then
      1
    else
      0
  else if x0 = 14 then
    (x1 &&& x2)
  else 
    (x1 ||| x2)
/-! LeanCity$Law.holds (II[I)Z -/
noncomputable def F_X4_holds_184 (k0 : Nat) (x4 : Int32) (h : Hp) : Option (Bool × Hp) :=
  if x4 = 0 then
    some (true, h)
  else
    if (h (k0 + 7) 0) = 0 then
      some (false, h)
    else
      some (true, h)
noncomputable def F_X4_holds_174 (q_6 : Int32 → Int32 → Hp → Option (Bool × Hp)) (k0 : Nat) (x2 : Int32) (x4 : Int32) (x5 : Int32) (t0 : Int32) (t1 : Int32) (h : Hp) : Option (Bool × Hp) :=
  gd (ix t1 32) (
  bnd (up1 h (k0 + 7) t1.toNatClampNeg t0) fun h_2 =>
  q_6 (x4 + 1) (x5 + 1) h_2)
noncomputable def F_X4_holds_167 (q_6 : Int32 → Int32 → Hp → Option (Bool × Hp)) (k0 : Nat) (x2 : Int32) (x4 : Int32) (x5 : Int32) (t0 : Int32) (h : Hp) : Option (Bool × Hp) :=
  gd (ix x5 400) (
  F_X4_holds_174 q_6 k0 x2 x4 x5 (h (k0 + 6) x5.toNatClampNeg) t0 h)
noncomputable def S_X4_holds_6 (k0 : Nat) (x2 : Int32) (q_6 : Int32 → Int32 → Hp → Option (Bool × Hp)) (x4 : Int32) (x5 : Int32) (h : Hp) : Option (Bool × Hp) :=
  if x5 < 0 then
    F_X4_holds_184 k0 x4 h
  else
    if x5 < x2 then
      if x5 < 400 then
        gd (ix x5 400) (
        bnd (h (k0 + 5) x5.toNatClampNeg) fun x6_5 =>
        if x6_5 = 10 then
          if x4 < 1 then
            q_6 x4 (x5 + 1) h
          else
            if 32 < x4 then
              q_6 x4 (x5 + 1) h
            else
              gd (ix (x4 - 1) 32) (
              gd (ix (x4 - 1) 32) (
              bnd (up1 h (k0 + 7) ((x4 - 1).toNatClampNeg) (1 - (h (k0 + 7) ((x4 - 1).toNatClampNeg)))) fun h_12 =>
              q_6 x4 (x5 + 1) h_12))
        else
          if 10 < x6_5 then
            if x4 < 2 then
              q_6 x4 (x5 + 1) h
            else
              if 32 < x4 then
                q_6 x4 (x5 + 1) h
              else
                gd (ix (x4 - 2) 32) (
                gd (ix (x4 - 1) 32) (
                gd (ix (x4 - 2) 32) (
                bnd (up1 h (k0 + 7) ((x4 - 2).toNatClampNeg) (f_X4_joined x6_5 (h (k0 + 7) ((x4 - 2).toNatClampNeg)) (h (k0 + 7) ((x4 - 1).toNatClampNeg)) h)) fun h_20 =>
                q_6 (x4 + (-1)) (x5 + 1) h_20)))
          else
            if x4 < 32 then
              if x6_5 < 0 then
                F_X4_holds_167 q_6 k0 x2 x4 x5 x4 h
              else
                if x6_5 < 9 then
                  gd (ix x6_5 9) (
                  F_X4_holds_174 q_6 k0 x2 x4 x5 (h 14 x6_5.toNatClampNeg) x4 h)
                else
                  F_X4_holds_167 q_6 k0 x2 x4 x5 x4 h
            else
              q_6 x4 (x5 + 1) h)
      else
        F_X4_holds_184 k0 x4 h
    else
      F_X4_holds_184 k0 x4 h
noncomputable def F_X4_holds_6 (k0 : Nat) (x2 : Int32) (n : Nat) : Int32 → Int32 → Hp → Option (Bool × Hp) :=
  Nat.rec (motive := fun _ => Int32 → Int32 → Hp → Option (Bool × Hp)) (fun _ _ _ => none) (fun _ q => S_X4_holds_6 k0 x2 q) n
noncomputable def f_X4_holds (k0 : Nat) (x1 : Int32) (x2 : Int32) (h : Hp) : Option (Bool × Hp) :=
  F_X4_holds_6 k0 x2 FU 0 x1 h
/-! LeanCity$Law.sumOf (I[I)I -/
noncomputable def S_X4_sumOf_5 (k0 : Nat) (x1 : Int32) (q_5 : Int32 → Int32 → Hp → Option (Int32 × Hp)) (x3 : Int32) (x4 : Int32) (h : Hp) : Option (Int32 × Hp) :=
  if x4 < (h k0 8) then
    if x4 < 12 then
      gd (ix x4 12) (
      if (h (k0 + 1) x4.toNatClampNeg) = x1 then
        gd (ix x4 12) (
        gd (ix x4 12) (
        Option.bind (f_X4_holds k0 (h (k0 + 3) x4.toNatClampNeg) (h (k0 + 4) x4.toNatClampNeg) h) fun r_7 =>
        if r_7.1 then
          gd (ix x4 12) (
          bnd (x3 + (r_7.2 (k0 + 2) x4.toNatClampNeg)) fun x3_11 =>
          q_5 x3_11 (x4 + 1) r_7.2)
        else
          q_5 x3 (x4 + 1) r_7.2))
      else
        q_5 x3 (x4 + 1) h)
    else
      some (x3, h)
  else
    some (x3, h)
noncomputable def F_X4_sumOf_5 (k0 : Nat) (x1 : Int32) (n : Nat) : Int32 → Int32 → Hp → Option (Int32 × Hp) :=
  Nat.rec (motive := fun _ => Int32 → Int32 → Hp → Option (Int32 × Hp)) (fun _ _ _ => none) (fun _ q => S_X4_sumOf_5 k0 x1 q) n
noncomputable def f_X4_sumOf (k0 : Nat) (x1 : Int32) (h : Hp) : Option (Int32 × Hp) :=
  F_X4_sumOf_5 k0 x1 FU 0 0 h
/-! LeanCity$Strain.measure (LLeanCity$City;LLeanCity$Law;I)V -/
noncomputable def F_X9_measure_104 (q_14 : Int32 → Hp → Option Hp) (k1 : Nat) (k2 : Nat) (x3 : Int32) (x4 : Int32) (t0 : Int32) (t1 : Int32) (t2 : Int32) (h : Hp) : Option Hp :=
  gd (ix t2 8) (
  bnd (up1 h 7 t2.toNatClampNeg (t1 + t0)) fun h_2 =>
  gd (ix x4 8) (
  gd (ix x4 8) (
  gd (ix x4 8) (
  Option.bind (f_X4_sumOf k2 0 h_2) fun r_7 =>
  Option.bind (f_X4_sumOf k2 1 r_7.2) fun r_9 =>
  gd (ix x4 8) (
  bnd (up1 r_9.2 8 x4.toNatClampNeg (imax 0 (((((h_2 (k1 + 2) x4.toNatClampNeg) + (h_2 (k1 + 3) x4.toNatClampNeg)) + (h_2 13 x4.toNatClampNeg)) + r_7.1) - r_9.1))) fun h_12 =>
  gd (ix x4 8) (
  gd (ix x4 8) (
  gd (ix x4 8) (
  bnd (up1 h_12 9 x4.toNatClampNeg ((h_12 7 x4.toNatClampNeg) - (h_12 8 x4.toNatClampNeg))) fun h_17 =>
  Option.bind (f_X4_sumOf k2 2 h_17) fun r_19 =>
  gd (ix x4 8) (
  bnd (up1 r_19.2 10 x4.toNatClampNeg r_19.1) fun h_22 =>
  q_14 (x4 + 1) h_22)))))))))
noncomputable def S_X9_measure_14 (k1 : Nat) (k2 : Nat) (x3 : Int32) (q_14 : Int32 → Hp → Option Hp) (x4 : Int32) (h : Hp) : Option Hp :=
  if x4 < 8 then
    gd (ix x4 8) (
    bnd (up1 h 7 x4.toNatClampNeg 0) fun h_3 =>
    gd (ix x4 8) (
    bnd (up1 h_3 8 x4.toNatClampNeg 0) fun h_6 =>
    gd (ix x4 8) (
    bnd (up1 h_6 9 x4.toNatClampNeg 0) fun h_9 =>
    gd (ix x4 8) (
    bnd (up1 h_9 10 x4.toNatClampNeg 0) fun h_12 =>
    if (f_X1_isUp k1 x4 h_12) then
      Option.bind (f_X9_noteFacts k1 x4 x3 h_12) fun r_15 =>
      gd (ix x4 8) (
      gd (ix x4 8) (
      if (r_15 12 x4.toNatClampNeg) = 0 then
        gd (ix x4 8) (
        F_X9_measure_104 q_14 k1 k2 x3 x4 (r_15 (k1 + 1) x4.toNatClampNeg) (r_15 6 x4.toNatClampNeg) x4 r_15)
      else
        F_X9_measure_104 q_14 k1 k2 x3 x4 0 (r_15 6 x4.toNatClampNeg) x4 r_15))
    else
      q_14 (x4 + 1) h_12))))
  else
    some h
noncomputable def F_X9_measure_14 (k1 : Nat) (k2 : Nat) (x3 : Int32) (n : Nat) : Int32 → Hp → Option Hp :=
  Nat.rec (motive := fun _ => Int32 → Hp → Option Hp) (fun _ _ => none) (fun _ q => S_X9_measure_14 k1 k2 x3 q) n
noncomputable def f_X9_measure (k1 : Nat) (k2 : Nat) (x3 : Int32) (h : Hp) : Option Hp :=
  Option.bind (f_X9_measurePress k1 h) fun r_1 =>
  Option.bind (f_X9_countHelp k1 x3 r_1) fun r_3 =>
  F_X9_measure_14 k1 k2 x3 FU 0 r_3
/-! LeanCity$Strain.saggingSet ()I -/
noncomputable def F_X9_saggingSet_27 (q_4 : Int32 → Int32 → Option Int32) (h : Hp) (x2 : Int32) (t0 : Int32) (t1 : Int32) : Option Int32 :=
  bnd (t1 ||| t0) fun x1_1 =>
  q_4 x1_1 (x2 + 1)
noncomputable def S_X9_saggingSet_4 (h : Hp) (q_4 : Int32 → Int32 → Option Int32) (x1 : Int32) (x2 : Int32) : Option Int32 :=
  if x2 < 8 then
    gd (ix x2 8) (
    if 0 < (h 9 x2.toNatClampNeg) then
      F_X9_saggingSet_27 q_4 h x2 (shl 1 x2) x1
    else
      F_X9_saggingSet_27 q_4 h x2 0 x1)
  else
    some x1
noncomputable def F_X9_saggingSet_4 (h : Hp) (n : Nat) : Int32 → Int32 → Option Int32 :=
  Nat.rec (motive := fun _ => Int32 → Int32 → Option Int32) (fun _ _ => none) (fun _ q => S_X9_saggingSet_4 h q) n
noncomputable def f_X9_saggingSet (h : Hp) : Option Int32 :=
  F_X9_saggingSet_4 h FU 0 0
/-! LeanCity$Log.set (III)V -/
noncomputable def f_X6_set (k0 : Nat) (x1 : Int32) (x2 : Int32) (x3 : Int32) (h : Hp) : Option Hp :=
  bnd ((x1 * 6) + x2) fun x4_1 =>
  if x4_1 < 0 then
    some h
  else
    if x4_1 < 360 then
      gd (ix x4_1 360) (
      bnd (up1 h (k0 + 1) x4_1.toNatClampNeg x3) fun h_6 =>
      some h_6)
    else
      some h
/-! LeanCity$Log.add (IIIIII)V -/
noncomputable def F_X6_add_32 (k0 : Nat) (x1 : Int32) (x2 : Int32) (x3 : Int32) (x4 : Int32) (x5 : Int32) (x6 : Int32) (h : Hp) : Option Hp :=
  bnd (up1 h k0 1 ((h k0 1) + 1)) fun h_1 =>
  Option.bind (f_X6_set k0 (h k0 1) 0 x1 h_1) fun r_3 =>
  Option.bind (f_X6_set k0 (h k0 1) 1 x2 r_3) fun r_5 =>
  Option.bind (f_X6_set k0 (h k0 1) 2 x3 r_5) fun r_7 =>
  Option.bind (f_X6_set k0 (h k0 1) 3 x4 r_7) fun r_9 =>
  Option.bind (f_X6_set k0 (h k0 1) 4 x5 r_9) fun r_11 =>
  Option.bind (f_X6_set k0 (h k0 1) 5 x6 r_11) fun r_13 =>
  some r_13
noncomputable def f_X6_add (k0 : Nat) (x1 : Int32) (x2 : Int32) (x3 : Int32) (x4 : Int32) (x5 : Int32) (x6 : Int32) (h : Hp) : Option Hp :=
  if (h k0 1) < 60 then
    F_X6_add_32 k0 x1 x2 x3 x4 x5 x6 h
  else
    bnd (upA h (k0 + 1) (va_cpy (h (k0 + 1)) (h (k0 + 1)) 6 0 354)) fun h_2 =>
    bnd (up1 h_2 k0 1 59) fun h_4 =>
    F_X6_add_32 k0 x1 x2 x3 x4 x5 x6 h_4
/-! LeanCity$Course.fell (LLeanCity$City;II)V -/
noncomputable def S_X3_fell_3 (k1 : Nat) (x2 : Int32) (x3 : Int32) (q_3 : Int32 → Hp → Option Hp) (x4 : Int32) (h : Hp) : Option Hp :=
  if x4 < 8 then
    if ((shr x2 x4) &&& 1) = 1 then
      gd (ix x4 8) (
      Option.bind (f_X6_add (k1 + 9) (h k1 13) x3 x4 (h 4 1) (h 9 x4.toNatClampNeg) 0 h) fun r_4 =>
      Option.bind (f_X1_takeDown k1 x4 r_4) fun r_6 =>
      q_3 (x4 + 1) r_6)
    else
      q_3 (x4 + 1) h
  else
    some h
noncomputable def F_X3_fell_3 (k1 : Nat) (x2 : Int32) (x3 : Int32) (n : Nat) : Int32 → Hp → Option Hp :=
  Nat.rec (motive := fun _ => Int32 → Hp → Option Hp) (fun _ _ => none) (fun _ q => S_X3_fell_3 k1 x2 x3 q) n
noncomputable def f_X3_fell (k1 : Nat) (x2 : Int32) (x3 : Int32) (h : Hp) : Option Hp :=
  F_X3_fell_3 k1 x2 x3 FU 0 h
/-! LeanCity$Course.fall (LLeanCity$City;LLeanCity$Law;I)I -/
noncomputable def S_X3_fall_11 (k1 : Nat) (k2 : Nat) (x3 : Int32) (q_11 : Int32 → Int32 → Hp → Option (Int32 × Hp)) (x4 : Int32) (x5 : Int32) (h : Hp) : Option (Int32 × Hp) :=
  if 8 < x5 then
    some (x4, h)
  else
    Option.bind (f_X9_measure k1 k2 x3 h) fun r_2 =>
    Option.bind (f_X9_saggingSet r_2) fun r_4 =>
    if r_4 = 0 then
      some (x4, r_2)
    else
      bnd (up1 r_2 4 1 ((r_2 4 1) + 1)) fun h_7 =>
      bnd (x4 ||| r_4) fun x4_9 =>
      Option.bind (f_X3_fell k1 r_4 x3 h_7) fun r_11 =>
      q_11 x4_9 (x5 + 1) r_11
noncomputable def F_X3_fall_11 (k1 : Nat) (k2 : Nat) (x3 : Int32) (n : Nat) : Int32 → Int32 → Hp → Option (Int32 × Hp) :=
  Nat.rec (motive := fun _ => Int32 → Int32 → Hp → Option (Int32 × Hp)) (fun _ _ _ => none) (fun _ q => S_X3_fall_11 k1 k2 x3 q) n
noncomputable def f_X3_fall (k1 : Nat) (k2 : Nat) (x3 : Int32) (h : Hp) : Option (Int32 × Hp) :=
  bnd (up1 h 4 1 0) fun h_1 =>
  F_X3_fall_11 k1 k2 x3 FU 0 0 h_1
/-! LeanCity$Course.growAll (LLeanCity$City;)V -/
noncomputable def S_X3_growAll_2 (k1 : Nat) (q_2 : Int32 → Hp → Option Hp) (x2 : Int32) (h : Hp) : Option Hp :=
  if x2 < 8 then
    if (f_X1_isUp k1 x2 h) then
      gd (ix x2 8) (
      gd (ix x2 8) (
      gd (ix x2 8) (
      bnd (up1 h (k1 + 3) x2.toNatClampNeg (imin 9 ((h (k1 + 3) x2.toNatClampNeg) + (h 10 x2.toNatClampNeg)))) fun h_6 =>
      if (h_6 k1 12) = 0 then
        gd (ix x2 8) (
        gd (ix x2 8) (
        bnd (up1 h_6 (k1 + 4) x2.toNatClampNeg (imin 99 ((h_6 (k1 + 4) x2.toNatClampNeg) + 1))) fun h_11 =>
        q_2 (x2 + 1) h_11))
      else
        q_2 (x2 + 1) h_6)))
    else
      q_2 (x2 + 1) h
  else
    some h
noncomputable def F_X3_growAll_2 (k1 : Nat) (n : Nat) : Int32 → Hp → Option Hp :=
  Nat.rec (motive := fun _ => Int32 → Hp → Option Hp) (fun _ _ => none) (fun _ q => S_X3_growAll_2 k1 q) n
noncomputable def f_X3_growAll (k1 : Nat) (h : Hp) : Option Hp :=
  F_X3_growAll_2 k1 FU 0 h
/-! java/lang/Integer.bitCount (I)I -/
noncomputable def f_J6_bitCount_0f7a4 (x0 : Int32) (h : Hp) : Int32 :=
  bnd (x0 - ((ushr x0 1) &&& 1431655765)) fun x0_1 =>
  bnd ((x0_1 &&& 858993459) + ((ushr x0_1 2) &&& 858993459)) fun x0_3 =>
  bnd ((x0_3 + (ushr x0_3 4)) &&& 252645135) fun x0_5 =>
  bnd (x0_5 + (ushr x0_5 8)) fun x0_7 =>
  bnd (x0_7 + (ushr x0_7 16)) fun x0_9 =>
  (x0_9 &&& 63)
/-! LeanCity$Course.wanderAll (LLeanCity$City;)V -/
noncomputable def S_X3_wanderAll_10 (k0 : Nat) (x1 : Int32) (q_10 : Int32 → Hp → Option Hp) (x2 : Int32) (h : Hp) : Option Hp :=
  if x2 < 6 then
    if 0 < x1 then
      Option.bind (f_X1_placeOf k0 x2 h) fun r_3 =>
      if r_3 = (-1) then
        q_10 (x2 + 1) h
      else
        Option.bind (f_X1_draw k0 h) fun r_6 =>
        if (rem r_6.1 100) < (r_6.2 k0 14) then
          Option.bind (f_X1_draw k0 r_6.2) fun r_9 =>
          gd (¬ x1 = 0) (
          Option.bind (f_X1_upAt k0 (rem r_9.1 x1) r_9.2) fun r_12 =>
          Option.bind (f_X1_put k0 x2 r_12 r_9.2) fun r_14 =>
          q_10 (x2 + 1) r_14)
        else
          q_10 (x2 + 1) r_6.2
    else
      q_10 (x2 + 1) h
  else
    some h
noncomputable def F_X3_wanderAll_10 (k0 : Nat) (x1 : Int32) (n : Nat) : Int32 → Hp → Option Hp :=
  Nat.rec (motive := fun _ => Int32 → Hp → Option Hp) (fun _ _ => none) (fun _ q => S_X3_wanderAll_10 k0 x1 q) n
noncomputable def f_X3_wanderAll (k0 : Nat) (h : Hp) : Option Hp :=
  bnd (f_J6_bitCount_0f7a4 (h k0 11) h) fun x1_1 =>
  F_X3_wanderAll_10 k0 x1_1 FU 0 h
/-! LeanCity$Course.pass (LLeanCity$City;LLeanCity$Law;Z)V -/
noncomputable def F_X3_pass_24 (k1 : Nat) (h : Hp) : Option Hp :=
  bnd (up1 h k1 12 ((h k1 12) + 1)) fun h_1 =>
  if (h_1 k1 12) < 7 then
    some h_1
  else
    bnd (up1 h_1 k1 12 0) fun h_4 =>
    bnd (up1 h_4 k1 13 (imin 9999 ((h_4 k1 13) + 1))) fun h_6 =>
    some h_6
noncomputable def f_X3_pass (k1 : Nat) (k2 : Nat) (x3 : Int32) (h : Hp) : Option Hp :=
  Option.bind (f_X3_fall k1 k2 (h k1 12) h) fun r_1 =>
  Option.bind (f_X3_growAll k1 r_1.2) fun r_3 =>
  if x3 = 0 then
    F_X3_pass_24 k1 r_3
  else
    Option.bind (f_X3_wanderAll k1 r_3) fun r_6 =>
    F_X3_pass_24 k1 r_6
/-! LeanCity$Course.run (LLeanCity$City;LLeanCity$Law;IZ)V -/
noncomputable def S_X3_run_3 (k1 : Nat) (k2 : Nat) (x3 : Int32) (x4 : Int32) (q_3 : Int32 → Hp → Option Hp) (x5 : Int32) (h : Hp) : Option Hp :=
  if x5 < x3 then
    if x5 < 70 then
      Option.bind (f_X3_pass k1 k2 x4 h) fun r_3 =>
      q_3 (x5 + 1) r_3
    else
      some h
  else
    some h
noncomputable def F_X3_run_3 (k1 : Nat) (k2 : Nat) (x3 : Int32) (x4 : Int32) (n : Nat) : Int32 → Hp → Option Hp :=
  Nat.rec (motive := fun _ => Int32 → Hp → Option Hp) (fun _ _ => none) (fun _ q => S_X3_run_3 k1 k2 x3 x4 q) n
noncomputable def f_X3_run (k1 : Nat) (k2 : Nat) (x3 : Int32) (x4 : Int32) (h : Hp) : Option Hp :=
  F_X3_run_3 k1 k2 x3 x4 FU 0 h
/-! LeanCity$Law.copyFrom (LLeanCity$Law;)V -/
noncomputable def f_X4_copyFrom (k0 : Nat) (k1 : Nat) (h : Hp) : Option Hp :=
  bnd (up1 h k0 8 (h k1 8)) fun h_1 =>
  bnd (up1 h_1 k0 7 (h_1 k1 7)) fun h_3 =>
  bnd (upA h_3 (k0 + 1) (va_cpy (h_3 (k1 + 1)) (h_3 (k0 + 1)) 0 0 12)) fun h_5 =>
  bnd (upA h_5 (k0 + 2) (va_cpy (h_5 (k1 + 2)) (h_5 (k0 + 2)) 0 0 12)) fun h_7 =>
  bnd (upA h_7 (k0 + 3) (va_cpy (h_7 (k1 + 3)) (h_7 (k0 + 3)) 0 0 12)) fun h_9 =>
  bnd (upA h_9 (k0 + 4) (va_cpy (h_9 (k1 + 4)) (h_9 (k0 + 4)) 0 0 12)) fun h_11 =>
  bnd (upA h_11 (k0 + 5) (va_cpy (h_11 (k1 + 5)) (h_11 (k0 + 5)) 0 0 400)) fun h_13 =>
  bnd (upA h_13 (k0 + 6) (va_cpy (h_13 (k1 + 6)) (h_13 (k0 + 6)) 0 0 400)) fun h_15 =>
  some h_15
/-! LeanCity$Law.clear ()V -/
noncomputable def f_X4_clear (k0 : Nat) (h : Hp) : Option Hp :=
  bnd (up1 h k0 8 0) fun h_1 =>
  bnd (up1 h_1 k0 7 0) fun h_3 =>
  some h_3
/-! LeanCity$Law.openLine (II)V -/
noncomputable def f_X4_openLine (k0 : Nat) (x1 : Int32) (x2 : Int32) (h : Hp) : Option Hp :=
  if (h k0 8) < 0 then
    some h
  else
    if (h k0 8) < 12 then
      gd (ix (h k0 8) 12) (
      bnd (up1 h (k0 + 1) ((h k0 8).toNatClampNeg) x1) fun h_4 =>
      gd (ix (h_4 k0 8) 12) (
      bnd (up1 h_4 (k0 + 2) ((h_4 k0 8).toNatClampNeg) x2) fun h_7 =>
      gd (ix (h_7 k0 8) 12) (
      bnd (up1 h_7 (k0 + 3) ((h_7 k0 8).toNatClampNeg) (h_7 k0 7)) fun h_10 =>
      some h_10)))
    else
      some h
/-! LeanCity$Law.closeLine ()V -/
noncomputable def f_X4_closeLine (k0 : Nat) (h : Hp) : Option Hp :=
  if (h k0 8) < 0 then
    some h
  else
    if (h k0 8) < 12 then
      gd (ix (h k0 8) 12) (
      bnd (up1 h (k0 + 4) ((h k0 8).toNatClampNeg) (h k0 7)) fun h_4 =>
      bnd (up1 h_4 k0 8 ((h_4 k0 8) + 1)) fun h_6 =>
      some h_6)
    else
      some h
/-! LeanCity$Law.addStep (II)Z -/
noncomputable def f_X4_addStep (k0 : Nat) (x1 : Int32) (x2 : Int32) (h : Hp) : Option (Bool × Hp) :=
  if (h k0 7) < 0 then
    some (true, h)
  else
    if (h k0 7) < 400 then
      gd (ix (h k0 7) 400) (
      bnd (up1 h (k0 + 5) ((h k0 7).toNatClampNeg) x1) fun h_4 =>
      gd (ix (h_4 k0 7) 400) (
      bnd (up1 h_4 (k0 + 6) ((h_4 k0 7).toNatClampNeg) x2) fun h_7 =>
      bnd (up1 h_7 k0 7 ((h_7 k0 7) + 1)) fun h_9 =>
      some (true, h_9)))
    else
      some (true, h)
/-! LeanCity$Tape.isSign (C)Z -/
noncomputable def f_X10_isSign (x1 : Int32) (h : Hp) : Bool :=
  if (h 2 5) = x1 then
    true
  else
    false
/-! LeanCity$LawReader.readSum (LLeanCity$Tape;LLeanCity$Law;)Z -/
noncomputable def F_X5_readSum_72 (q_2 : Int32 → Hp → Option (Bool × Hp)) (k1 : Nat) (x2 : Int32) (h : Hp) : Option (Bool × Hp) :=
  Option.bind (f_X10_step h) fun r_1 =>
  if (f_X10_isSign 43 r_1) then
    Option.bind (f_X10_step r_1) fun r_4 =>
    q_2 (x2 + 1) r_4
  else
    some (true, r_1)
noncomputable def F_X5_readSum_54 (q_2 : Int32 → Hp → Option (Bool × Hp)) (k1 : Nat) (x2 : Int32) (x4 : Int32) (t0 : Int32) (kt1 : Nat) (h : Hp) : Option (Bool × Hp) :=
  Option.bind (f_X4_addStep kt1 t0 x4 h) fun r_1 =>
  if 0 < x2 then
    Option.bind (f_X4_addStep k1 11 0 r_1.2) fun r_4 =>
    F_X5_readSum_72 q_2 k1 x2 r_4.2
  else
    F_X5_readSum_72 q_2 k1 x2 r_1.2
noncomputable def F_X5_readSum_42 (q_2 : Int32 → Hp → Option (Bool × Hp)) (k1 : Nat) (x2 : Int32) (x3 : Int32) (x4 : Int32) (h : Hp) : Option (Bool × Hp) :=
  if x3 = (-1) then
    F_X5_readSum_54 q_2 k1 x2 x4 9 k1 h
  else
    F_X5_readSum_54 q_2 k1 x2 x4 x3 k1 h
noncomputable def S_X5_readSum_2 (k1 : Nat) (q_2 : Int32 → Hp → Option (Bool × Hp)) (x2 : Int32) (h : Hp) : Option (Bool × Hp) :=
  if x2 < 400 then
    Option.bind (f_X10_wordOf 1013 h) fun r_2 =>
    bnd (f_X10_numberAhead 0 999 h) fun x4_4 =>
    if r_2 = (-1) then
      if x4_4 = (-1) then
        Option.bind (f_X10_fail h) fun r_8 =>
        some (r_8.1, r_8.2)
      else
        F_X5_readSum_42 q_2 k1 x2 r_2 x4_4 h
    else
      F_X5_readSum_42 q_2 k1 x2 r_2 x4_4 h
  else
    Option.bind (f_X10_fail h) fun r_10 =>
    some (r_10.1, r_10.2)
noncomputable def F_X5_readSum_2 (k1 : Nat) (n : Nat) : Int32 → Hp → Option (Bool × Hp) :=
  Nat.rec (motive := fun _ => Int32 → Hp → Option (Bool × Hp)) (fun _ _ => none) (fun _ q => S_X5_readSum_2 k1 q) n
noncomputable def f_X5_readSum (k1 : Nat) (h : Hp) : Option (Bool × Hp) :=
  F_X5_readSum_2 k1 FU 0 h
/-! LeanCity$LawReader.readAll (LLeanCity$Tape;LLeanCity$Law;I)Z -/
noncomputable def S_X5_readAll_10 (rec : Nat → Int32 → Hp → Option (Bool × Hp)) (k1 : Nat) (x2 : Int32) (q_10 : Int32 → Int32 → Hp → Option (Bool × Hp)) (x3 : Int32) (x4 : Int32) (h : Hp) : Option (Bool × Hp) :=
  if x3 = 0 then
    Option.bind (toB x3) fun b_2 =>
    some (b_2, h)
  else
    if x4 < 400 then
      Option.bind (f_X10_takes 1014 h) fun r_5 =>
      if r_5.1 then
        Option.bind (rec k1 x2 r_5.2) fun r_8 =>
        if r_8.1 then
          Option.bind (f_X4_addStep k1 14 0 r_8.2) fun r_11 =>
          if r_11.1 then
            q_10 1 (x4 + 1) r_11.2
          else
            q_10 0 (x4 + 1) r_11.2
        else
          q_10 0 (x4 + 1) r_8.2
      else
        Option.bind (toB x3) fun b_14 =>
        some (b_14, r_5.2)
    else
      Option.bind (toB x3) fun b_16 =>
      some (b_16, h)
noncomputable def F_X5_readAll_10 (rec : Nat → Int32 → Hp → Option (Bool × Hp)) (k1 : Nat) (x2 : Int32) (n : Nat) : Int32 → Int32 → Hp → Option (Bool × Hp) :=
  Nat.rec (motive := fun _ => Int32 → Int32 → Hp → Option (Bool × Hp)) (fun _ _ _ => none) (fun _ q => S_X5_readAll_10 rec k1 x2 q) n
noncomputable def f_X5_readAll (rec : Nat → Int32 → Hp → Option (Bool × Hp)) (k1 : Nat) (x2 : Int32) (h : Hp) : Option (Bool × Hp) :=
  Option.bind (rec k1 x2 h) fun r_1 =>
  bnd (b2i r_1.1) fun x3_3 =>
  F_X5_readAll_10 rec k1 x2 FU x3_3 0 r_1.2
/-! LeanCity$LawReader.readChoice (LLeanCity$Tape;LLeanCity$Law;I)Z -/
noncomputable def S_X5_readChoice_10 (rec : Nat → Int32 → Hp → Option (Bool × Hp)) (k1 : Nat) (x2 : Int32) (q_10 : Int32 → Int32 → Hp → Option (Bool × Hp)) (x3 : Int32) (x4 : Int32) (h : Hp) : Option (Bool × Hp) :=
  if x3 = 0 then
    Option.bind (toB x3) fun b_2 =>
    some (b_2, h)
  else
    if x4 < 400 then
      Option.bind (f_X10_takes 1015 h) fun r_5 =>
      if r_5.1 then
        Option.bind (f_X5_readAll rec k1 x2 r_5.2) fun r_8 =>
        if r_8.1 then
          Option.bind (f_X4_addStep k1 15 0 r_8.2) fun r_11 =>
          if r_11.1 then
            q_10 1 (x4 + 1) r_11.2
          else
            q_10 0 (x4 + 1) r_11.2
        else
          q_10 0 (x4 + 1) r_8.2
      else
        Option.bind (toB x3) fun b_14 =>
        some (b_14, r_5.2)
    else
      Option.bind (toB x3) fun b_16 =>
      some (b_16, h)
noncomputable def F_X5_readChoice_10 (rec : Nat → Int32 → Hp → Option (Bool × Hp)) (k1 : Nat) (x2 : Int32) (n : Nat) : Int32 → Int32 → Hp → Option (Bool × Hp) :=
  Nat.rec (motive := fun _ => Int32 → Int32 → Hp → Option (Bool × Hp)) (fun _ _ _ => none) (fun _ q => S_X5_readChoice_10 rec k1 x2 q) n
noncomputable def f_X5_readChoice (rec : Nat → Int32 → Hp → Option (Bool × Hp)) (k1 : Nat) (x2 : Int32) (h : Hp) : Option (Bool × Hp) :=
  Option.bind (f_X5_readAll rec k1 x2 h) fun r_1 =>
  bnd (b2i r_1.1) fun x3_3 =>
  F_X5_readChoice_10 rec k1 x2 FU x3_3 0 r_1.2
/-! LeanCity$LawReader.readAtom (LLeanCity$Tape;LLeanCity$Law;I)Z -/
noncomputable def F_X5_readAtom_208 (rec : Nat → Int32 → Hp → Option (Bool × Hp)) (t0 : Int32) (kt1 : Nat) (h : Hp) : Option (Bool × Hp) :=
  Option.bind (f_X4_addStep kt1 t0 0 h) fun r_1 =>
  if r_1.1 then
    some (true, r_1.2)
  else
    some (false, r_1.2)
noncomputable def F_X5_readAtom_183 (rec : Nat → Int32 → Hp → Option (Bool × Hp)) (k1 : Nat) (x6 : Int32) (h : Hp) : Option (Bool × Hp) :=
  Option.bind (f_X10_step h) fun r_1 =>
  Option.bind (f_X5_readSum k1 r_1) fun r_3 =>
  if r_3.1 then
    if x6 = 0 then
      F_X5_readAtom_208 rec 13 k1 r_3.2
    else
      F_X5_readAtom_208 rec 12 k1 r_3.2
  else
    some (false, r_3.2)
noncomputable def F_X5_readAtom_44 (rec : Nat → Int32 → Hp → Option (Bool × Hp)) (k1 : Nat) (x2 : Int32) (x3 : Int32) (x4 : Int32) (h : Hp) : Option (Bool × Hp) :=
  if x3 = 0 then
    if x4 = 0 then
      Option.bind (f_X10_take 1012 h) fun r_3 =>
      if r_3.1 = (-1) then
        Option.bind (f_X5_readSum k1 r_3.2) fun r_6 =>
        if r_6.1 then
          bnd (b2i (f_X10_isSign 60 r_6.2)) fun x6_9 =>
          if x6_9 = 0 then
            if (f_X10_isSign 62 r_6.2) then
              F_X5_readAtom_183 rec k1 x6_9 r_6.2
            else
              Option.bind (f_X10_fail r_6.2) fun r_13 =>
              some (r_13.1, r_13.2)
          else
            F_X5_readAtom_183 rec k1 x6_9 r_6.2
        else
          some (false, r_6.2)
      else
        Option.bind (f_X4_addStep k1 (6 + r_3.1) 0 r_3.2) fun r_15 =>
        some (r_15.1, r_15.2)
    else
      Option.bind (f_X10_step h) fun r_17 =>
      Option.bind (f_X5_readChoice rec k1 (x2 + 1) r_17) fun r_19 =>
      if r_19.1 then
        Option.bind (f_X10_takesSign 41 r_19.2) fun r_22 =>
        if r_22.1 then
          some (true, r_22.2)
        else
          Option.bind (f_X10_fail r_22.2) fun r_25 =>
          if r_25.1 then
            some (true, r_25.2)
          else
            some (false, r_25.2)
      else
        some (false, r_19.2)
  else
    Option.bind (f_X10_step h) fun r_28 =>
    Option.bind (rec k1 (x2 + 1) r_28) fun r_30 =>
    if r_30.1 then
      Option.bind (f_X4_addStep k1 10 0 r_30.2) fun r_33 =>
      if r_33.1 then
        some (true, r_33.2)
      else
        some (false, r_33.2)
    else
      some (false, r_30.2)
noncomputable def F_X5_readAtom_33 (rec : Nat → Int32 → Hp → Option (Bool × Hp)) (k1 : Nat) (x2 : Int32) (x3 : Int32) (x4 : Int32) (h : Hp) : Option (Bool × Hp) :=
  if x2 < 6 then
    F_X5_readAtom_44 rec k1 x2 x3 x4 h
  else
    Option.bind (f_X10_fail h) fun r_2 =>
    some (r_2.1, r_2.2)
noncomputable def F_X5_readAtom_15 (rec : Nat → Int32 → Hp → Option (Bool × Hp)) (k1 : Nat) (x2 : Int32) (t0 : Int32) (h : Hp) : Option (Bool × Hp) :=
  bnd (b2i (f_X10_isSign 40 h)) fun x4_1 =>
  if t0 = 0 then
    if x4_1 = 0 then
      F_X5_readAtom_44 rec k1 x2 t0 x4_1 h
    else
      F_X5_readAtom_33 rec k1 x2 t0 x4_1 h
  else
    F_X5_readAtom_33 rec k1 x2 t0 x4_1 h
noncomputable def b_X5_readAtom (rec : Nat → Int32 → Hp → Option (Bool × Hp)) (k1 : Nat) (x2 : Int32) (h : Hp) : Option (Bool × Hp) :=
  Option.bind (f_X10_wordOf 1011 h) fun r_1 =>
  if r_1 = (-1) then
    F_X5_readAtom_15 rec k1 x2 0 h
  else
    F_X5_readAtom_15 rec k1 x2 1 h
noncomputable def f_X5_readAtom (n : Nat) : Nat → Int32 → Hp → Option (Bool × Hp) :=
  Nat.rec (motive := fun _ => Nat → Int32 → Hp → Option (Bool × Hp)) (fun _ _ _ => none) (fun _ q => b_X5_readAtom q) n
/-! LeanCity$LawReader.readLine (LLeanCity$Tape;LLeanCity$Law;)Z -/
noncomputable def F_X5_readLine_58 (k1 : Nat) (h : Hp) : Option (Bool × Hp) :=
  Option.bind (f_X4_closeLine k1 h) fun r_1 =>
  some (true, r_1)
noncomputable def f_X5_readLine (k1 : Nat) (h : Hp) : Option (Bool × Hp) :=
  Option.bind (f_X10_take 1009 h) fun r_1 =>
  if r_1.1 = (-1) then
    Option.bind (f_X10_fail r_1.2) fun r_4 =>
    some (r_4.1, r_4.2)
  else
    Option.bind (f_X10_takeNumber 0 99 r_1.2) fun r_6 =>
    if r_6.1 = (-1) then
      some (false, r_6.2)
    else
      Option.bind (f_X4_openLine k1 r_1.1 r_6.1 r_6.2) fun r_9 =>
      Option.bind (f_X10_takes 1010 r_9) fun r_11 =>
      if r_11.1 then
        Option.bind (f_X5_readChoice (f_X5_readAtom 10) k1 0 r_11.2) fun r_14 =>
        if r_14.1 then
          F_X5_readLine_58 k1 r_14.2
        else
          some (false, r_14.2)
      else
        F_X5_readLine_58 k1 r_11.2
/-! LeanCity$LawReader.read (LLeanCity$Tape;LLeanCity$Law;)Z -/
noncomputable def S_X5_read_19 (k1 : Nat) (q_19 : Int32 → Hp → Option (Bool × Hp)) (x2 : Int32) (h : Hp) : Option (Bool × Hp) :=
  if x2 < 12 then
    Option.bind (f_X5_readLine k1 h) fun r_2 =>
    if r_2.1 then
      if (f_X10_isDone r_2.2) then
        some (true, r_2.2)
      else
        Option.bind (f_X10_takesSign 59 r_2.2) fun r_6 =>
        if r_6.1 then
          q_19 (x2 + 1) r_6.2
        else
          Option.bind (f_X10_fail r_6.2) fun r_9 =>
          some (r_9.1, r_9.2)
    else
      some (false, r_2.2)
  else
    Option.bind (f_X10_fail h) fun r_11 =>
    some (r_11.1, r_11.2)
noncomputable def F_X5_read_19 (k1 : Nat) (n : Nat) : Int32 → Hp → Option (Bool × Hp) :=
  Nat.rec (motive := fun _ => Int32 → Hp → Option (Bool × Hp)) (fun _ _ => none) (fun _ q => S_X5_read_19 k1 q) n
noncomputable def f_X5_read (k1 : Nat) (h : Hp) : Option (Bool × Hp) :=
  Option.bind (f_X10_open h) fun r_1 =>
  Option.bind (f_X4_clear k1 r_1) fun r_3 =>
  if (f_X10_isDone r_3) then
    some (true, r_3)
  else
    F_X5_read_19 k1 FU 0 r_3
/-! LeanCity$Log.cell (II)I -/
noncomputable def f_X6_cell (k0 : Nat) (x1 : Int32) (x2 : Int32) (h : Hp) : Option Int32 :=
  if x1 < 0 then
    some (-1)
  else
    if x1 < (h k0 1) then
      if x2 < 0 then
        some (-1)
      else
        if x2 < 6 then
          bnd (((((h k0 1) - 1) - x1) * 6) + x2) fun x3_5 =>
          if x3_5 < 0 then
            some (-1)
          else
            if x3_5 < 360 then
              gd (ix x3_5 360) (
              some (h (k0 + 1) x3_5.toNatClampNeg))
            else
              some (-1)
        else
          some (-1)
    else
      some (-1)
/-! LeanCity$Posts.gain (LLeanCity$City;LLeanCity$Strain;II)I -/
noncomputable def f_X7_gain (k0 : Nat) (x2 : Int32) (x3 : Int32) (h : Hp) : Option Int32 :=
  if x3 < 0 then
    some 0
  else
    if x3 < 8 then
      if (f_X1_isUp k0 x3 h) then
        Option.bind (f_X1_isThere k0 x2 (h k0 12) h) fun r_4 =>
        if r_4 then
          Option.bind (f_X1_holdOf k0 x2 h) fun r_7 =>
          gd (ix x3 8) (
          some (imax 0 (imin r_7 (h 9 x3.toNatClampNeg))))
        else
          some 0
      else
        some 0
    else
      some 0
/-! LeanCity$Posts.rest (II)I -/
noncomputable def f_X7_rest (x1 : Int32) (x2 : Int32) (h : Hp) : Option Int32 :=
  bnd ((x1 * 256) + x2) fun x3_1 =>
  if x3_1 < 0 then
    some 0
  else
    if x3_1 < 1792 then
      gd (ix x3_1 1792) (
      some (h 20 x3_1.toNatClampNeg))
    else
      some 0
/-! LeanCity$Posts.mostOf (II)I -/
noncomputable def S_X7_mostOf_12 (h : Hp) (x1 : Int32) (x2 : Int32) (q_12 : Int32 → Int32 → Option Int32) (x3 : Int32) (x4 : Int32) : Option Int32 :=
  if x4 < 8 then
    gd (ix ((x1 * 8) + x4) 48) (
    bnd (h 21 (((x1 * 8) + x4).toNatClampNeg)) fun x5_3 =>
    if 0 < x5_3 then
      if ((shr x2 x4) &&& 1) = 0 then
        Option.bind (f_X7_rest (x1 + 1) (x2 ||| (shl 1 x4)) h) fun r_7 =>
        bnd (imax x3 (x5_3 + r_7)) fun x3_9 =>
        q_12 x3_9 (x4 + 1)
      else
        q_12 x3 (x4 + 1)
    else
      q_12 x3 (x4 + 1))
  else
    some x3
noncomputable def F_X7_mostOf_12 (h : Hp) (x1 : Int32) (x2 : Int32) (n : Nat) : Int32 → Int32 → Option Int32 :=
  Nat.rec (motive := fun _ => Int32 → Int32 → Option Int32) (fun _ _ => none) (fun _ q => S_X7_mostOf_12 h x1 x2 q) n
noncomputable def f_X7_mostOf (x1 : Int32) (x2 : Int32) (h : Hp) : Option Int32 :=
  Option.bind (f_X7_rest (x1 + 1) x2 h) fun r_1 =>
  F_X7_mostOf_12 h x1 x2 FU r_1 0
/-! LeanCity$Posts.firstPlace (II)I -/
noncomputable def S_X7_firstPlace_10 (h : Hp) (x1 : Int32) (x2 : Int32) (x3 : Int32) (q_10 : Int32 → Option Int32) (x4 : Int32) : Option Int32 :=
  if x4 < 8 then
    Option.bind (f_X7_rest (x1 + 1) x2 h) fun r_2 =>
    if r_2 = x3 then
      some (-1)
    else
      gd (ix ((x1 * 8) + x4) 48) (
      bnd (h 21 (((x1 * 8) + x4).toNatClampNeg)) fun x5_6 =>
      if 0 < x5_6 then
        if ((shr x2 x4) &&& 1) = 0 then
          Option.bind (f_X7_rest (x1 + 1) (x2 ||| (shl 1 x4)) h) fun r_10 =>
          if (x5_6 + r_10) = x3 then
            some x4
          else
            q_10 (x4 + 1)
        else
          q_10 (x4 + 1)
      else
        q_10 (x4 + 1))
  else
    some (-1)
noncomputable def F_X7_firstPlace_10 (h : Hp) (x1 : Int32) (x2 : Int32) (x3 : Int32) (n : Nat) : Int32 → Option Int32 :=
  Nat.rec (motive := fun _ => Int32 → Option Int32) (fun _ => none) (fun _ q => S_X7_firstPlace_10 h x1 x2 x3 q) n
noncomputable def f_X7_firstPlace (x1 : Int32) (x2 : Int32) (h : Hp) : Option Int32 :=
  Option.bind (f_X7_rest x1 x2 h) fun r_1 =>
  F_X7_firstPlace_10 h x1 x2 r_1 FU 0
/-! LeanCity$Posts.placeAll ()V -/
noncomputable def F_X7_placeAll_37 (q_4 : Int32 → Int32 → Hp → Option Hp) (x2 : Int32) (t0 : Int32) (t1 : Int32) (h : Hp) : Option Hp :=
  bnd (t1 ||| t0) fun x1_1 =>
  q_4 x1_1 (x2 + 1) h
noncomputable def S_X7_placeAll_4 (q_4 : Int32 → Int32 → Hp → Option Hp) (x1 : Int32) (x2 : Int32) (h : Hp) : Option Hp :=
  if x2 < 6 then
    Option.bind (f_X7_firstPlace x2 x1 h) fun r_2 =>
    gd (ix x2 6) (
    bnd (up1 h 22 x2.toNatClampNeg r_2) fun h_5 =>
    if r_2 = (-1) then
      F_X7_placeAll_37 q_4 x2 0 x1 h_5
    else
      F_X7_placeAll_37 q_4 x2 (shl 1 r_2) x1 h_5)
  else
    some h
noncomputable def F_X7_placeAll_4 (n : Nat) : Int32 → Int32 → Hp → Option Hp :=
  Nat.rec (motive := fun _ => Int32 → Int32 → Hp → Option Hp) (fun _ _ _ => none) (fun _ q => S_X7_placeAll_4 q) n
noncomputable def f_X7_placeAll (h : Hp) : Option Hp :=
  F_X7_placeAll_4 FU 0 0 h
/-! LeanCity$Posts.solve (LLeanCity$City;LLeanCity$Strain;)I -/
noncomputable def S_X7_solve_11 (q_2 : Int32 → Hp → Option (Int32 × Hp)) (k1 : Nat) (x3 : Int32) (q_11 : Int32 → Hp → Option (Int32 × Hp)) (x4 : Int32) (h : Hp) : Option (Int32 × Hp) :=
  if x4 < 8 then
    Option.bind (f_X7_gain k1 x3 x4 h) fun r_2 =>
    gd (ix ((x3 * 8) + x4) 48) (
    bnd (up1 h 21 (((x3 * 8) + x4).toNatClampNeg) r_2) fun h_5 =>
    q_11 (x4 + 1) h_5)
  else
    q_2 (x3 + 1) h
noncomputable def F_X7_solve_11 (q_2 : Int32 → Hp → Option (Int32 × Hp)) (k1 : Nat) (x3 : Int32) (n : Nat) : Int32 → Hp → Option (Int32 × Hp) :=
  Nat.rec (motive := fun _ => Int32 → Hp → Option (Int32 × Hp)) (fun _ _ => none) (fun _ q => S_X7_solve_11 q_2 k1 x3 q) n
noncomputable def S_X7_solve_59 (q_52 : Int32 → Hp → Option (Int32 × Hp)) (x3 : Int32) (q_59 : Int32 → Hp → Option (Int32 × Hp)) (x4 : Int32) (h : Hp) : Option (Int32 × Hp) :=
  if x4 < 256 then
    if x3 < (f_J6_bitCount_0f7a4 x4 h) then
      q_59 (x4 + 1) h
    else
      Option.bind (f_X7_mostOf x3 x4 h) fun r_3 =>
      gd (ix ((x3 * 256) + x4) 1792) (
      bnd (up1 h 20 (((x3 * 256) + x4).toNatClampNeg) r_3) fun h_6 =>
      q_59 (x4 + 1) h_6)
  else
    q_52 (x3 + (-1)) h
noncomputable def F_X7_solve_59 (q_52 : Int32 → Hp → Option (Int32 × Hp)) (x3 : Int32) (n : Nat) : Int32 → Hp → Option (Int32 × Hp) :=
  Nat.rec (motive := fun _ => Int32 → Hp → Option (Int32 × Hp)) (fun _ _ => none) (fun _ q => S_X7_solve_59 q_52 x3 q) n
noncomputable def S_X7_solve_52 (q_52 : Int32 → Hp → Option (Int32 × Hp)) (x3 : Int32) (h : Hp) : Option (Int32 × Hp) :=
  if x3 < 0 then
    Option.bind (f_X7_placeAll h) fun r_2 =>
    some (r_2 20 0, r_2)
  else
    F_X7_solve_59 q_52 x3 FU 0 h
noncomputable def F_X7_solve_52 (n : Nat) : Int32 → Hp → Option (Int32 × Hp) :=
  Nat.rec (motive := fun _ => Int32 → Hp → Option (Int32 × Hp)) (fun _ _ => none) (fun _ q => S_X7_solve_52 q) n
noncomputable def S_X7_solve_2 (k1 : Nat) (q_2 : Int32 → Hp → Option (Int32 × Hp)) (x3 : Int32) (h : Hp) : Option (Int32 × Hp) :=
  if x3 < 6 then
    F_X7_solve_11 q_2 k1 x3 FU 0 h
  else
    F_X7_solve_52 FU 5 h
noncomputable def F_X7_solve_2 (k1 : Nat) (n : Nat) : Int32 → Hp → Option (Int32 × Hp) :=
  Nat.rec (motive := fun _ => Int32 → Hp → Option (Int32 × Hp)) (fun _ _ => none) (fun _ q => S_X7_solve_2 k1 q) n
noncomputable def f_X7_solve (k1 : Nat) (h : Hp) : Option (Int32 × Hp) :=
  F_X7_solve_2 k1 FU 0 h
/-! LeanCity$Posts.placeOf (I)I -/
noncomputable def f_X7_placeOf (x1 : Int32) (h : Hp) : Option Int32 :=
  if x1 < 0 then
    some (-1)
  else
    if x1 < 6 then
      gd (ix x1 6) (
      some (h 22 x1.toNatClampNeg))
    else
      some (-1)
/-! LeanCity$Razing.keep (I)V -/
noncomputable def f_X8_keep (x1 : Int32) (h : Hp) : Option Hp :=
  if (h 15 1) < x1 then
    bnd (up1 h 15 1 x1) fun h_2 =>
    bnd (upA h_2 16 (va_cpy (h_2 18) (h_2 16) 0 0 5)) fun h_4 =>
    some h_4
  else
    some h
/-! LeanCity$Razing.search (LLeanCity$Law;LLeanCity$Course;III)V -/
noncomputable def F_X8_search_120 (rec : Nat → Int32 → Int32 → Int32 → Hp → Option Hp) (q_57 : Int32 → Hp → Option Hp) (k1 : Nat) (x3 : Int32) (x4 : Int32) (x5 : Int32) (k6 : Nat) (k7 : Nat) (x8 : Int32) (x9 : Int32) (h : Hp) : Option Hp :=
  gd (ix x4 5) (
  bnd (up1 h 18 x4.toNatClampNeg x8) fun h_2 =>
  Option.bind (rec k1 (x3 &&& ((shl 1 x8) ^^^ (-1))) (x4 + 1) (x5 + (x4 * x9)) h_2) fun r_4 =>
  q_57 (x8 + 1) r_4)
noncomputable def S_X8_search_57 (rec : Nat → Int32 → Int32 → Int32 → Hp → Option Hp) (k1 : Nat) (x3 : Int32) (x4 : Int32) (x5 : Int32) (k6 : Nat) (k7 : Nat) (q_57 : Int32 → Hp → Option Hp) (x8 : Int32) (h : Hp) : Option Hp :=
  if x8 < 8 then
    if ((shr x3 x8) &&& 1) = 1 then
      Option.bind (f_X1_copyFrom k7 k6 h) fun r_3 =>
      if (f_X1_isUp k7 x8 r_3) then
        Option.bind (f_X1_takeDown k7 x8 r_3) fun r_6 =>
        Option.bind (f_X3_fall k7 k1 (r_6 k7 12) r_6) fun r_8 =>
        bnd (1 + (f_J6_bitCount_0f7a4 r_8.1 r_8.2)) fun x9_10 =>
        F_X8_search_120 rec q_57 k1 x3 x4 x5 k6 k7 x8 x9_10 r_8.2
      else
        F_X8_search_120 rec q_57 k1 x3 x4 x5 k6 k7 x8 0 r_3
    else
      q_57 (x8 + 1) h
  else
    some h
noncomputable def F_X8_search_57 (rec : Nat → Int32 → Int32 → Int32 → Hp → Option Hp) (k1 : Nat) (x3 : Int32) (x4 : Int32) (x5 : Int32) (k6 : Nat) (k7 : Nat) (n : Nat) : Int32 → Hp → Option Hp :=
  Nat.rec (motive := fun _ => Int32 → Hp → Option Hp) (fun _ _ => none) (fun _ q => S_X8_search_57 rec k1 x3 x4 x5 k6 k7 q) n
noncomputable def b_X8_search (rec : Nat → Int32 → Int32 → Int32 → Hp → Option Hp) (k1 : Nat) (x3 : Int32) (x4 : Int32) (x5 : Int32) (h : Hp) : Option Hp :=
  if x3 = 0 then
    Option.bind (f_X8_keep x5 h) fun r_2 =>
    some r_2
  else
    if x4 < 0 then
      some h
    else
      if x4 < 5 then
        gd (ix x4 6) (
        gd (ix (x4 + 1) 6) (
        F_X8_search_57 rec k1 x3 x4 x5 (340 + 16 * x4.toNatClampNeg) (340 + 16 * (x4 + 1).toNatClampNeg) FU 0 h))
      else
        some h
noncomputable def f_X8_search (n : Nat) : Nat → Int32 → Int32 → Int32 → Hp → Option Hp :=
  Nat.rec (motive := fun _ => Nat → Int32 → Int32 → Int32 → Hp → Option Hp) (fun _ _ _ _ _ => none) (fun _ q => b_X8_search q) n
/-! LeanCity$Razing.solve (LLeanCity$City;LLeanCity$Law;LLeanCity$Course;I)V -/
noncomputable def f_X8_solve (k1 : Nat) (k2 : Nat) (x4 : Int32) (h : Hp) : Option Hp :=
  bnd (up1 h 15 1 (-1)) fun h_1 =>
  Option.bind (f_X1_copyFrom 340 k1 h_1) fun r_3 =>
  Option.bind (f_X8_search 8 k2 x4 0 0 r_3) fun r_5 =>
  some r_5
/-! LeanCity$Strain.allBear ()I -/
noncomputable def S_X9_allBear_4 (h : Hp) (q_4 : Int32 → Int32 → Option Int32) (x1 : Int32) (x2 : Int32) : Option Int32 :=
  if x2 < 8 then
    gd (ix x2 8) (
    bnd (x1 + (h 7 x2.toNatClampNeg)) fun x1_3 =>
    q_4 x1_3 (x2 + 1))
  else
    some x1
noncomputable def F_X9_allBear_4 (h : Hp) (n : Nat) : Int32 → Int32 → Option Int32 :=
  Nat.rec (motive := fun _ => Int32 → Int32 → Option Int32) (fun _ _ => none) (fun _ q => S_X9_allBear_4 h q) n
noncomputable def f_X9_allBear (h : Hp) : Option Int32 :=
  F_X9_allBear_4 h FU 0 0
/-! LeanCity$Strain.greatestSag (I)I -/
noncomputable def F_X9_greatestSag_39 (q_7 : Int32 → Int32 → Int32 → Option Int32) (h : Hp) (x1 : Int32) (x4 : Int32) : Option Int32 :=
  gd (ix x4 8) (
  bnd (h 9 x4.toNatClampNeg) fun x3_2 =>
  q_7 1 x3_2 (x4 + 1))
noncomputable def S_X9_greatestSag_7 (h : Hp) (x1 : Int32) (q_7 : Int32 → Int32 → Int32 → Option Int32) (x2 : Int32) (x3 : Int32) (x4 : Int32) : Option Int32 :=
  if x4 < 8 then
    if ((shr x1 x4) &&& 1) = 1 then
      if x2 = 0 then
        F_X9_greatestSag_39 q_7 h x1 x4
      else
        gd (ix x4 8) (
        if x3 < (h 9 x4.toNatClampNeg) then
          F_X9_greatestSag_39 q_7 h x1 x4
        else
          q_7 x2 x3 (x4 + 1))
    else
      q_7 x2 x3 (x4 + 1)
  else
    some x3
noncomputable def F_X9_greatestSag_7 (h : Hp) (x1 : Int32) (n : Nat) : Int32 → Int32 → Int32 → Option Int32 :=
  Nat.rec (motive := fun _ => Int32 → Int32 → Int32 → Option Int32) (fun _ _ _ => none) (fun _ q => S_X9_greatestSag_7 h x1 q) n
noncomputable def f_X9_greatestSag (x1 : Int32) (h : Hp) : Option Int32 :=
  F_X9_greatestSag_7 h x1 FU 0 0 0
/-! LeanCity$Tape.append (I)V -/
noncomputable def S_X10_append_3 (x1 : Int32) (q_3 : Int32 → Hp → Option Hp) (x2 : Int32) (h : Hp) : Option Hp :=
  if x2 < 0 then
    some h
  else
    if (h 2 1) < 0 then
      q_3 (x2 + (-8)) h
    else
      if (h 2 1) < 400 then
        gd (ix (h 2 1) 400) (
        bnd (up1 h 3 ((h 2 1).toNatClampNeg) ((ushr x1 x2) &&& 255)) fun h_5 =>
        bnd (up1 h_5 2 1 ((h_5 2 1) + 1)) fun h_7 =>
        q_3 (x2 + (-8)) h_7)
      else
        q_3 (x2 + (-8)) h
noncomputable def F_X10_append_3 (x1 : Int32) (n : Nat) : Int32 → Hp → Option Hp :=
  Nat.rec (motive := fun _ => Int32 → Hp → Option Hp) (fun _ _ => none) (fun _ q => S_X10_append_3 x1 q) n
noncomputable def f_X10_append (x1 : Int32) (h : Hp) : Option Hp :=
  F_X10_append_3 x1 FU 24 h
/-! LeanCity.feed (IIIII)I -/
noncomputable def f_X11_feed (x1 : Int32) (x2 : Int32) (x3 : Int32) (x4 : Int32) (x5 : Int32) (h : Hp) : Option (Int32 × Hp) :=
  if 400 < ((h 2 1) + 20) then
    some ((-1), h)
  else
    Option.bind (f_X10_append x1 h) fun r_2 =>
    Option.bind (f_X10_append x2 r_2) fun r_4 =>
    Option.bind (f_X10_append x3 r_4) fun r_6 =>
    Option.bind (f_X10_append x4 r_6) fun r_8 =>
    Option.bind (f_X10_append x5 r_8) fun r_10 =>
    some (r_10 2 1, r_10)
/-! LeanCity.end (I)Z -/
noncomputable def f_X11_end (x1 : Int32) (h : Hp) : Option (Bool × Hp) :=
  if x1 < 0 then
    some (false, h)
  else
    if (h 2 1) < x1 then
      some (false, h)
    else
      bnd (up1 h 2 1 x1) fun h_3 =>
      some (true, h_3)
/-! LeanCity.city ()I -/
noncomputable def f_X11_city (h : Hp) : Option (Except String Int32 × Hp) :=
  Option.bind (f_X1_copyFrom 116 100 h) fun r_1 =>
  Option.bind (f_X2_read 116 r_1) fun r_3 =>
  bnd (b2i r_3.1) fun x1_5 =>
  bnd (up1 r_3.2 2 1 0) fun h_7 =>
  if x1_5 = 0 then
    some (Except.error "java/lang/IllegalArgumentException", h_7)
  else
    if (h_7 100 16) < 12 then
      Option.bind (f_X1_copyFrom 100 116 h_7) fun r_11 =>
      bnd (up1 r_11 100 16 ((r_11 100 16) + 1)) fun h_13 =>
      bnd (up1 h_13 1 14 0) fun h_15 =>
      some (Except.ok (h_15 100 16), h_15)
    else
      some (Except.error "java/lang/UnsupportedOperationException", h_7)
/-! LeanCity.law ()I -/
noncomputable def f_X11_law (h : Hp) : Option (Except String Int32 × Hp) :=
  Option.bind (f_X5_read 516 h) fun r_1 =>
  bnd (b2i r_1.1) fun x1_3 =>
  bnd (up1 r_1.2 2 1 0) fun h_5 =>
  if x1_3 = 0 then
    some (Except.error "java/lang/IllegalArgumentException", h_5)
  else
    Option.bind (f_X4_copyFrom 500 516 h_5) fun r_8 =>
    bnd (up1 r_8 1 14 0) fun h_10 =>
    some (Except.ok (h_10 500 8), h_10)
/-! LeanCity.fault ()I -/
noncomputable def f_X11_fault (h : Hp) : Int32 :=
  (h 2 2)
/-! LeanCity.checkHouse (I)V -/
noncomputable def f_X11_checkHouse (x1 : Int32) (h : Hp) : Option (Except String Unit × Hp) :=
  if (f_X1_isHouse 100 x1 h) then
    some (Except.ok (), h)
  else
    some (Except.error "java/lang/IndexOutOfBoundsException", h)
/-! LeanCity.ownOf (II)I -/
noncomputable def f_X11_ownOf (x1 : Int32) (x2 : Int32) (h : Hp) : Option Int32 :=
  if (f_X1_isHouse 100 x1 h) then
    if x2 = 0 then
      gd (ix x1 8) (
      some (h 101 x1.toNatClampNeg))
    else if x2 = 1 then
      gd (ix x1 8) (
      some (h 102 x1.toNatClampNeg))
    else if x2 = 2 then
      gd (ix x1 8) (
      some (h 103 x1.toNatClampNeg))
    else if x2 = 3 then
      gd (ix x1 8) (
      some (h 104 x1.toNatClampNeg))
    else 
      if (f_X1_isUp 100 x1 h) then
        some 0
      else
        some 1
  else
    some 0
/-! LeanCity.measured ()LLeanCity$Strain; -/
noncomputable def f_X11_measured (h : Hp) : Option Hp :=
  Option.bind (f_X9_measure 100 500 (h 100 12) h) fun r_1 =>
  some r_1
/-! LeanCity.shareOf (I)I -/
noncomputable def f_X11_shareOf (x1 : Int32) (h : Hp) : Option Int32 :=
  Option.bind (f_X9_allBear h) fun r_1 =>
  if 0 < r_1 then
    if (f_X1_isUp 100 x1 h) then
      gd (ix x1 8) (
      gd (¬ r_1 = 0) (
      some (((h 7 x1.toNatClampNeg) * 100) / r_1)))
    else
      some 0
  else
    some 0
/-! LeanCity.loadOf (II)I -/
noncomputable def f_X11_loadOf (x1 : Int32) (x2 : Int32) (h : Hp) : Option (Int32 × Hp) :=
  if (f_X1_isUp 100 x1 h) then
    Option.bind (f_X11_measured h) fun r_2 =>
    if x2 = 5 then
      gd (ix x1 8) (
      some (r_2 6 x1.toNatClampNeg, r_2))
    else if x2 = 6 then
      gd (ix x1 8) (
      some (r_2 7 x1.toNatClampNeg, r_2))
    else if x2 = 7 then
      gd (ix x1 8) (
      some (r_2 8 x1.toNatClampNeg, r_2))
    else if x2 = 8 then
      gd (ix x1 8) (
      some (r_2 9 x1.toNatClampNeg, r_2))
    else if x2 = 9 then
      gd (ix x1 8) (
      some (r_2 10 x1.toNatClampNeg, r_2))
    else if x2 = 10 then
      Option.bind (f_X11_shareOf x1 r_2) fun r_15 =>
      some (r_15, r_2)
    else if x2 = 11 then
      Option.bind (f_X1_priceOf 100 x1 r_2) fun r_18 =>
      some (r_18, r_2)
    else 
      Option.bind (f_X1_gateOf 100 x1 r_2) fun r_20 =>
      some (r_20, r_2)
  else
    some (0, h)
/-! LeanCity.house (II)I -/
noncomputable def F_X11_house_15 (h : Hp) : Option (Except String Int32 × Hp) :=
  some (Except.error "java/util/NoSuchElementException", h)
noncomputable def f_X11_house (x1 : Int32) (x2 : Int32) (h : Hp) : Option (Except String Int32 × Hp) :=
  Option.bind (f_X11_checkHouse x1 h) fun r_1 => exB r_1 fun v_3 h_4 =>
  if x2 < 0 then
    F_X11_house_15 h_4
  else
    if 12 < x2 then
      F_X11_house_15 h_4
    else
      if 4 < x2 then
        Option.bind (f_X11_loadOf x1 x2 h_4) fun r_10 =>
        some (Except.ok r_10.1, r_10.2)
      else
        Option.bind (f_X11_ownOf x1 x2 h_4) fun r_12 =>
        some (Except.ok r_12, h_4)
/-! LeanCity.part (II)I -/
noncomputable def f_X11_part (x1 : Int32) (x2 : Int32) (h : Hp) : Option (Except String Int32 × Hp) :=
  Option.bind (f_X11_checkHouse x1 h) fun r_1 => exB r_1 fun v_3 h_4 =>
  Option.bind (f_X11_checkHouse x2 h_4) fun r_7 => exB r_7 fun v_9 h_10 =>
  Option.bind (f_X1_partOf 100 x1 x2 h_10) fun r_13 =>
  some (Except.ok r_13, h_10)
/-! LeanCity.checkPerson (I)V -/
noncomputable def f_X11_checkPerson (x1 : Int32) (h : Hp) : Option (Except String Unit × Hp) :=
  if (f_X1_isPerson 100 x1 h) then
    some (Except.ok (), h)
  else
    some (Except.error "java/lang/IndexOutOfBoundsException", h)
/-! LeanCity.fallsWithout (II)I -/
noncomputable def f_X11_fallsWithout (x1 : Int32) (x2 : Int32) (h : Hp) : Option (Int32 × Hp) :=
  Option.bind (f_X1_copyFrom 116 100 h) fun r_1 =>
  Option.bind (f_X1_put 116 x1 (-1) r_1) fun r_3 =>
  Option.bind (f_X3_fall 116 500 x2 r_3) fun r_5 =>
  some (r_5.1, r_5.2)
/-! LeanCity.fallsNow (I)I -/
noncomputable def f_X11_fallsNow (x1 : Int32) (h : Hp) : Option (Int32 × Hp) :=
  Option.bind (f_X1_copyFrom 116 100 h) fun r_1 =>
  Option.bind (f_X3_fall 116 500 x1 r_1) fun r_3 =>
  some (r_3.1, r_3.2)
/-! LeanCity.person (II)I -/
noncomputable def f_X11_person (x1 : Int32) (x2 : Int32) (h : Hp) : Option (Except String Int32 × Hp) :=
  Option.bind (f_X11_checkPerson x1 h) fun r_1 => exB r_1 fun v_3 h_4 =>
  if x2 = 0 then
    Option.bind (f_X1_placeOf 100 x1 h_4) fun r_8 =>
    some (Except.ok r_8, h_4)
  else if x2 = 1 then
    Option.bind (f_X1_holdOf 100 x1 h_4) fun r_11 =>
    some (Except.ok r_11, h_4)
  else if x2 = 2 then
    Option.bind (f_X1_daysOf 100 x1 h_4) fun r_14 =>
    some (Except.ok r_14, h_4)
  else if x2 = 3 then
    Option.bind (f_X11_fallsWithout x1 (h_4 100 12) h_4) fun r_17 =>
    Option.bind (f_X11_fallsNow (r_17.2 100 12) r_17.2) fun r_19 =>
    some (Except.ok (r_17.1 &&& (r_19.1 ^^^ (-1))), r_19.2)
  else 
    some (Except.error "java/util/NoSuchElementException", h_4)
/-! LeanCity.count (I)I -/
noncomputable def f_X11_count (x1 : Int32) (h : Hp) : Option (Int32 × Hp) :=
  if x1 = 0 then
    some (h 100 9, h)
  else if x1 = 1 then
    some (h 100 10, h)
  else if x1 = 2 then
    some (h 100 16, h)
  else if x1 = 3 then
    some (h 500 8, h)
  else if x1 = 4 then
    some (h 100 12, h)
  else if x1 = 5 then
    some (h 100 13, h)
  else if x1 = 6 then
    some (h 100 14, h)
  else if x1 = 7 then
    some (h 100 15, h)
  else if x1 = 8 then
    some (h 100 11, h)
  else if x1 = 9 then
    Option.bind (f_X11_measured h) fun r_11 =>
    Option.bind (f_X9_allBear r_11) fun r_13 =>
    some (r_13, r_11)
  else if x1 = 10 then
    some (h 109 1, h)
  else if x1 = 11 then
    some (h 1 14, h)
  else 
    some ((-1), h)
/-! LeanCity.checkAmount (III)V -/
noncomputable def F_X11_checkAmount_10 (h : Hp) : Option (Except String Unit × Hp) :=
  some (Except.error "java/lang/IllegalArgumentException", h)
noncomputable def f_X11_checkAmount (x0 : Int32) (x1 : Int32) (x2 : Int32) (h : Hp) : Option (Except String Unit × Hp) :=
  if x0 < x1 then
    F_X11_checkAmount_10 h
  else
    if x2 < x0 then
      F_X11_checkAmount_10 h
    else
      some (Except.ok (), h)
/-! LeanCity.pastAt (I)LLeanCity$City; -/
noncomputable def F_X11_pastAt_32 (h : Hp) : Option (Option Nat) :=
  some none
noncomputable def f_X11_pastAt (x1 : Int32) (h : Hp) : Option (Option Nat) :=
  bnd (rem ((h 1 13) + x1) 12) fun x2_1 =>
  if x2_1 < 0 then
    F_X11_pastAt_32 h
  else
    if x2_1 < 12 then
      gd (ix x2_1 12) (
      some (some (148 + 16 * x2_1.toNatClampNeg)))
    else
      F_X11_pastAt_32 h
/-! LeanCity.remember ()V -/
noncomputable def F_X11_remember_28 (h : Hp) : Option Hp :=
  Option.bind (f_X11_pastAt (h 1 14) h) fun r_1 =>
  onN r_1 (
    some h) fun kn_3 => gd (cityB kn_3 = true) (
    Option.bind (f_X1_copyFrom kn_3 100 h) fun r_5 =>
    bnd (up1 r_5 1 14 ((r_5 1 14) + 1)) fun h_7 =>
    some h_7)
noncomputable def f_X11_remember (h : Hp) : Option Hp :=
  if (h 1 14) < 12 then
    F_X11_remember_28 h
  else
    bnd (up1 h 1 13 (rem ((h 1 13) + 1) 12)) fun h_2 =>
    bnd (up1 h_2 1 14 11) fun h_4 =>
    F_X11_remember_28 h_4
/-! LeanCity.evenings (I)I -/
noncomputable def f_X11_evenings (x1 : Int32) (h : Hp) : Option (Except String Int32 × Hp) :=
  Option.bind (f_X11_checkAmount x1 1 70 h) fun r_1 => exB r_1 fun v_3 h_4 =>
  Option.bind (f_X11_remember h_4) fun r_7 =>
  bnd (f_J6_bitCount_0f7a4 (r_7 100 11) r_7) fun x2_9 =>
  Option.bind (f_X3_run 100 500 x1 1 r_7) fun r_11 =>
  some (Except.ok (x2_9 - (f_J6_bitCount_0f7a4 (r_11 100 11) r_11)), r_11)
/-! LeanCity.checkUp (I)V -/
noncomputable def f_X11_checkUp (x1 : Int32) (h : Hp) : Option (Except String Unit × Hp) :=
  if (f_X1_isUp 100 x1 h) then
    some (Except.ok (), h)
  else
    some (Except.error "java/lang/IllegalStateException", h)
/-! LeanCity.build (IIII)I -/
noncomputable def f_X11_build (x1 : Int32) (x2 : Int32) (x3 : Int32) (x4 : Int32) (h : Hp) : Option (Except String Int32 × Hp) :=
  Option.bind (f_X11_checkHouse x3 h) fun r_1 => exB r_1 fun v_3 h_4 =>
  Option.bind (f_X11_checkAmount x1 1 99 h_4) fun r_7 => exB r_7 fun v_9 h_10 =>
  Option.bind (f_X11_checkAmount x2 0 999 h_10) fun r_13 => exB r_13 fun v_15 h_16 =>
  Option.bind (f_X11_checkAmount x4 1 9 h_16) fun r_19 => exB r_19 fun v_21 h_22 =>
  if (h_22 100 9) < 8 then
    Option.bind (f_X11_checkUp x3 h_22) fun r_26 => exB r_26 fun v_28 h_29 =>
    Option.bind (f_X11_remember h_29) fun r_32 =>
    Option.bind (f_X1_addHouse 100 x1 x2 0 0 r_32) fun r_34 =>
    Option.bind (f_X1_setPart 100 r_34.1 x3 x4 r_34.2) fun r_36 =>
    some (Except.ok r_34.1, r_36)
  else
    some (Except.error "java/lang/IllegalStateException", h_22)
/-! LeanCity.checkTwoHouses (II)V -/
noncomputable def f_X11_checkTwoHouses (x1 : Int32) (x2 : Int32) (h : Hp) : Option (Except String Unit × Hp) :=
  Option.bind (f_X11_checkHouse x1 h) fun r_1 => exB r_1 fun v_3 h_4 =>
  Option.bind (f_X11_checkHouse x2 h_4) fun r_7 => exB r_7 fun v_9 h_10 =>
  if x1 = x2 then
    some (Except.error "java/lang/IllegalArgumentException", h_10)
  else
    some (Except.ok (), h_10)
/-! LeanCity.lean (III)I -/
noncomputable def f_X11_lean (x1 : Int32) (x2 : Int32) (x3 : Int32) (h : Hp) : Option (Except String Int32 × Hp) :=
  Option.bind (f_X11_checkTwoHouses x1 x2 h) fun r_1 => exB r_1 fun v_3 h_4 =>
  Option.bind (f_X11_checkAmount x3 0 9 h_4) fun r_7 => exB r_7 fun v_9 h_10 =>
  Option.bind (f_X11_checkUp x1 h_10) fun r_13 => exB r_13 fun v_15 h_16 =>
  Option.bind (f_X11_checkUp x2 h_16) fun r_19 => exB r_19 fun v_21 h_22 =>
  Option.bind (f_X11_remember h_22) fun r_25 =>
  Option.bind (f_X1_partOf 100 x1 x2 r_25) fun r_27 =>
  Option.bind (f_X1_setPart 100 x1 x2 x3 r_25) fun r_29 =>
  some (Except.ok r_27, r_29)
/-! LeanCity.wed (II)I -/
noncomputable def f_X11_wed (x1 : Int32) (x2 : Int32) (h : Hp) : Option (Except String Int32 × Hp) :=
  Option.bind (f_X11_checkTwoHouses x1 x2 h) fun r_1 => exB r_1 fun v_3 h_4 =>
  Option.bind (f_X11_checkUp x1 h_4) fun r_7 => exB r_7 fun v_9 h_10 =>
  Option.bind (f_X11_checkUp x2 h_10) fun r_13 => exB r_13 fun v_15 h_16 =>
  Option.bind (f_X11_remember h_16) fun r_19 =>
  Option.bind (f_X1_marry 100 x1 x2 r_19) fun r_21 =>
  Option.bind (f_X1_partOf 100 x1 x2 r_21) fun r_23 =>
  some (Except.ok r_23, r_21)
/-! LeanCity.trim (I)I -/
noncomputable def f_X11_trim (x1 : Int32) (h : Hp) : Option (Except String Int32 × Hp) :=
  Option.bind (f_X11_checkHouse x1 h) fun r_1 => exB r_1 fun v_3 h_4 =>
  Option.bind (f_X11_checkUp x1 h_4) fun r_7 => exB r_7 fun v_9 h_10 =>
  Option.bind (f_X11_remember h_10) fun r_13 =>
  Option.bind (f_X1_cutIvy 100 x1 r_13) fun r_15 =>
  some (Except.ok r_15.1, r_15.2)
/-! LeanCity.move (II)I -/
noncomputable def f_X11_move (x1 : Int32) (x2 : Int32) (h : Hp) : Option (Except String Int32 × Hp) :=
  Option.bind (f_X11_checkPerson x1 h) fun r_1 => exB r_1 fun v_3 h_4 =>
  Option.bind (f_X11_checkHouse x2 h_4) fun r_7 => exB r_7 fun v_9 h_10 =>
  Option.bind (f_X11_checkUp x2 h_10) fun r_13 => exB r_13 fun v_15 h_16 =>
  Option.bind (f_X11_remember h_16) fun r_19 =>
  Option.bind (f_X1_placeOf 100 x1 r_19) fun r_21 =>
  Option.bind (f_X1_put 100 x1 x2 r_19) fun r_23 =>
  some (Except.ok r_21, r_23)
/-! LeanCity.checkEvening (I)V -/
noncomputable def F_X11_checkEvening_10 (h : Hp) : Option (Except String Unit × Hp) :=
  some (Except.error "java/lang/IndexOutOfBoundsException", h)
noncomputable def f_X11_checkEvening (x0 : Int32) (h : Hp) : Option (Except String Unit × Hp) :=
  if x0 < 0 then
    F_X11_checkEvening_10 h
  else
    if x0 < 7 then
      some (Except.ok (), h)
    else
      F_X11_checkEvening_10 h
/-! LeanCity.come (IIZ)Z -/
noncomputable def f_X11_come (x1 : Int32) (x2 : Int32) (x3 : Int32) (h : Hp) : Option (Except String Bool × Hp) :=
  Option.bind (f_X11_checkPerson x1 h) fun r_1 => exB r_1 fun v_3 h_4 =>
  Option.bind (f_X11_checkEvening x2 h_4) fun r_7 => exB r_7 fun v_9 h_10 =>
  Option.bind (f_X11_remember h_10) fun r_13 =>
  Option.bind (f_X1_setDay 100 x1 x2 x3 r_13) fun r_15 =>
  some (Except.ok r_15.1, r_15.2)
/-! LeanCity.raze (I)I -/
noncomputable def f_X11_raze (x1 : Int32) (h : Hp) : Option (Except String Int32 × Hp) :=
  Option.bind (f_X11_checkHouse x1 h) fun r_1 => exB r_1 fun v_3 h_4 =>
  Option.bind (f_X11_checkUp x1 h_4) fun r_7 => exB r_7 fun v_9 h_10 =>
  Option.bind (f_X11_remember h_10) fun r_13 =>
  Option.bind (f_X11_loadOf x1 6 r_13) fun r_15 =>
  Option.bind (f_X6_add 109 (r_15.2 100 13) (r_15.2 100 12) x1 0 0 1 r_15.2) fun r_17 =>
  Option.bind (f_X1_takeDown 100 x1 r_17) fun r_19 =>
  some (Except.ok r_15.1, r_19)
/-! LeanCity.falls (I)I -/
noncomputable def f_X11_falls (x1 : Int32) (h : Hp) : Option (Except String Int32 × Hp) :=
  Option.bind (f_X11_checkEvening x1 h) fun r_1 => exB r_1 fun v_3 h_4 =>
  Option.bind (f_X11_fallsNow x1 h_4) fun r_7 =>
  some (Except.ok r_7.1, r_7.2)
/-! LeanCity.rounds (I)I -/
noncomputable def f_X11_rounds (x1 : Int32) (h : Hp) : Option (Except String Int32 × Hp) :=
  Option.bind (f_X11_checkEvening x1 h) fun r_1 => exB r_1 fun v_3 h_4 =>
  Option.bind (f_X11_fallsNow x1 h_4) fun r_7 =>
  some (Except.ok (r_7.2 4 1), r_7.2)
/-! LeanCity.pulledBy (I)I -/
noncomputable def f_X11_pulledBy (x1 : Int32) (h : Hp) : Option (Int32 × Hp) :=
  Option.bind (f_X1_copyFrom 116 100 h) fun r_1 =>
  Option.bind (f_X1_takeDown 116 x1 r_1) fun r_3 =>
  Option.bind (f_X3_fall 116 500 (r_3 116 12) r_3) fun r_5 =>
  some (1 + (f_J6_bitCount_0f7a4 r_5.1 r_5.2), r_5.2)
/-! LeanCity.pulls (I)I -/
noncomputable def f_X11_pulls (x1 : Int32) (h : Hp) : Option (Except String Int32 × Hp) :=
  Option.bind (f_X11_checkHouse x1 h) fun r_1 => exB r_1 fun v_3 h_4 =>
  Option.bind (f_X11_checkUp x1 h_4) fun r_7 => exB r_7 fun v_9 h_10 =>
  Option.bind (f_X11_pulledBy x1 h_10) fun r_13 =>
  some (Except.ok r_13.1, r_13.2)
/-! LeanCity.key ()I -/
noncomputable def F_X11_key_32 (q_6 : Int32 → Int32 → Int32 → Hp → Option (Int32 × Hp)) (x1 : Int32) (x2 : Int32) (x3 : Int32) (t0 : Int32) (h : Hp) : Option (Int32 × Hp) :=
  if x2 < t0 then
    q_6 x3 t0 (x3 + 1) h
  else
    q_6 x1 x2 (x3 + 1) h
noncomputable def S_X11_key_6 (q_6 : Int32 → Int32 → Int32 → Hp → Option (Int32 × Hp)) (x1 : Int32) (x2 : Int32) (x3 : Int32) (h : Hp) : Option (Int32 × Hp) :=
  if x3 < 8 then
    if (f_X1_isUp 100 x3 h) then
      Option.bind (f_X11_pulledBy x3 h) fun r_3 =>
      F_X11_key_32 q_6 x1 x2 x3 r_3.1 r_3.2
    else
      F_X11_key_32 q_6 x1 x2 x3 0 h
  else
    some (x1, h)
noncomputable def F_X11_key_6 (n : Nat) : Int32 → Int32 → Int32 → Hp → Option (Int32 × Hp) :=
  Nat.rec (motive := fun _ => Int32 → Int32 → Int32 → Hp → Option (Int32 × Hp)) (fun _ _ _ _ => none) (fun _ q => S_X11_key_6 q) n
noncomputable def f_X11_key (h : Hp) : Option (Int32 × Hp) :=
  F_X11_key_6 FU (-1) 0 0 h
/-! LeanCity.spare ()I -/
noncomputable def S_X11_spare_29 (q_14 : Int32 → Int32 → Hp → Option (Int32 × Hp)) (x2 : Int32) (x3 : Int32) (q_29 : Int32 → Int32 → Hp → Option (Int32 × Hp)) (x1 : Int32) (x4 : Int32) (h : Hp) : Option (Int32 × Hp) :=
  if x4 < (h 100 10) then
    Option.bind (f_X11_fallsWithout x4 x2 h) fun r_2 =>
    if (r_2.1 &&& (x3 ^^^ (-1))) = 0 then
      q_29 x1 (x4 + 1) r_2.2
    else
      bnd (x1 &&& ((shl 1 x4) ^^^ (-1))) fun x1_5 =>
      q_29 x1_5 (x4 + 1) r_2.2
  else
    q_14 x1 (x2 + 1) h
noncomputable def F_X11_spare_29 (q_14 : Int32 → Int32 → Hp → Option (Int32 × Hp)) (x2 : Int32) (x3 : Int32) (n : Nat) : Int32 → Int32 → Hp → Option (Int32 × Hp) :=
  Nat.rec (motive := fun _ => Int32 → Int32 → Hp → Option (Int32 × Hp)) (fun _ _ _ => none) (fun _ q => S_X11_spare_29 q_14 x2 x3 q) n
noncomputable def S_X11_spare_14 (q_14 : Int32 → Int32 → Hp → Option (Int32 × Hp)) (x1 : Int32) (x2 : Int32) (h : Hp) : Option (Int32 × Hp) :=
  if x2 < 7 then
    Option.bind (f_X11_fallsNow x2 h) fun r_2 =>
    F_X11_spare_29 q_14 x2 r_2.1 FU x1 0 r_2.2
  else
    some (x1, h)
noncomputable def F_X11_spare_14 (n : Nat) : Int32 → Int32 → Hp → Option (Int32 × Hp) :=
  Nat.rec (motive := fun _ => Int32 → Int32 → Hp → Option (Int32 × Hp)) (fun _ _ _ => none) (fun _ q => S_X11_spare_14 q) n
noncomputable def f_X11_spare (h : Hp) : Option (Int32 × Hp) :=
  bnd ((shl 1 (h 100 10)) - 1) fun x1_1 =>
  F_X11_spare_14 FU x1_1 0 h
/-! LeanCity.weakest ()I -/
noncomputable def S_X11_weakest_6 (q_6 : Int32 → Int32 → Int32 → Hp → Option (Int32 × Hp)) (x1 : Int32) (x2 : Int32) (x3 : Int32) (h : Hp) : Option (Int32 × Hp) :=
  if x3 < 7 then
    Option.bind (f_X11_fallsNow x3 h) fun r_2 =>
    bnd (f_J6_bitCount_0f7a4 r_2.1 r_2.2) fun x4_4 =>
    if x2 < x4_4 then
      q_6 x3 x4_4 (x3 + 1) r_2.2
    else
      q_6 x1 x2 (x3 + 1) r_2.2
  else
    some (x1, h)
noncomputable def F_X11_weakest_6 (n : Nat) : Int32 → Int32 → Int32 → Hp → Option (Int32 × Hp) :=
  Nat.rec (motive := fun _ => Int32 → Int32 → Int32 → Hp → Option (Int32 × Hp)) (fun _ _ _ _ => none) (fun _ q => S_X11_weakest_6 q) n
noncomputable def f_X11_weakest (h : Hp) : Option (Int32 × Hp) :=
  F_X11_weakest_6 FU 0 0 0 h
/-! LeanCity.props (I)I -/
noncomputable def S_X11_props_33 (x3 : Int32) (q_33 : Int32 → Hp → Option (Except String Int32 × Hp)) (x4 : Int32) (h : Hp) : Option (Except String Int32 × Hp) :=
  if x4 < 8 then
    if ((shr x3 x4) &&& 1) = 1 then
      gd (ix x4 8) (
      if (h 100 15) < (h 9 x4.toNatClampNeg) then
        some (Except.ok (-1), h)
      else
        q_33 (x4 + 1) h)
    else
      q_33 (x4 + 1) h
  else
    some (Except.ok x3, h)
noncomputable def F_X11_props_33 (x3 : Int32) (n : Nat) : Int32 → Hp → Option (Except String Int32 × Hp) :=
  Nat.rec (motive := fun _ => Int32 → Hp → Option (Except String Int32 × Hp)) (fun _ _ => none) (fun _ q => S_X11_props_33 x3 q) n
noncomputable def f_X11_props (x1 : Int32) (h : Hp) : Option (Except String Int32 × Hp) :=
  Option.bind (f_X11_checkEvening x1 h) fun r_1 => exB r_1 fun v_3 h_4 =>
  Option.bind (f_X9_measure 100 500 x1 h_4) fun r_7 =>
  Option.bind (f_X9_saggingSet r_7) fun r_9 =>
  F_X11_props_33 r_9 FU 0 r_7
/-! LeanCity.toldHouses ()I -/
noncomputable def F_X11_toldHouses_97 (x2 : Int32) (x3 : Int32) (h : Hp) : Option (Except String Int32 × Hp) :=
  if x3 = 0 then
    some (Except.error "java/lang/IllegalArgumentException", h)
  else
    some (Except.ok x2, h)
noncomputable def F_X11_toldHouses_79 (q_32 : Int32 → Int32 → Int32 → Hp → Option (Except String Int32 × Hp)) (x1 : Int32) (x2 : Int32) (x4 : Int32) (x5 : Int32) (t0 : Int32) (h : Hp) : Option (Except String Int32 × Hp) :=
  if t0 = 0 then
    q_32 x2 t0 (x4 + 1) h
  else
    bnd (x2 ||| (shl 1 x5)) fun x2_2 =>
    q_32 x2_2 t0 (x4 + 1) h
noncomputable def S_X11_toldHouses_32 (x1 : Int32) (q_32 : Int32 → Int32 → Int32 → Hp → Option (Except String Int32 × Hp)) (x2 : Int32) (x3 : Int32) (x4 : Int32) (h : Hp) : Option (Except String Int32 × Hp) :=
  if x3 = 0 then
    F_X11_toldHouses_97 x2 x3 h
  else
    if x4 < x1 then
      Option.bind (f_X10_byteAt x4 h) fun r_3 =>
      if (f_X1_isUp 100 r_3 h) then
        if ((shr x2 r_3) &&& 1) = 0 then
          F_X11_toldHouses_79 q_32 x1 x2 x4 r_3 1 h
        else
          F_X11_toldHouses_79 q_32 x1 x2 x4 r_3 0 h
      else
        F_X11_toldHouses_79 q_32 x1 x2 x4 r_3 0 h
    else
      F_X11_toldHouses_97 x2 x3 h
noncomputable def F_X11_toldHouses_32 (x1 : Int32) (n : Nat) : Int32 → Int32 → Int32 → Hp → Option (Except String Int32 × Hp) :=
  Nat.rec (motive := fun _ => Int32 → Int32 → Int32 → Hp → Option (Except String Int32 × Hp)) (fun _ _ _ _ => none) (fun _ q => S_X11_toldHouses_32 x1 q) n
noncomputable def f_X11_toldHouses (h : Hp) : Option (Except String Int32 × Hp) :=
  bnd (up1 h 2 1 0) fun h_1 =>
  if 5 < (h 2 1) then
    F_X11_toldHouses_32 (h 2 1) FU 0 0 0 h_1
  else
    F_X11_toldHouses_32 (h 2 1) FU 0 1 0 h_1
/-! LeanCity.order (I)I -/
noncomputable def f_X11_order (x1 : Int32) (h : Hp) : Option (Except String Int32 × Hp) :=
  Option.bind (f_X11_toldHouses h) fun r_1 => exB r_1 fun v_3 h_4 =>
  Option.bind (f_X8_solve 100 500 v_3 h_4) fun r_7 =>
  if x1 < 0 then
    some (Except.ok (-1), r_7)
  else
    if x1 < (f_J6_bitCount_0f7a4 v_3 r_7) then
      if x1 < 5 then
        gd (ix x1 5) (
        some (Except.ok (r_7 16 x1.toNatClampNeg), r_7))
      else
        some (Except.ok (-1), r_7)
    else
      some (Except.ok (-1), r_7)
/-! LeanCity.means ()I -/
noncomputable def f_X11_means (h : Hp) : Option (Except String Int32 × Hp) :=
  Option.bind (f_X11_toldHouses h) fun r_1 => exB r_1 fun v_3 h_4 =>
  Option.bind (f_X8_solve 100 500 v_3 h_4) fun r_7 =>
  some (Except.ok (r_7 15 1), r_7)
/-! LeanCity.collectBreaks ()V -/
noncomputable def F_X11_collectBreaks_67 (x1 : Int32) (x2 : Int32) (h : Hp) : Option (Except String Unit × Hp) :=
  if x2 = 0 then
    some (Except.error "java/lang/IllegalArgumentException", h)
  else
    Option.bind (f_X0_tell x1 h) fun r_2 =>
    Option.bind (f_X0_collect 100 116 r_2) fun r_4 =>
    some (Except.ok (), r_4)
noncomputable def S_X11_collectBreaks_36 (x1 : Int32) (q_36 : Int32 → Int32 → Hp → Option (Except String Unit × Hp)) (x2 : Int32) (x3 : Int32) (h : Hp) : Option (Except String Unit × Hp) :=
  if x2 = 0 then
    F_X11_collectBreaks_67 x1 x2 h
  else
    if x3 < x1 then
      Option.bind (f_X10_byteAt x3 h) fun r_3 =>
      bnd (b2i (f_X1_isHouse 100 r_3 h)) fun x2_5 =>
      q_36 x2_5 (x3 + 2) h
    else
      F_X11_collectBreaks_67 x1 x2 h
noncomputable def F_X11_collectBreaks_36 (x1 : Int32) (n : Nat) : Int32 → Int32 → Hp → Option (Except String Unit × Hp) :=
  Nat.rec (motive := fun _ => Int32 → Int32 → Hp → Option (Except String Unit × Hp)) (fun _ _ _ => none) (fun _ q => S_X11_collectBreaks_36 x1 q) n
noncomputable def f_X11_collectBreaks (h : Hp) : Option (Except String Unit × Hp) :=
  bnd (up1 h 2 1 0) fun h_1 =>
  if 40 < (h 2 1) then
    F_X11_collectBreaks_36 (h 2 1) FU 0 0 h_1
  else
    if (rem (h 2 1) 2) = 0 then
      F_X11_collectBreaks_36 (h 2 1) FU 1 0 h_1
    else
      F_X11_collectBreaks_36 (h 2 1) FU 0 0 h_1
/-! LeanCity.broken (Z)I -/
noncomputable def f_X11_broken (x1 : Int32) (h : Hp) : Option (Except String Int32 × Hp) :=
  Option.bind (f_X11_collectBreaks h) fun r_1 => exB r_1 fun v_3 h_4 =>
  if x1 = 0 then
    some (Except.ok (h_4 23 1), h_4)
  else
    if 0 < (h_4 23 1) then
      some (Except.ok (h_4 24 0), h_4)
    else
      some (Except.ok (-1), h_4)
/-! LeanCity.tap ()I -/
noncomputable def f_X11_tap (h : Hp) : Option (Except String Int32 × Hp) :=
  Option.bind (f_X11_collectBreaks h) fun r_1 => exB r_1 fun v_3 h_4 =>
  if (h_4 23 1) < 2 then
    some (Except.ok (-1), h_4)
  else
    Option.bind (f_X0_bestTap (h_4 100 11) h_4) fun r_8 =>
    some (Except.ok r_8, h_4)
/-! LeanCity.sagWed (II)I -/
noncomputable def f_X11_sagWed (x1 : Int32) (x2 : Int32) (h : Hp) : Option (Int32 × Hp) :=
  Option.bind (f_X1_copyFrom 116 100 h) fun r_1 =>
  Option.bind (f_X1_marry 116 x1 x2 r_1) fun r_3 =>
  Option.bind (f_X9_measure 116 500 (r_3 116 12) r_3) fun r_5 =>
  Option.bind (f_X9_greatestSag (r_5 116 11) r_5) fun r_7 =>
  some (r_7, r_5)
/-! LeanCity.eases ()I -/
noncomputable def F_X11_eases_71 (q_19 : Int32 → Int32 → Int32 → Hp → Option (Int32 × Hp)) (q_30 : Int32 → Int32 → Int32 → Hp → Option (Int32 × Hp)) (x1 : Int32) (x2 : Int32) (x3 : Int32) (x4 : Int32) (t0 : Int32) (h : Hp) : Option (Int32 × Hp) :=
  if t0 < x1 then
    bnd ((8 * x3) + x4) fun x2_2 =>
    q_30 t0 x2_2 (x4 + 1) h
  else
    q_30 x1 x2 (x4 + 1) h
noncomputable def S_X11_eases_30 (q_19 : Int32 → Int32 → Int32 → Hp → Option (Int32 × Hp)) (x3 : Int32) (q_30 : Int32 → Int32 → Int32 → Hp → Option (Int32 × Hp)) (x1 : Int32) (x2 : Int32) (x4 : Int32) (h : Hp) : Option (Int32 × Hp) :=
  if x4 < 8 then
    if (f_X1_isUp 100 x3 h) then
      if (f_X1_isUp 100 x4 h) then
        Option.bind (f_X11_sagWed x3 x4 h) fun r_4 =>
        F_X11_eases_71 q_19 q_30 x1 x2 x3 x4 r_4.1 r_4.2
      else
        F_X11_eases_71 q_19 q_30 x1 x2 x3 x4 x1 h
    else
      F_X11_eases_71 q_19 q_30 x1 x2 x3 x4 x1 h
  else
    q_19 x1 x2 (x3 + 1) h
noncomputable def F_X11_eases_30 (q_19 : Int32 → Int32 → Int32 → Hp → Option (Int32 × Hp)) (x3 : Int32) (n : Nat) : Int32 → Int32 → Int32 → Hp → Option (Int32 × Hp) :=
  Nat.rec (motive := fun _ => Int32 → Int32 → Int32 → Hp → Option (Int32 × Hp)) (fun _ _ _ _ => none) (fun _ q => S_X11_eases_30 q_19 x3 q) n
noncomputable def S_X11_eases_19 (q_19 : Int32 → Int32 → Int32 → Hp → Option (Int32 × Hp)) (x1 : Int32) (x2 : Int32) (x3 : Int32) (h : Hp) : Option (Int32 × Hp) :=
  if x3 < 8 then
    F_X11_eases_30 q_19 x3 FU x1 x2 (x3 + 1) h
  else
    some (x2, h)
noncomputable def F_X11_eases_19 (n : Nat) : Int32 → Int32 → Int32 → Hp → Option (Int32 × Hp) :=
  Nat.rec (motive := fun _ => Int32 → Int32 → Int32 → Hp → Option (Int32 × Hp)) (fun _ _ _ _ => none) (fun _ q => S_X11_eases_19 q) n
noncomputable def f_X11_eases (h : Hp) : Option (Int32 × Hp) :=
  Option.bind (f_X11_measured h) fun r_1 =>
  Option.bind (f_X9_greatestSag (r_1 100 11) r_1) fun r_3 =>
  F_X11_eases_19 FU r_3 (-1) 0 r_1
/-! LeanCity.sagging ()I -/
noncomputable def f_X11_sagging (h : Hp) : Option (Int32 × Hp) :=
  Option.bind (f_X11_measured h) fun r_1 =>
  Option.bind (f_X9_greatestSag (r_1 100 11) r_1) fun r_3 =>
  some (r_3, r_1)
/-! LeanCity.ring (I)Z -/
noncomputable def f_X11_ring (x1 : Int32) (h : Hp) : Option (Except String Bool × Hp) :=
  Option.bind (f_X11_checkHouse x1 h) fun r_1 => exB r_1 fun v_3 h_4 =>
  Option.bind (f_X1_onward 100 x1 h_4) fun r_7 =>
  if ((shr r_7 x1) &&& 1) = 1 then
    some (Except.ok true, h_4)
  else
    some (Except.ok false, h_4)
/-! LeanCity.held (I)I -/
noncomputable def f_X11_held (x1 : Int32) (h : Hp) : Option (Except String Int32 × Hp) :=
  Option.bind (f_X11_checkHouse x1 h) fun r_1 => exB r_1 fun v_3 h_4 =>
  Option.bind (f_X1_onward 100 x1 h_4) fun r_7 =>
  some (Except.ok r_7, h_4)
/-! LeanCity.ends ()I -/
noncomputable def S_X11_ends_4 (h : Hp) (q_4 : Int32 → Int32 → Option Int32) (x1 : Int32) (x2 : Int32) : Option Int32 :=
  if x2 < 8 then
    if (f_X1_isUp 100 x2 h) then
      Option.bind (f_X1_leansOn 100 x2 h) fun r_3 =>
      if r_3 = 0 then
        bnd (x1 ||| (shl 1 x2)) fun x1_6 =>
        q_4 x1_6 (x2 + 1)
      else
        q_4 x1 (x2 + 1)
    else
      q_4 x1 (x2 + 1)
  else
    some x1
noncomputable def F_X11_ends_4 (h : Hp) (n : Nat) : Int32 → Int32 → Option Int32 :=
  Nat.rec (motive := fun _ => Int32 → Int32 → Option Int32) (fun _ _ => none) (fun _ q => S_X11_ends_4 h q) n
noncomputable def f_X11_ends (h : Hp) : Option Int32 :=
  F_X11_ends_4 h FU 0 0
/-! LeanCity.pairs (I)I -/
noncomputable def f_X11_pairs (x0 : Int32) (h : Hp) : Int32 :=
  ((x0 * (x0 - 1)) / 2)
/-! LeanCity.apart (I)I -/
noncomputable def S_X11_apart_54 (x2 : Int32) (q_54 : Int32 → Int32 → Int32 → Hp → Option (Except String Int32 × Hp)) (x3 : Int32) (x4 : Int32) (x5 : Int32) (h : Hp) : Option (Except String Int32 × Hp) :=
  if x5 < 8 then
    if ((shr x4 x5) &&& 1) = 1 then
      Option.bind (f_X1_pieceOf 100 x5 x2 h) fun r_3 =>
      bnd (x3 - (f_X11_pairs (f_J6_bitCount_0f7a4 r_3 h) h)) fun x3_5 =>
      bnd (x4 &&& (r_3 ^^^ (-1))) fun x4_7 =>
      q_54 x3_5 x4_7 (x5 + 1) h
    else
      q_54 x3 x4 (x5 + 1) h
  else
    some (Except.ok x3, h)
noncomputable def F_X11_apart_54 (x2 : Int32) (n : Nat) : Int32 → Int32 → Int32 → Hp → Option (Except String Int32 × Hp) :=
  Nat.rec (motive := fun _ => Int32 → Int32 → Int32 → Hp → Option (Except String Int32 × Hp)) (fun _ _ _ _ => none) (fun _ q => S_X11_apart_54 x2 q) n
noncomputable def f_X11_apart (x1 : Int32) (h : Hp) : Option (Except String Int32 × Hp) :=
  Option.bind (f_X11_checkHouse x1 h) fun r_1 => exB r_1 fun v_3 h_4 =>
  if (f_X1_isUp 100 x1 h_4) then
    Option.bind (f_X1_pieceOf 100 x1 (h_4 100 11) h_4) fun r_8 =>
    bnd (r_8 &&& ((shl 1 x1) ^^^ (-1))) fun x2_10 =>
    bnd (f_X11_pairs (f_J6_bitCount_0f7a4 x2_10 h_4) h_4) fun x3_12 =>
    F_X11_apart_54 x2_10 FU x3_12 x2_10 0 h_4
  else
    some (Except.ok 0, h_4)
/-! LeanCity.pieces ()I -/
noncomputable def S_X11_pieces_12 (h : Hp) (q_12 : Int32 → Int32 → Int32 → Option Int32) (x1 : Int32) (x2 : Int32) (x3 : Int32) : Option Int32 :=
  if x3 < 8 then
    if ((shr x2 x3) &&& 1) = 1 then
      Option.bind (f_X1_pieceOf 100 x3 (h 100 11) h) fun r_3 =>
      bnd (x2 &&& (r_3 ^^^ (-1))) fun x2_5 =>
      q_12 (x1 + 1) x2_5 (x3 + 1)
    else
      q_12 x1 x2 (x3 + 1)
  else
    some x1
noncomputable def F_X11_pieces_12 (h : Hp) (n : Nat) : Int32 → Int32 → Int32 → Option Int32 :=
  Nat.rec (motive := fun _ => Int32 → Int32 → Int32 → Option Int32) (fun _ _ _ => none) (fun _ q => S_X11_pieces_12 h q) n
noncomputable def f_X11_pieces (h : Hp) : Option Int32 :=
  F_X11_pieces_12 h FU 0 (h 100 11) 0
/-! LeanCity.straight ()I -/
noncomputable def S_X11_straight_4 (h : Hp) (q_4 : Int32 → Int32 → Option Int32) (x1 : Int32) (x2 : Int32) : Option Int32 :=
  if x2 < 8 then
    if (f_X1_isUp 100 x2 h) then
      Option.bind (f_X1_touching 100 x2 h) fun r_3 =>
      if r_3 = 0 then
        bnd (x1 ||| (shl 1 x2)) fun x1_6 =>
        q_4 x1_6 (x2 + 1)
      else
        q_4 x1 (x2 + 1)
    else
      q_4 x1 (x2 + 1)
  else
    some x1
noncomputable def F_X11_straight_4 (h : Hp) (n : Nat) : Int32 → Int32 → Option Int32 :=
  Nat.rec (motive := fun _ => Int32 → Int32 → Option Int32) (fun _ _ => none) (fun _ q => S_X11_straight_4 h q) n
noncomputable def f_X11_straight (h : Hp) : Option Int32 :=
  F_X11_straight_4 h FU 0 0
/-! LeanCity.leans ()I -/
noncomputable def S_X11_leans_4 (h : Hp) (q_4 : Int32 → Int32 → Option Int32) (x1 : Int32) (x2 : Int32) : Option Int32 :=
  if x2 < 8 then
    Option.bind (f_X1_leansOn 100 x2 h) fun r_2 =>
    bnd (x1 + (f_J6_bitCount_0f7a4 r_2 h)) fun x1_4 =>
    q_4 x1_4 (x2 + 1)
  else
    some x1
noncomputable def F_X11_leans_4 (h : Hp) (n : Nat) : Int32 → Int32 → Option Int32 :=
  Nat.rec (motive := fun _ => Int32 → Int32 → Option Int32) (fun _ _ => none) (fun _ q => S_X11_leans_4 h q) n
noncomputable def f_X11_leans (h : Hp) : Option Int32 :=
  F_X11_leans_4 h FU 0 0
/-! LeanCity.twins ()I -/
noncomputable def S_X11_twins_14 (q_4 : Int32 → Int32 → Option Int32) (h : Hp) (x2 : Int32) (q_14 : Int32 → Int32 → Option Int32) (x1 : Int32) (x3 : Int32) : Option Int32 :=
  if x3 < 8 then
    if (f_X1_isUp 100 x2 h) then
      if (f_X1_isUp 100 x3 h) then
        gd (ix x2 8) (
        gd (ix x3 8) (
        if (h 101 x2.toNatClampNeg) = (h 101 x3.toNatClampNeg) then
          gd (ix x2 8) (
          gd (ix x3 8) (
          if (h 102 x2.toNatClampNeg) = (h 102 x3.toNatClampNeg) then
            q_14 (x1 + 1) (x3 + 1)
          else
            q_14 x1 (x3 + 1)))
        else
          q_14 x1 (x3 + 1)))
      else
        q_14 x1 (x3 + 1)
    else
      q_14 x1 (x3 + 1)
  else
    q_4 x1 (x2 + 1)
noncomputable def F_X11_twins_14 (q_4 : Int32 → Int32 → Option Int32) (h : Hp) (x2 : Int32) (n : Nat) : Int32 → Int32 → Option Int32 :=
  Nat.rec (motive := fun _ => Int32 → Int32 → Option Int32) (fun _ _ => none) (fun _ q => S_X11_twins_14 q_4 h x2 q) n
noncomputable def S_X11_twins_4 (h : Hp) (q_4 : Int32 → Int32 → Option Int32) (x1 : Int32) (x2 : Int32) : Option Int32 :=
  if x2 < 8 then
    F_X11_twins_14 q_4 h x2 FU x1 (x2 + 1)
  else
    some x1
noncomputable def F_X11_twins_4 (h : Hp) (n : Nat) : Int32 → Int32 → Option Int32 :=
  Nat.rec (motive := fun _ => Int32 → Int32 → Option Int32) (fun _ _ => none) (fun _ q => S_X11_twins_4 h q) n
noncomputable def f_X11_twins (h : Hp) : Option Int32 :=
  F_X11_twins_4 h FU 0 0
/-! LeanCity.oldest ()I -/
noncomputable def S_X11_oldest_6 (h : Hp) (q_6 : Int32 → Int32 → Int32 → Option Int32) (x1 : Int32) (x2 : Int32) (x3 : Int32) : Option Int32 :=
  if x3 < 8 then
    if (f_X1_isUp 100 x3 h) then
      gd (ix x3 8) (
      if x2 < (h 104 x3.toNatClampNeg) then
        gd (ix x3 8) (
        bnd (h 104 x3.toNatClampNeg) fun x2_6 =>
        q_6 x3 x2_6 (x3 + 1))
      else
        q_6 x1 x2 (x3 + 1))
    else
      q_6 x1 x2 (x3 + 1)
  else
    some x1
noncomputable def F_X11_oldest_6 (h : Hp) (n : Nat) : Int32 → Int32 → Int32 → Option Int32 :=
  Nat.rec (motive := fun _ => Int32 → Int32 → Int32 → Option Int32) (fun _ _ _ => none) (fun _ q => S_X11_oldest_6 h q) n
noncomputable def f_X11_oldest (h : Hp) : Option Int32 :=
  F_X11_oldest_6 h FU (-1) (-1) 0
/-! LeanCity.gates (I)I -/
noncomputable def S_X11_gates_23 (x1 : Int32) (q_23 : Int32 → Hp → Option (Except String Int32 × Hp)) (x2 : Int32) (h : Hp) : Option (Except String Int32 × Hp) :=
  if x2 < 6 then
    Option.bind (f_X1_put 116 x2 (-1) h) fun r_2 =>
    q_23 (x2 + 1) r_2
  else
    Option.bind (f_X9_measure 116 500 (h 116 12) h) fun r_4 =>
    Option.bind (f_X7_solve 116 r_4) fun r_6 =>
    if x1 = (-1) then
      some (Except.ok r_6.1, r_6.2)
    else
      Option.bind (f_X7_placeOf x1 r_6.2) fun r_9 =>
      some (Except.ok r_9, r_6.2)
noncomputable def F_X11_gates_23 (x1 : Int32) (n : Nat) : Int32 → Hp → Option (Except String Int32 × Hp) :=
  Nat.rec (motive := fun _ => Int32 → Hp → Option (Except String Int32 × Hp)) (fun _ _ => none) (fun _ q => S_X11_gates_23 x1 q) n
noncomputable def F_X11_gates_10 (x1 : Int32) (h : Hp) : Option (Except String Int32 × Hp) :=
  Option.bind (f_X1_copyFrom 116 100 h) fun r_1 =>
  F_X11_gates_23 x1 FU 0 r_1
noncomputable def f_X11_gates (x1 : Int32) (h : Hp) : Option (Except String Int32 × Hp) :=
  if x1 = (-1) then
    F_X11_gates_10 x1 h
  else
    Option.bind (f_X11_checkPerson x1 h) fun r_2 => exB r_2 fun v_4 h_5 =>
    F_X11_gates_10 x1 h_5
/-! LeanCity.checkTwoPeople (II)V -/
noncomputable def f_X11_checkTwoPeople (x1 : Int32) (x2 : Int32) (h : Hp) : Option (Except String Unit × Hp) :=
  Option.bind (f_X11_checkPerson x1 h) fun r_1 => exB r_1 fun v_3 h_4 =>
  Option.bind (f_X11_checkPerson x2 h_4) fun r_7 => exB r_7 fun v_9 h_10 =>
  if x1 = x2 then
    some (Except.error "java/lang/IllegalArgumentException", h_10)
  else
    some (Except.ok (), h_10)
/-! LeanCity.swap (II)Z -/
noncomputable def f_X11_swap (x1 : Int32) (x2 : Int32) (h : Hp) : Option (Except String Bool × Hp) :=
  Option.bind (f_X11_checkTwoPeople x1 x2 h) fun r_1 => exB r_1 fun v_3 h_4 =>
  Option.bind (f_X11_fallsNow (h_4 100 12) h_4) fun r_7 =>
  bnd (f_J6_bitCount_0f7a4 r_7.1 r_7.2) fun x3_9 =>
  Option.bind (f_X1_copyFrom 116 100 r_7.2) fun r_11 =>
  Option.bind (f_X1_placeOf 100 x2 r_11) fun r_13 =>
  Option.bind (f_X1_put 116 x1 r_13 r_11) fun r_15 =>
  Option.bind (f_X1_placeOf 100 x1 r_15) fun r_17 =>
  Option.bind (f_X1_put 116 x2 r_17 r_15) fun r_19 =>
  Option.bind (f_X3_fall 116 500 (r_19 116 12) r_19) fun r_21 =>
  if (f_J6_bitCount_0f7a4 r_21.1 r_21.2) < x3_9 then
    some (Except.ok true, r_21.2)
  else
    some (Except.ok false, r_21.2)
/-! LeanCity.gain (III)I -/
noncomputable def f_X11_gain (x1 : Int32) (x2 : Int32) (x3 : Int32) (h : Hp) : Option Int32 :=
  if x2 = 1 then
    if x3 = 1 then
      some (-3)
    else
      some 2
  else
    if x3 = 0 then
      some 3
    else
      Option.bind (f_X1_holdOf 100 x1 h) fun r_4 =>
      some ((r_4 / 10) - 4)
/-! LeanCity.rests (II)I -/
noncomputable def S_X11_rests_11 (x1 : Int32) (x2 : Int32) (q_11 : Int32 → Int32 → Hp → Option (Except String Int32 × Hp)) (x3 : Int32) (x4 : Int32) (h : Hp) : Option (Except String Int32 × Hp) :=
  if x4 < 4 then
    Option.bind (f_X11_gain x1 (1 - (shr x4 1)) (x4 &&& 1) h) fun r_2 =>
    Option.bind (f_X11_gain x1 (shr x4 1) (x4 &&& 1) h) fun r_4 =>
    if r_4 < r_2 then
      q_11 x3 (x4 + 1) h
    else
      Option.bind (f_X11_gain x2 (1 - (x4 &&& 1)) (shr x4 1) h) fun r_7 =>
      Option.bind (f_X11_gain x2 (x4 &&& 1) (shr x4 1) h) fun r_9 =>
      if r_9 < r_7 then
        q_11 x3 (x4 + 1) h
      else
        bnd (x3 ||| (shl 1 x4)) fun x3_12 =>
        q_11 x3_12 (x4 + 1) h
  else
    some (Except.ok x3, h)
noncomputable def F_X11_rests_11 (x1 : Int32) (x2 : Int32) (n : Nat) : Int32 → Int32 → Hp → Option (Except String Int32 × Hp) :=
  Nat.rec (motive := fun _ => Int32 → Int32 → Hp → Option (Except String Int32 × Hp)) (fun _ _ _ => none) (fun _ q => S_X11_rests_11 x1 x2 q) n
noncomputable def f_X11_rests (x1 : Int32) (x2 : Int32) (h : Hp) : Option (Except String Int32 × Hp) :=
  Option.bind (f_X11_checkTwoPeople x1 x2 h) fun r_1 => exB r_1 fun v_3 h_4 =>
  F_X11_rests_11 x1 x2 FU 0 0 h_4
/-! LeanCity.odds (I)I -/
noncomputable def S_X11_odds_20 (q_12 : Int32 → Int32 → Hp → Option (Except String Int32 × Hp)) (x1 : Int32) (x3 : Int32) (q_20 : Int32 → Int32 → Hp → Option (Except String Int32 × Hp)) (x2 : Int32) (x4 : Int32) (h : Hp) : Option (Except String Int32 × Hp) :=
  if x4 < 6 then
    Option.bind (f_X1_placeOf 100 x4 h) fun r_2 =>
    if r_2 = (-1) then
      q_20 x2 (x4 + 1) h
    else
      bnd ((x2 * (100 - (h 100 14))) / 100) fun x2_5 =>
      q_20 x2_5 (x4 + 1) h
  else
    q_12 x2 (x3 + 1) h
noncomputable def F_X11_odds_20 (q_12 : Int32 → Int32 → Hp → Option (Except String Int32 × Hp)) (x1 : Int32) (x3 : Int32) (n : Nat) : Int32 → Int32 → Hp → Option (Except String Int32 × Hp) :=
  Nat.rec (motive := fun _ => Int32 → Int32 → Hp → Option (Except String Int32 × Hp)) (fun _ _ _ => none) (fun _ q => S_X11_odds_20 q_12 x1 x3 q) n
noncomputable def S_X11_odds_12 (x1 : Int32) (q_12 : Int32 → Int32 → Hp → Option (Except String Int32 × Hp)) (x2 : Int32) (x3 : Int32) (h : Hp) : Option (Except String Int32 × Hp) :=
  if x3 < x1 then
    F_X11_odds_20 q_12 x1 x3 FU x2 0 h
  else
    some (Except.ok x2, h)
noncomputable def F_X11_odds_12 (x1 : Int32) (n : Nat) : Int32 → Int32 → Hp → Option (Except String Int32 × Hp) :=
  Nat.rec (motive := fun _ => Int32 → Int32 → Hp → Option (Except String Int32 × Hp)) (fun _ _ _ => none) (fun _ q => S_X11_odds_12 x1 q) n
noncomputable def f_X11_odds (x1 : Int32) (h : Hp) : Option (Except String Int32 × Hp) :=
  Option.bind (f_X11_checkAmount x1 0 4 h) fun r_1 => exB r_1 fun v_3 h_4 =>
  F_X11_odds_12 x1 FU 10000 0 h_4
/-! LeanCity.there (I)I -/
noncomputable def S_X11_there_8 (x1 : Int32) (q_8 : Int32 → Int32 → Hp → Option (Except String Int32 × Hp)) (x2 : Int32) (x3 : Int32) (h : Hp) : Option (Except String Int32 × Hp) :=
  if x3 < 6 then
    Option.bind (f_X1_placeOf 100 x3 h) fun r_2 =>
    if r_2 = (-1) then
      q_8 x2 (x3 + 1) h
    else
      Option.bind (f_X1_isThere 100 x3 x1 h) fun r_5 =>
      if r_5 then
        bnd (x2 ||| (shl 1 x3)) fun x2_8 =>
        q_8 x2_8 (x3 + 1) h
      else
        q_8 x2 (x3 + 1) h
  else
    some (Except.ok x2, h)
noncomputable def F_X11_there_8 (x1 : Int32) (n : Nat) : Int32 → Int32 → Hp → Option (Except String Int32 × Hp) :=
  Nat.rec (motive := fun _ => Int32 → Int32 → Hp → Option (Except String Int32 × Hp)) (fun _ _ _ => none) (fun _ q => S_X11_there_8 x1 q) n
noncomputable def f_X11_there (x1 : Int32) (h : Hp) : Option (Except String Int32 × Hp) :=
  Option.bind (f_X11_checkEvening x1 h) fun r_1 => exB r_1 fun v_3 h_4 =>
  F_X11_there_8 x1 FU 0 0 h_4
/-! LeanCity.down ()I -/
noncomputable def S_X11_down_13 (q_13 : Int32 → Hp → Option (Int32 × Hp)) (x1 : Int32) (h : Hp) : Option (Int32 × Hp) :=
  if 70 < x1 then
    some ((-1), h)
  else
    Option.bind (f_X3_pass 116 500 0 h) fun r_2 =>
    if (r_2 116 11) = (r_2 100 11) then
      q_13 (x1 + 1) r_2
    else
      some (x1, r_2)
noncomputable def F_X11_down_13 (n : Nat) : Int32 → Hp → Option (Int32 × Hp) :=
  Nat.rec (motive := fun _ => Int32 → Hp → Option (Int32 × Hp)) (fun _ _ => none) (fun _ q => S_X11_down_13 q) n
noncomputable def f_X11_down (h : Hp) : Option (Int32 × Hp) :=
  Option.bind (f_X1_copyFrom 116 100 h) fun r_1 =>
  F_X11_down_13 FU 1 r_1
/-! LeanCity.ahead (I)I -/
noncomputable def f_X11_ahead (x1 : Int32) (h : Hp) : Option (Except String Int32 × Hp) :=
  Option.bind (f_X11_checkAmount x1 0 70 h) fun r_1 => exB r_1 fun v_3 h_4 =>
  Option.bind (f_X1_copyFrom 116 100 h_4) fun r_7 =>
  Option.bind (f_X3_run 116 500 x1 0 r_7) fun r_9 =>
  some (Except.ok (r_9 116 11), r_9)
/-! LeanCity.trial (IZ)I -/
noncomputable def f_X11_trial (x1 : Int32) (x2 : Int32) (h : Hp) : Option (Except String Int32 × Hp) :=
  Option.bind (f_X11_checkAmount x1 0 70 h) fun r_1 => exB r_1 fun v_3 h_4 =>
  Option.bind (f_X1_copyFrom 116 100 h_4) fun r_7 =>
  Option.bind (f_X3_run 116 500 x1 1 r_7) fun r_9 =>
  if x2 = 0 then
    some (Except.ok (r_9 116 11), r_9)
  else
    Option.bind (f_X1_holdOfAll 116 r_9) fun r_12 =>
    some (Except.ok r_12, r_9)
/-! LeanCity.span (IZ)I -/
noncomputable def S_X11_span_16 (x1 : Int32) (x2 : Int32) (q_16 : Int32 → Int32 → Int32 → Hp → Option (Except String Int32 × Hp)) (x3 : Int32) (x4 : Int32) (x5 : Int32) (h : Hp) : Option (Except String Int32 × Hp) :=
  if 6 < x5 then
    if x2 = 0 then
      some (Except.ok x3, h)
    else
      some (Except.ok x4, h)
  else
    Option.bind (f_X1_copyFrom 116 100 h) fun r_3 =>
    bnd (up1 r_3 116 17 x5) fun h_5 =>
    Option.bind (f_X3_run 116 500 x1 1 h_5) fun r_7 =>
    bnd (f_J6_bitCount_0f7a4 (r_7 116 11) r_7) fun x6_9 =>
    bnd (imin x3 x6_9) fun x3_11 =>
    bnd (imax x4 x6_9) fun x4_13 =>
    q_16 x3_11 x4_13 (x5 + 1) r_7
noncomputable def F_X11_span_16 (x1 : Int32) (x2 : Int32) (n : Nat) : Int32 → Int32 → Int32 → Hp → Option (Except String Int32 × Hp) :=
  Nat.rec (motive := fun _ => Int32 → Int32 → Int32 → Hp → Option (Except String Int32 × Hp)) (fun _ _ _ _ => none) (fun _ q => S_X11_span_16 x1 x2 q) n
noncomputable def f_X11_span (x1 : Int32) (x2 : Int32) (h : Hp) : Option (Except String Int32 × Hp) :=
  Option.bind (f_X11_checkAmount x1 0 70 h) fun r_1 => exB r_1 fun v_3 h_4 =>
  F_X11_span_16 x1 x2 FU 8 0 1 h_4
/-! LeanCity.led (IZ)I -/
noncomputable def S_X11_led_10 (x1 : Int32) (x2 : Int32) (q_10 : Int32 → Int32 → Hp → Option (Except String Int32 × Hp)) (x3 : Int32) (x4 : Int32) (h : Hp) : Option (Except String Int32 × Hp) :=
  if x4 < (h 109 1) then
    Option.bind (f_X6_cell 109 x4 2 h) fun r_2 =>
    if r_2 = x1 then
      if x2 = 0 then
        q_10 (x3 + 1) (x4 + 1) h
      else
        Option.bind (f_X6_cell 109 x4 0 h) fun r_6 =>
        some (Except.ok r_6, h)
    else
      q_10 x3 (x4 + 1) h
  else
    if x2 = 0 then
      some (Except.ok x3, h)
    else
      some (Except.ok (-1), h)
noncomputable def F_X11_led_10 (x1 : Int32) (x2 : Int32) (n : Nat) : Int32 → Int32 → Hp → Option (Except String Int32 × Hp) :=
  Nat.rec (motive := fun _ => Int32 → Int32 → Hp → Option (Except String Int32 × Hp)) (fun _ _ _ => none) (fun _ q => S_X11_led_10 x1 x2 q) n
noncomputable def f_X11_led (x1 : Int32) (x2 : Int32) (h : Hp) : Option (Except String Int32 × Hp) :=
  Option.bind (f_X11_checkHouse x1 h) fun r_1 => exB r_1 fun v_3 h_4 =>
  F_X11_led_10 x1 x2 FU 0 0 h_4
/-! LeanCity.log (II)I -/
noncomputable def F_X11_log_10 (h : Hp) : Option (Except String Int32 × Hp) :=
  some (Except.error "java/util/NoSuchElementException", h)
noncomputable def f_X11_log (x1 : Int32) (x2 : Int32) (h : Hp) : Option (Except String Int32 × Hp) :=
  if x2 < 0 then
    F_X11_log_10 h
  else
    if x2 < 6 then
      Option.bind (f_X6_cell 109 x1 x2 h) fun r_3 =>
      some (Except.ok r_3, h)
    else
      F_X11_log_10 h
/-! LeanCity.seed (I)I -/
noncomputable def f_X11_seed (x1 : Int32) (h : Hp) : Option (Int32 × Hp) :=
  bnd (up1 h 100 17 x1) fun h_1 =>
  some (h 100 17, h_1)
/-! LeanCity.undo ()Z -/
noncomputable def f_X11_undo (h : Hp) : Option (Bool × Hp) :=
  if 0 < (h 1 14) then
    Option.bind (f_X11_pastAt ((h 1 14) - 1) h) fun r_2 =>
    onN r_2 (
      some (false, h)) fun kn_4 => gd (cityB kn_4 = true) (
      Option.bind (f_X1_copyFrom 100 kn_4 h) fun r_6 =>
      bnd (up1 r_6 1 14 ((r_6 1 14) - 1)) fun h_8 =>
      some (true, h_8))
  else
    some (false, h)
/-! LeanCity.image ()V -/
noncomputable def f_X11_image (h : Hp) : Option Hp :=
  Option.bind (f_X1_copyFrom 132 100 h) fun r_1 =>
  Option.bind (f_X4_copyFrom 532 500 r_1) fun r_3 =>
  bnd (up1 r_3 1 11 1) fun h_5 =>
  some h_5
/-! LeanCity.back ()Z -/
noncomputable def f_X11_back (h : Hp) : Option (Bool × Hp) :=
  if (h 1 11) = 0 then
    some (false, h)
  else
    Option.bind (f_X1_copyFrom 100 132 h) fun r_2 =>
    Option.bind (f_X4_copyFrom 500 532 r_2) fun r_4 =>
    bnd (up1 r_4 1 14 0) fun h_6 =>
    some (true, h_6)
/-! LeanCityModel.thrown ()I -/
noncomputable def f_X12_thrown (h : Hp) : Int32 :=
  (h 30 0)
/-! LeanCityModel.throwsIf (ZI)Z -/
noncomputable def f_X12_throwsIf (x1 : Int32) (x2 : Int32) (h : Hp) : Option (Bool × Hp) :=
  if x1 = 0 then
    Option.bind (toB x1) fun b_2 =>
    some (b_2, h)
  else
    bnd (up1 h 30 0 x2) fun h_4 =>
    Option.bind (toB x1) fun b_6 =>
    some (b_6, h_4)
/-! LeanCityModel.in (III)Z -/
noncomputable def f_X12_in (x0 : Int32) (x1 : Int32) (x2 : Int32) (h : Hp) : Bool :=
  if x0 < x1 then
    false
  else
    if x2 < x0 then
      false
    else
      true
/-! LeanCityModel.has (II)Z -/
noncomputable def f_X12_has (x0 : Int32) (x1 : Int32) (h : Hp) : Bool :=
  if ((shr x0 x1) &&& 1) = 1 then
    true
  else
    false
/-! LeanCityModel.image ()V -/
noncomputable def S_X12_image_7 (q_7 : Int32 → Hp → Option Hp) (x1 : Int32) (h : Hp) : Option Hp :=
  if x1 < 1341 then
    gd (ix x1 2190) (
    gd (ix x1 1341) (
    bnd (up1 h 32 x1.toNatClampNeg (h 31 x1.toNatClampNeg)) fun h_4 =>
    q_7 (x1 + 1) h_4))
  else
    bnd (up1 h 30 6 1) fun h_6 =>
    some h_6
noncomputable def F_X12_image_7 (n : Nat) : Int32 → Hp → Option Hp :=
  Nat.rec (motive := fun _ => Int32 → Hp → Option Hp) (fun _ _ => none) (fun _ q => S_X12_image_7 q) n
noncomputable def f_X12_image (h : Hp) : Option Hp :=
  bnd (up1 h 30 0 0) fun h_1 =>
  F_X12_image_7 FU 0 h_1
/-! LeanCityModel.back ()Z -/
noncomputable def S_X12_back_16 (q_16 : Int32 → Hp → Option (Bool × Hp)) (x1 : Int32) (h : Hp) : Option (Bool × Hp) :=
  if x1 < 1341 then
    gd (ix x1 1341) (
    gd (ix x1 2190) (
    bnd (up1 h 31 x1.toNatClampNeg (h 32 x1.toNatClampNeg)) fun h_4 =>
    q_16 (x1 + 1) h_4))
  else
    bnd (up1 h 30 7 0) fun h_6 =>
    some (true, h_6)
noncomputable def F_X12_back_16 (n : Nat) : Int32 → Hp → Option (Bool × Hp) :=
  Nat.rec (motive := fun _ => Int32 → Hp → Option (Bool × Hp)) (fun _ _ => none) (fun _ q => S_X12_back_16 q) n
noncomputable def f_X12_back (h : Hp) : Option (Bool × Hp) :=
  bnd (up1 h 30 0 0) fun h_1 =>
  if (h_1 30 6) = 0 then
    some (false, h_1)
  else
    F_X12_back_16 FU 0 h_1
/-! LeanCityModel.remembers ()V -/
noncomputable def S_X12_remembers_55 (q_55 : Int32 → Hp → Option Hp) (x1 : Int32) (h : Hp) : Option Hp :=
  if x1 < 492 then
    gd (ix x1 2190) (
    gd (ix ((492 * ((h 30 7) - 1)) + x1) 5904) (
    bnd (up1 h 35 (((492 * ((h 30 7) - 1)) + x1).toNatClampNeg) (h 31 x1.toNatClampNeg)) fun h_4 =>
    q_55 (x1 + 1) h_4))
  else
    some h
noncomputable def F_X12_remembers_55 (n : Nat) : Int32 → Hp → Option Hp :=
  Nat.rec (motive := fun _ => Int32 → Hp → Option Hp) (fun _ _ => none) (fun _ q => S_X12_remembers_55 q) n
noncomputable def S_X12_remembers_11 (q_11 : Int32 → Hp → Option Hp) (x1 : Int32) (h : Hp) : Option Hp :=
  if x1 < 5412 then
    gd (ix (x1 + 492) 5904) (
    gd (ix x1 5904) (
    bnd (up1 h 35 x1.toNatClampNeg (h 35 ((x1 + 492).toNatClampNeg))) fun h_4 =>
    q_11 (x1 + 1) h_4))
  else
    F_X12_remembers_55 FU 0 h
noncomputable def F_X12_remembers_11 (n : Nat) : Int32 → Hp → Option Hp :=
  Nat.rec (motive := fun _ => Int32 → Hp → Option Hp) (fun _ _ => none) (fun _ q => S_X12_remembers_11 q) n
noncomputable def f_X12_remembers (h : Hp) : Option Hp :=
  if (h 30 7) = 12 then
    F_X12_remembers_11 FU 0 h
  else
    bnd (up1 h 30 7 ((h 30 7) + 1)) fun h_2 =>
    F_X12_remembers_55 FU 0 h_2
/-! LeanCityModel.undo ()Z -/
noncomputable def S_X12_undo_26 (q_26 : Int32 → Hp → Option (Bool × Hp)) (x1 : Int32) (h : Hp) : Option (Bool × Hp) :=
  if x1 < 492 then
    gd (ix ((492 * (h 30 7)) + x1) 5904) (
    gd (ix x1 2190) (
    bnd (up1 h 31 x1.toNatClampNeg (h 35 (((492 * (h 30 7)) + x1).toNatClampNeg))) fun h_4 =>
    q_26 (x1 + 1) h_4))
  else
    some (true, h)
noncomputable def F_X12_undo_26 (n : Nat) : Int32 → Hp → Option (Bool × Hp) :=
  Nat.rec (motive := fun _ => Int32 → Hp → Option (Bool × Hp)) (fun _ _ => none) (fun _ q => S_X12_undo_26 q) n
noncomputable def f_X12_undo (h : Hp) : Option (Bool × Hp) :=
  bnd (up1 h 30 0 0) fun h_1 =>
  if (h_1 30 7) = 0 then
    some (false, h_1)
  else
    bnd (up1 h_1 30 7 ((h_1 30 7) - 1)) fun h_4 =>
    F_X12_undo_26 FU 0 h_4
/-! LeanCityModel.keepsAll ()V -/
noncomputable def S_X12_keepsAll_2 (q_2 : Int32 → Hp → Option Hp) (x1 : Int32) (h : Hp) : Option Hp :=
  if x1 < 492 then
    gd (ix x1 2190) (
    gd (ix x1 492) (
    bnd (up1 h 34 x1.toNatClampNeg (h 31 x1.toNatClampNeg)) fun h_4 =>
    q_2 (x1 + 1) h_4))
  else
    some h
noncomputable def F_X12_keepsAll_2 (n : Nat) : Int32 → Hp → Option Hp :=
  Nat.rec (motive := fun _ => Int32 → Hp → Option Hp) (fun _ _ => none) (fun _ q => S_X12_keepsAll_2 q) n
noncomputable def f_X12_keepsAll (h : Hp) : Option Hp :=
  F_X12_keepsAll_2 FU 0 h
/-! LeanCityModel.bringsBack ()V -/
noncomputable def S_X12_bringsBack_2 (q_2 : Int32 → Hp → Option Hp) (x1 : Int32) (h : Hp) : Option Hp :=
  if x1 < 492 then
    gd (ix x1 492) (
    gd (ix x1 2190) (
    bnd (up1 h 31 x1.toNatClampNeg (h 34 x1.toNatClampNeg)) fun h_4 =>
    q_2 (x1 + 1) h_4))
  else
    some h
noncomputable def F_X12_bringsBack_2 (n : Nat) : Int32 → Hp → Option Hp :=
  Nat.rec (motive := fun _ => Int32 → Hp → Option Hp) (fun _ _ => none) (fun _ q => S_X12_bringsBack_2 q) n
noncomputable def f_X12_bringsBack (h : Hp) : Option Hp :=
  F_X12_bringsBack_2 FU 0 h
/-! LeanCityModel.houses ()I -/
noncomputable def f_X12_houses (h : Hp) : Int32 :=
  (h 31 0)
/-! LeanCityModel.people ()I -/
noncomputable def f_X12_people (h : Hp) : Int32 :=
  (h 31 1)
/-! LeanCityModel.at (II)I -/
noncomputable def f_X12_at (x0 : Int32) (x1 : Int32) (h : Hp) : Int32 :=
  ((74 + (5 * x0)) + x1)
/-! LeanCityModel.of (II)I -/
noncomputable def f_X12_of (x1 : Int32) (x2 : Int32) (h : Hp) : Option Int32 :=
  gd (ix (f_X12_at x1 x2 h) 2190) (
  some (h 31 ((f_X12_at x1 x2 h).toNatClampNeg)))
/-! LeanCityModel.partAt (II)I -/
noncomputable def f_X12_partAt (x0 : Int32) (x1 : Int32) (h : Hp) : Int32 :=
  ((10 + (8 * x0)) + x1)
/-! LeanCityModel.partOf (II)I -/
noncomputable def f_X12_partOf (x1 : Int32) (x2 : Int32) (h : Hp) : Option Int32 :=
  gd (ix (f_X12_partAt x1 x2 h) 2190) (
  some (h 31 ((f_X12_partAt x1 x2 h).toNatClampNeg)))
/-! LeanCityModel.personAt (II)I -/
noncomputable def f_X12_personAt (x0 : Int32) (x1 : Int32) (h : Hp) : Int32 :=
  ((114 + (3 * x0)) + x1)
/-! LeanCityModel.ofPerson (II)I -/
noncomputable def f_X12_ofPerson (x1 : Int32) (x2 : Int32) (h : Hp) : Option Int32 :=
  gd (ix (f_X12_personAt x1 x2 h) 2190) (
  some (h 31 ((f_X12_personAt x1 x2 h).toNatClampNeg)))
/-! LeanCityModel.isFallen (I)Z -/
noncomputable def f_X12_isFallen (x1 : Int32) (h : Hp) : Option Bool :=
  Option.bind (f_X12_of x1 4 h) fun r_1 =>
  if r_1 = 1 then
    some true
  else
    some false
/-! LeanCityModel.standing ()I -/
noncomputable def F_X12_standing_28 (q_4 : Int32 → Int32 → Option Int32) (h : Hp) (x2 : Int32) (t0 : Int32) (t1 : Int32) : Option Int32 :=
  bnd (t1 ||| t0) fun x1_1 =>
  q_4 x1_1 (x2 + 1)
noncomputable def S_X12_standing_4 (h : Hp) (q_4 : Int32 → Int32 → Option Int32) (x1 : Int32) (x2 : Int32) : Option Int32 :=
  if x2 < (f_X12_houses h) then
    Option.bind (f_X12_isFallen x2 h) fun r_2 =>
    if r_2 then
      F_X12_standing_28 q_4 h x2 0 x1
    else
      F_X12_standing_28 q_4 h x2 (shl 1 x2) x1
  else
    some x1
noncomputable def F_X12_standing_4 (h : Hp) (n : Nat) : Int32 → Int32 → Option Int32 :=
  Nat.rec (motive := fun _ => Int32 → Int32 → Option Int32) (fun _ _ => none) (fun _ q => S_X12_standing_4 h q) n
noncomputable def f_X12_standing (h : Hp) : Option Int32 :=
  F_X12_standing_4 h FU 0 0
/-! LeanCityModel.noHouse (I)Z -/
noncomputable def f_X12_noHouse (x1 : Int32) (h : Hp) : Bool :=
  if (f_X12_in x1 0 ((f_X12_houses h) - 1) h) then
    false
  else
    true
/-! LeanCityModel.noPerson (I)Z -/
noncomputable def f_X12_noPerson (x1 : Int32) (h : Hp) : Bool :=
  if (f_X12_in x1 0 ((f_X12_people h) - 1) h) then
    false
  else
    true
/-! LeanCityModel.noEvening (I)Z -/
noncomputable def f_X12_noEvening (x0 : Int32) (h : Hp) : Bool :=
  if (f_X12_in x0 0 6 h) then
    false
  else
    true
/-! LeanCityModel.drawn (I)I -/
noncomputable def f_X12_drawn (x1 : Int32) (h : Hp) : Option (Int32 × Hp) :=
  bnd (up1 h 31 9 ((1103515245 * (h 31 9)) + 12345)) fun h_1 =>
  gd (¬ x1 = 0) (
  some (rem ((shr (h_1 31 9) 16) &&& 32767) x1, h_1))
/-! LeanCityModel.partsOf (I)I -/
noncomputable def S_X12_partsOf_4 (h : Hp) (x1 : Int32) (q_4 : Int32 → Int32 → Option Int32) (x2 : Int32) (x3 : Int32) : Option Int32 :=
  if x3 < (f_X12_houses h) then
    Option.bind (f_X12_partOf x1 x3 h) fun r_2 =>
    q_4 (x2 + r_2) (x3 + 1)
  else
    some x2
noncomputable def F_X12_partsOf_4 (h : Hp) (x1 : Int32) (n : Nat) : Int32 → Int32 → Option Int32 :=
  Nat.rec (motive := fun _ => Int32 → Int32 → Option Int32) (fun _ _ => none) (fun _ q => S_X12_partsOf_4 h x1 q) n
noncomputable def f_X12_partsOf (x1 : Int32) (h : Hp) : Option Int32 :=
  F_X12_partsOf_4 h x1 FU 0 0
/-! LeanCityModel.givesOn (I)V -/
noncomputable def S_X12_givesOn_25 (x1 : Int32) (x2 : Int32) (x3 : Int32) (q_25 : Int32 → Hp → Option Hp) (x4 : Int32) (h : Hp) : Option Hp :=
  if x4 < (f_X12_houses h) then
    if 0 < x2 then
      gd (ix x4 8) (
      Option.bind (f_X12_partOf x1 x4 h) fun r_4 =>
      gd (¬ x2 = 0) (
      gd (ix x4 8) (
      bnd (up1 h 37 x4.toNatClampNeg ((h 37 x4.toNatClampNeg) + ((x3 * r_4) / x2))) fun h_8 =>
      q_25 (x4 + 1) h_8)))
    else
      some h
  else
    some h
noncomputable def F_X12_givesOn_25 (x1 : Int32) (x2 : Int32) (x3 : Int32) (n : Nat) : Int32 → Hp → Option Hp :=
  Nat.rec (motive := fun _ => Int32 → Hp → Option Hp) (fun _ _ => none) (fun _ q => S_X12_givesOn_25 x1 x2 x3 q) n
noncomputable def f_X12_givesOn (x1 : Int32) (h : Hp) : Option Hp :=
  Option.bind (f_X12_partsOf x1 h) fun r_1 =>
  Option.bind (f_X12_of x1 0 h) fun r_3 =>
  gd (ix x1 8) (
  bnd ((r_3 + (h 36 x1.toNatClampNeg)) / 2) fun x3_6 =>
  F_X12_givesOn_25 x1 r_1 x3_6 FU 0 h)
/-! LeanCityModel.lays ()V -/
noncomputable def S_X12_lays_73 (q_23 : Int32 → Hp → Option Hp) (x1 : Int32) (q_73 : Int32 → Hp → Option Hp) (x2 : Int32) (h : Hp) : Option Hp :=
  if x2 < 8 then
    gd (ix x2 8) (
    gd (ix x2 8) (
    bnd (up1 h 36 x2.toNatClampNeg (h 37 x2.toNatClampNeg)) fun h_4 =>
    q_73 (x2 + 1) h_4))
  else
    q_23 (x1 + 1) h
noncomputable def F_X12_lays_73 (q_23 : Int32 → Hp → Option Hp) (x1 : Int32) (n : Nat) : Int32 → Hp → Option Hp :=
  Nat.rec (motive := fun _ => Int32 → Hp → Option Hp) (fun _ _ => none) (fun _ q => S_X12_lays_73 q_23 x1 q) n
noncomputable def S_X12_lays_52 (q_23 : Int32 → Hp → Option Hp) (x1 : Int32) (q_52 : Int32 → Hp → Option Hp) (x2 : Int32) (h : Hp) : Option Hp :=
  if x2 < (f_X12_houses h) then
    Option.bind (f_X12_givesOn x2 h) fun r_2 =>
    q_52 (x2 + 1) r_2
  else
    F_X12_lays_73 q_23 x1 FU 0 h
noncomputable def F_X12_lays_52 (q_23 : Int32 → Hp → Option Hp) (x1 : Int32) (n : Nat) : Int32 → Hp → Option Hp :=
  Nat.rec (motive := fun _ => Int32 → Hp → Option Hp) (fun _ _ => none) (fun _ q => S_X12_lays_52 q_23 x1 q) n
noncomputable def S_X12_lays_31 (q_23 : Int32 → Hp → Option Hp) (x1 : Int32) (q_31 : Int32 → Hp → Option Hp) (x2 : Int32) (h : Hp) : Option Hp :=
  if x2 < 8 then
    gd (ix x2 8) (
    bnd (up1 h 37 x2.toNatClampNeg 0) fun h_3 =>
    q_31 (x2 + 1) h_3)
  else
    F_X12_lays_52 q_23 x1 FU 0 h
noncomputable def F_X12_lays_31 (q_23 : Int32 → Hp → Option Hp) (x1 : Int32) (n : Nat) : Int32 → Hp → Option Hp :=
  Nat.rec (motive := fun _ => Int32 → Hp → Option Hp) (fun _ _ => none) (fun _ q => S_X12_lays_31 q_23 x1 q) n
noncomputable def S_X12_lays_23 (q_23 : Int32 → Hp → Option Hp) (x1 : Int32) (h : Hp) : Option Hp :=
  if x1 < 12 then
    F_X12_lays_31 q_23 x1 FU 0 h
  else
    some h
noncomputable def F_X12_lays_23 (n : Nat) : Int32 → Hp → Option Hp :=
  Nat.rec (motive := fun _ => Int32 → Hp → Option Hp) (fun _ _ => none) (fun _ q => S_X12_lays_23 q) n
noncomputable def S_X12_lays_2 (q_2 : Int32 → Hp → Option Hp) (x1 : Int32) (h : Hp) : Option Hp :=
  if x1 < 8 then
    gd (ix x1 8) (
    bnd (up1 h 36 x1.toNatClampNeg 0) fun h_3 =>
    q_2 (x1 + 1) h_3)
  else
    F_X12_lays_23 FU 0 h
noncomputable def F_X12_lays_2 (n : Nat) : Int32 → Hp → Option Hp :=
  Nat.rec (motive := fun _ => Int32 → Hp → Option Hp) (fun _ _ => none) (fun _ q => S_X12_lays_2 q) n
noncomputable def f_X12_lays (h : Hp) : Option Hp :=
  F_X12_lays_2 FU 0 h
/-! LeanCityModel.bearsNow (I)I -/
noncomputable def F_X12_bearsNow_24 (h : Hp) (t0 : Int32) (t1 : Int32) : Option Int32 :=
  some (t1 + t0)
noncomputable def f_X12_bearsNow (x1 : Int32) (h : Hp) : Option Int32 :=
  gd (ix x1 8) (
  Option.bind (f_X12_partsOf x1 h) fun r_2 =>
  if r_2 = 0 then
    Option.bind (f_X12_of x1 0 h) fun r_5 =>
    F_X12_bearsNow_24 h r_5 (h 36 x1.toNatClampNeg)
  else
    F_X12_bearsNow_24 h 0 (h 36 x1.toNatClampNeg))
/-! LeanCityModel.feed (IIIII)I -/
noncomputable def S_X12_feed_60 (q_60 : Int32 → Hp → Option (Int32 × Hp)) (x6 : Int32) (h : Hp) : Option (Int32 × Hp) :=
  if x6 < 20 then
    gd (ix (x6 / 4) 5) (
    gd (ix ((h 30 11) + x6) 400) (
    bnd (up1 h 38 (((h 30 11) + x6).toNatClampNeg) (vp_nar .byte ((shr (h 39 ((x6 / 4).toNatClampNeg)) (24 - (8 * (rem x6 4)))).toInt8.toInt32))) fun h_4 =>
    q_60 (x6 + 1) h_4))
  else
    bnd (up1 h 30 11 ((h 30 11) + 20)) fun h_6 =>
    some (h_6 30 11, h_6)
noncomputable def F_X12_feed_60 (n : Nat) : Int32 → Hp → Option (Int32 × Hp) :=
  Nat.rec (motive := fun _ => Int32 → Hp → Option (Int32 × Hp)) (fun _ _ => none) (fun _ q => S_X12_feed_60 q) n
noncomputable def f_X12_feed (x1 : Int32) (x2 : Int32) (x3 : Int32) (x4 : Int32) (x5 : Int32) (h : Hp) : Option (Int32 × Hp) :=
  bnd (up1 h 30 0 0) fun h_1 =>
  if 400 < ((h_1 30 11) + 20) then
    some ((-1), h_1)
  else
    bnd (up1 h_1 39 0 x1) fun h_4 =>
    bnd (up1 h_4 39 1 x2) fun h_6 =>
    bnd (up1 h_6 39 2 x3) fun h_8 =>
    bnd (up1 h_8 39 3 x4) fun h_10 =>
    bnd (up1 h_10 39 4 x5) fun h_12 =>
    F_X12_feed_60 FU 0 h_12
/-! LeanCityModel.end (I)Z -/
noncomputable def f_X12_end (x1 : Int32) (h : Hp) : Option (Bool × Hp) :=
  bnd (up1 h 30 0 0) fun h_1 =>
  if x1 < 0 then
    some (false, h_1)
  else
    if (h_1 30 11) < x1 then
      some (false, h_1)
    else
      bnd (up1 h_1 30 11 x1) fun h_5 =>
      some (true, h_5)
/-! LeanCityModel.isAt (II)Z -/
noncomputable def f_X12_isAt (x1 : Int32) (x2 : Int32) (h : Hp) : Option Bool :=
  if (h 30 12) < (h 30 13) then
    gd (ix (h 30 12) 400) (
    if (h 38 ((h 30 12).toNatClampNeg)) < x1 then
      some false
    else
      gd (ix (h 30 12) 400) (
      if x2 < (h 38 ((h 30 12).toNatClampNeg)) then
        some false
      else
        some true))
  else
    some false
/-! LeanCityModel.blanks ()V -/
noncomputable def S_X12_blanks_0 (q_0 : Hp → Option Hp) (h : Hp) : Option Hp :=
  Option.bind (f_X12_isAt 32 32 h) fun r_1 =>
  if r_1 then
    bnd (up1 h 30 12 ((h 30 12) + 1)) fun h_4 =>
    q_0 h_4
  else
    bnd (up1 h 30 14 (h 30 12)) fun h_6 =>
    some h_6
noncomputable def F_X12_blanks_0 (n : Nat) : Hp → Option Hp :=
  Nat.rec (motive := fun _ => Hp → Option Hp) (fun _ => none) (fun _ q => S_X12_blanks_0 q) n
noncomputable def f_X12_blanks (h : Hp) : Option Hp := F_X12_blanks_0 FU h
/-! LeanCityModel.letters ()V -/
noncomputable def S_X12_letters_4 (q_4 : Hp → Option Hp) (h : Hp) : Option Hp :=
  Option.bind (f_X12_isAt 97 122 h) fun r_1 =>
  if r_1 then
    bnd (up1 h 30 12 ((h 30 12) + 1)) fun h_4 =>
    q_4 h_4
  else
    some h
noncomputable def F_X12_letters_4 (n : Nat) : Hp → Option Hp :=
  Nat.rec (motive := fun _ => Hp → Option Hp) (fun _ => none) (fun _ q => S_X12_letters_4 q) n
noncomputable def f_X12_letters (h : Hp) : Option Hp :=
  Option.bind (f_X12_blanks h) fun r_1 =>
  F_X12_letters_4 FU r_1
/-! LeanCityModel.isWord (Ljava/lang/String;)Z -/
noncomputable def S_X12_isWord_24 (h : Hp) (k1 : Nat) (q_24 : Int32 → Int32 → Option Bool) (x2 : Int32) (x3 : Int32) : Option Bool :=
  if x2 = 0 then
    Option.bind (toB x2) fun b_2 =>
    some b_2
  else
    if x3 < (sLen k1) then
      gd (ix ((h 30 14) + x3) 400) (
      gd (ix x3 (sLn k1)) (
      if (h 38 (((h 30 14) + x3).toNatClampNeg)) = (sAt k1 x3.toNatClampNeg) then
        q_24 1 (x3 + 1)
      else
        q_24 0 (x3 + 1)))
    else
      Option.bind (toB x2) fun b_8 =>
      some b_8
noncomputable def F_X12_isWord_24 (h : Hp) (k1 : Nat) (n : Nat) : Int32 → Int32 → Option Bool :=
  Nat.rec (motive := fun _ => Int32 → Int32 → Option Bool) (fun _ _ => none) (fun _ q => S_X12_isWord_24 h k1 q) n
noncomputable def f_X12_isWord (k1 : Nat) (h : Hp) : Option Bool :=
  if ((h 30 12) - (h 30 14)) = (sLen k1) then
    F_X12_isWord_24 h k1 FU 1 0
  else
    F_X12_isWord_24 h k1 FU 0 0
/-! LeanCityModel.passes (Ljava/lang/String;)Z -/
noncomputable def f_X12_passes (k1 : Nat) (h : Hp) : Option (Bool × Hp) :=
  Option.bind (f_X12_letters h) fun r_1 =>
  Option.bind (f_X12_isWord k1 r_1) fun r_3 =>
  if r_3 then
    some (true, r_1)
  else
    bnd (up1 r_1 30 12 (r_1 30 14)) fun h_6 =>
    some (false, h_6)
/-! LeanCityModel.sign (I)Z -/
noncomputable def f_X12_sign (x1 : Int32) (h : Hp) : Option (Bool × Hp) :=
  Option.bind (f_X12_blanks h) fun r_1 =>
  Option.bind (f_X12_isAt x1 x1 r_1) fun r_3 =>
  if r_3 then
    bnd (up1 r_1 30 12 ((r_1 30 12) + 1)) fun h_6 =>
    some (true, h_6)
  else
    some (false, r_1)
/-! LeanCityModel.number (II)I -/
noncomputable def F_X12_number_51 (q_6 : Int32 → Hp → Option (Int32 × Hp)) (x1 : Int32) (x2 : Int32) (t0 : Int32) (h : Hp) : Option (Int32 × Hp) :=
  bnd (up1 h 30 12 ((h 30 12) + 1)) fun h_1 =>
  q_6 t0 h_1
noncomputable def S_X12_number_6 (x1 : Int32) (x2 : Int32) (q_6 : Int32 → Hp → Option (Int32 × Hp)) (x3 : Int32) (h : Hp) : Option (Int32 × Hp) :=
  Option.bind (f_X12_isAt 48 57 h) fun r_1 =>
  if r_1 then
    if ((h 30 12) - (h 30 14)) < 3 then
      gd (ix (h 30 12) 400) (
      F_X12_number_51 q_6 x1 x2 (((10 * x3) + (h 38 ((h 30 12).toNatClampNeg))) - 48) h)
    else
      F_X12_number_51 q_6 x1 x2 x3 h
  else
    if (h 30 12) = (h 30 14) then
      some ((-1), h)
    else
      if 3 < ((h 30 12) - (h 30 14)) then
        some ((-1), h)
      else
        if x3 < x1 then
          some ((-1), h)
        else
          if x2 < x3 then
            some ((-1), h)
          else
            some (x3, h)
noncomputable def F_X12_number_6 (x1 : Int32) (x2 : Int32) (n : Nat) : Int32 → Hp → Option (Int32 × Hp) :=
  Nat.rec (motive := fun _ => Int32 → Hp → Option (Int32 × Hp)) (fun _ _ => none) (fun _ q => S_X12_number_6 x1 x2 q) n
noncomputable def f_X12_number (x1 : Int32) (x2 : Int32) (h : Hp) : Option (Int32 × Hp) :=
  Option.bind (f_X12_blanks h) fun r_1 =>
  F_X12_number_6 x1 x2 FU 0 r_1
/-! LeanCityModel.after (Ljava/lang/String;II)I -/
noncomputable def f_X12_after (k1 : Nat) (x2 : Int32) (x3 : Int32) (h : Hp) : Option (Int32 × Hp) :=
  Option.bind (f_X12_letters h) fun r_1 =>
  Option.bind (f_X12_isWord k1 r_1) fun r_3 =>
  if r_3 then
    Option.bind (f_X12_number x2 x3 r_1) fun r_6 =>
    some (r_6.1, r_6.2)
  else
    some ((-1), r_1)
/-! LeanCityModel.fault ()I -/
noncomputable def f_X12_fault (h : Hp) : Option (Int32 × Hp) :=
  bnd (up1 h 30 0 0) fun h_1 =>
  some (h_1 30 16, h_1)
/-! LeanCityModel.uses ()V -/
noncomputable def f_X12_uses (h : Hp) : Option Hp :=
  bnd (up1 h 30 0 0) fun h_1 =>
  bnd (up1 h_1 30 13 (h_1 30 11)) fun h_3 =>
  bnd (up1 h_3 30 11 0) fun h_5 =>
  bnd (up1 h_5 30 12 0) fun h_7 =>
  some h_7
/-! LeanCityModel.readNumber (III)Z -/
noncomputable def F_X12_readNumber_29 (x4 : Int32) (t0 : Int32) (t1 : Int32) (h : Hp) : Option (Bool × Hp) :=
  gd (ix t1 2190) (
  bnd (up1 h 31 t1.toNatClampNeg t0) fun h_2 =>
  if x4 < 0 then
    some (false, h_2)
  else
    some (true, h_2))
noncomputable def f_X12_readNumber (x1 : Int32) (x2 : Int32) (x3 : Int32) (h : Hp) : Option (Bool × Hp) :=
  Option.bind (f_X12_number x2 x3 h) fun r_1 =>
  if r_1.1 < 0 then
    gd (ix x1 2190) (
    F_X12_readNumber_29 r_1.1 (r_1.2 31 x1.toNatClampNeg) x1 r_1.2)
  else
    F_X12_readNumber_29 r_1.1 r_1.1 x1 r_1.2
/-! LeanCityModel.houseTold ()I -/
noncomputable def f_X12_houseTold (h : Hp) : Option (Int32 × Hp) :=
  Option.bind (f_X12_number 0 ((f_X12_houses h) - 1) h) fun r_1 =>
  if r_1.1 < 0 then
    some ((-1), r_1.2)
  else
    Option.bind (f_X12_isFallen r_1.1 r_1.2) fun r_4 =>
    if r_4 then
      some ((-1), r_1.2)
    else
      some (r_1.1, r_1.2)
/-! LeanCityModel.isBuilt (II)V -/
noncomputable def S_X12_isBuilt_63 (x3 : Int32) (q_63 : Int32 → Hp → Option Hp) (x4 : Int32) (h : Hp) : Option Hp :=
  if x4 < 8 then
    gd (ix (f_X12_partAt x3 x4 h) 2190) (
    bnd (up1 h 31 ((f_X12_partAt x3 x4 h).toNatClampNeg) 0) fun h_3 =>
    gd (ix (f_X12_partAt x4 x3 h_3) 2190) (
    bnd (up1 h_3 31 ((f_X12_partAt x4 x3 h_3).toNatClampNeg) 0) fun h_6 =>
    q_63 (x4 + 1) h_6))
  else
    bnd (up1 h 31 0 ((h 31 0) + 1)) fun h_8 =>
    some h_8
noncomputable def F_X12_isBuilt_63 (x3 : Int32) (n : Nat) : Int32 → Hp → Option Hp :=
  Nat.rec (motive := fun _ => Int32 → Hp → Option Hp) (fun _ _ => none) (fun _ q => S_X12_isBuilt_63 x3 q) n
noncomputable def f_X12_isBuilt (x1 : Int32) (x2 : Int32) (h : Hp) : Option Hp :=
  bnd (f_X12_houses h) fun x3_1 =>
  gd (ix (f_X12_at x3_1 0 h) 2190) (
  bnd (up1 h 31 ((f_X12_at x3_1 0 h).toNatClampNeg) x1) fun h_4 =>
  gd (ix (f_X12_at x3_1 1 h_4) 2190) (
  bnd (up1 h_4 31 ((f_X12_at x3_1 1 h_4).toNatClampNeg) x2) fun h_7 =>
  gd (ix (f_X12_at x3_1 2 h_7) 2190) (
  bnd (up1 h_7 31 ((f_X12_at x3_1 2 h_7).toNatClampNeg) 0) fun h_10 =>
  gd (ix (f_X12_at x3_1 3 h_10) 2190) (
  bnd (up1 h_10 31 ((f_X12_at x3_1 3 h_10).toNatClampNeg) 0) fun h_13 =>
  gd (ix (f_X12_at x3_1 4 h_13) 2190) (
  bnd (up1 h_13 31 ((f_X12_at x3_1 4 h_13).toNatClampNeg) 0) fun h_16 =>
  F_X12_isBuilt_63 x3_1 FU 0 h_16)))))
/-! LeanCityModel.readHouse ()Z -/
noncomputable def F_X12_readHouse_97 (x1 : Int32) (x2 : Int32) (x3 : Int32) (x4 : Int32) (t0 : Int32) (h : Hp) : Option (Bool × Hp) :=
  if t0 < 0 then
    some (false, h)
  else
    Option.bind (f_X12_isBuilt x2 x3 h) fun r_2 =>
    gd (ix (f_X12_at x1 2 r_2) 2190) (
    bnd (up1 r_2 31 ((f_X12_at x1 2 r_2).toNatClampNeg) x4) fun h_5 =>
    gd (ix (f_X12_at x1 3 h_5) 2190) (
    bnd (up1 h_5 31 ((f_X12_at x1 3 h_5).toNatClampNeg) t0) fun h_8 =>
    some (true, h_8)))
noncomputable def F_X12_readHouse_68 (x1 : Int32) (x2 : Int32) (x3 : Int32) (t0 : Int32) (h : Hp) : Option (Bool × Hp) :=
  if t0 < 0 then
    some (false, h)
  else
    Option.bind (f_X12_passes 1020 h) fun r_2 =>
    if r_2.1 then
      Option.bind (f_X12_number 0 99 r_2.2) fun r_5 =>
      F_X12_readHouse_97 x1 x2 x3 t0 r_5.1 r_5.2
    else
      F_X12_readHouse_97 x1 x2 x3 t0 0 r_2.2
noncomputable def F_X12_readHouse_41 (x1 : Int32) (x2 : Int32) (t0 : Int32) (h : Hp) : Option (Bool × Hp) :=
  if t0 < 0 then
    some (false, h)
  else
    Option.bind (f_X12_passes 1019 h) fun r_2 =>
    if r_2.1 then
      Option.bind (f_X12_number 0 9 r_2.2) fun r_5 =>
      F_X12_readHouse_68 x1 x2 t0 r_5.1 r_5.2
    else
      F_X12_readHouse_68 x1 x2 t0 0 r_2.2
noncomputable def f_X12_readHouse (h : Hp) : Option (Bool × Hp) :=
  bnd (f_X12_houses h) fun x1_1 =>
  if x1_1 = 8 then
    some (false, h)
  else
    Option.bind (f_X12_after 1017 1 99 h) fun r_4 =>
    if r_4.1 < 0 then
      F_X12_readHouse_41 x1_1 r_4.1 (-1) r_4.2
    else
      Option.bind (f_X12_after 1018 0 999 r_4.2) fun r_7 =>
      F_X12_readHouse_41 x1_1 r_4.1 r_7.1 r_7.2
/-! LeanCityModel.readLean ()Z -/
noncomputable def F_X12_readLean_17 (x1 : Int32) (t0 : Int32) (h : Hp) : Option (Bool × Hp) :=
  if t0 < 0 then
    some (false, h)
  else
    if t0 = x1 then
      some (false, h)
    else
      Option.bind (f_X12_after 1022 0 9 h) fun r_3 =>
      if r_3.1 < 0 then
        some (false, r_3.2)
      else
        gd (ix (f_X12_partAt x1 t0 r_3.2) 2190) (
        bnd (up1 r_3.2 31 ((f_X12_partAt x1 t0 r_3.2).toNatClampNeg) r_3.1) fun h_7 =>
        some (true, h_7))
noncomputable def f_X12_readLean (h : Hp) : Option (Bool × Hp) :=
  Option.bind (f_X12_houseTold h) fun r_1 =>
  if r_1.1 < 0 then
    F_X12_readLean_17 r_1.1 (-1) r_1.2
  else
    Option.bind (f_X12_houseTold r_1.2) fun r_4 =>
    F_X12_readLean_17 r_1.1 r_4.1 r_4.2
/-! LeanCityModel.figures ()I -/
noncomputable def F_X12_figures_91 (q_8 : Int32 → Int32 → Hp → Option (Int32 × Hp)) (x2 : Int32) (t0 : Int32) (t1 : Int32) (h : Hp) : Option (Int32 × Hp) :=
  bnd (t1 ||| t0) fun x1_1 =>
  bnd (up1 h 30 12 ((h 30 12) + 1)) fun h_3 =>
  q_8 x1_1 x2 h_3
noncomputable def F_X12_figures_56 (q_8 : Int32 → Int32 → Hp → Option (Int32 × Hp)) (x1 : Int32) (t0 : Int32) (h : Hp) : Option (Int32 × Hp) :=
  if t0 = 0 then
    F_X12_figures_91 q_8 t0 0 x1 h
  else
    gd (ix (h 30 12) 400) (
    if (h 38 ((h 30 12).toNatClampNeg)) = 49 then
      F_X12_figures_91 q_8 t0 (shl 1 ((h 30 12) - (h 30 14))) x1 h
    else
      F_X12_figures_91 q_8 t0 0 x1 h)
noncomputable def S_X12_figures_8 (q_8 : Int32 → Int32 → Hp → Option (Int32 × Hp)) (x1 : Int32) (x2 : Int32) (h : Hp) : Option (Int32 × Hp) :=
  Option.bind (f_X12_isAt 48 57 h) fun r_1 =>
  if r_1 then
    if x2 = 0 then
      F_X12_figures_56 q_8 x1 0 h
    else
      if ((h 30 12) - (h 30 14)) < 7 then
        gd (ix (h 30 12) 400) (
        if 49 < (h 38 ((h 30 12).toNatClampNeg)) then
          F_X12_figures_56 q_8 x1 0 h
        else
          F_X12_figures_56 q_8 x1 1 h)
      else
        F_X12_figures_56 q_8 x1 0 h
  else
    if x2 = 0 then
      some ((-1), h)
    else
      if ((h 30 12) - (h 30 14)) = 7 then
        some (x1, h)
      else
        some ((-1), h)
noncomputable def F_X12_figures_8 (n : Nat) : Int32 → Int32 → Hp → Option (Int32 × Hp) :=
  Nat.rec (motive := fun _ => Int32 → Int32 → Hp → Option (Int32 × Hp)) (fun _ _ _ => none) (fun _ q => S_X12_figures_8 q) n
noncomputable def f_X12_figures (h : Hp) : Option (Int32 × Hp) :=
  Option.bind (f_X12_blanks h) fun r_1 =>
  F_X12_figures_8 FU 0 1 r_1
/-! LeanCityModel.readPerson ()Z -/
noncomputable def F_X12_readPerson_77 (x1 : Int32) (x2 : Int32) (x3 : Int32) (t0 : Int32) (h : Hp) : Option (Bool × Hp) :=
  if t0 < 0 then
    some (false, h)
  else
    gd (ix (f_X12_personAt x1 0 h) 2190) (
    bnd (up1 h 31 ((f_X12_personAt x1 0 h).toNatClampNeg) x2) fun h_3 =>
    gd (ix (f_X12_personAt x1 1 h_3) 2190) (
    bnd (up1 h_3 31 ((f_X12_personAt x1 1 h_3).toNatClampNeg) x3) fun h_6 =>
    gd (ix (f_X12_personAt x1 2 h_6) 2190) (
    bnd (up1 h_6 31 ((f_X12_personAt x1 2 h_6).toNatClampNeg) t0) fun h_9 =>
    bnd (up1 h_9 31 1 ((h_9 31 1) + 1)) fun h_11 =>
    some (true, h_11))))
noncomputable def F_X12_readPerson_52 (x1 : Int32) (x2 : Int32) (t0 : Int32) (h : Hp) : Option (Bool × Hp) :=
  if t0 < 0 then
    some (false, h)
  else
    Option.bind (f_X12_passes 1026 h) fun r_2 =>
    if r_2.1 then
      Option.bind (f_X12_figures r_2.2) fun r_5 =>
      F_X12_readPerson_77 x1 x2 t0 r_5.1 r_5.2
    else
      F_X12_readPerson_77 x1 x2 t0 127 r_2.2
noncomputable def F_X12_readPerson_34 (x1 : Int32) (t0 : Int32) (h : Hp) : Option (Bool × Hp) :=
  if t0 < 0 then
    F_X12_readPerson_52 x1 t0 (-1) h
  else
    Option.bind (f_X12_after 1025 0 99 h) fun r_2 =>
    F_X12_readPerson_52 x1 t0 r_2.1 r_2.2
noncomputable def f_X12_readPerson (h : Hp) : Option (Bool × Hp) :=
  bnd (f_X12_people h) fun x1_1 =>
  if x1_1 = 6 then
    some (false, h)
  else
    Option.bind (f_X12_letters h) fun r_4 =>
    Option.bind (f_X12_isWord 1024 r_4) fun r_6 =>
    if r_6 then
      Option.bind (f_X12_houseTold r_4) fun r_9 =>
      F_X12_readPerson_34 x1_1 r_9.1 r_9.2
    else
      F_X12_readPerson_34 x1_1 (-1) r_4
/-! LeanCityModel.readCityLine ()Z -/
noncomputable def f_X12_readCityLine (h : Hp) : Option (Bool × Hp) :=
  Option.bind (f_X12_isWord 1016 h) fun r_1 =>
  if r_1 then
    Option.bind (f_X12_readHouse h) fun r_4 =>
    some (r_4.1, r_4.2)
  else
    Option.bind (f_X12_isWord 1021 h) fun r_6 =>
    if r_6 then
      Option.bind (f_X12_readLean h) fun r_9 =>
      some (r_9.1, r_9.2)
    else
      Option.bind (f_X12_isWord 1023 h) fun r_11 =>
      if r_11 then
        Option.bind (f_X12_readPerson h) fun r_14 =>
        some (r_14.1, r_14.2)
      else
        Option.bind (f_X12_isWord 1027 h) fun r_16 =>
        if r_16 then
          Option.bind (f_X12_readNumber 6 0 100 h) fun r_19 =>
          some (r_19.1, r_19.2)
        else
          Option.bind (f_X12_isWord 1028 h) fun r_21 =>
          if r_21 then
            Option.bind (f_X12_readNumber 7 1 99 h) fun r_24 =>
            some (r_24.1, r_24.2)
          else
            Option.bind (f_X12_isWord 1029 h) fun r_26 =>
            if r_26 then
              Option.bind (f_X12_readNumber 4 0 6 h) fun r_29 =>
              some (r_29.1, r_29.2)
            else
              Option.bind (f_X12_isWord 1030 h) fun r_31 =>
              if r_31 then
                Option.bind (f_X12_readNumber 5 0 999 h) fun r_34 =>
                if r_34.1 then
                  some (true, r_34.2)
                else
                  some (false, r_34.2)
              else
                some (false, h)
/-! LeanCityModel.emits (II)V -/
noncomputable def f_X12_emits (x1 : Int32) (x2 : Int32) (h : Hp) : Option Hp :=
  gd (ix (1390 + (2 * (h 30 18))) 2190) (
  bnd (up1 h 31 ((1390 + (2 * (h 30 18))).toNatClampNeg) x1) fun h_2 =>
  gd (ix ((1390 + (2 * (h_2 30 18))) + 1) 2190) (
  bnd (up1 h_2 31 (((1390 + (2 * (h_2 30 18))) + 1).toNatClampNeg) x2) fun h_5 =>
  bnd (up1 h_5 30 18 ((h_5 30 18) + 1)) fun h_7 =>
  some h_7))
/-! LeanCityModel.wordOfPart ()I -/
noncomputable def f_X12_wordOfPart (h : Hp) : Option Int32 :=
  Option.bind (f_X12_isWord 1016 h) fun r_1 =>
  if r_1 then
    some 0
  else
    Option.bind (f_X12_isWord 1017 h) fun r_4 =>
    if r_4 then
      some 1
    else
      Option.bind (f_X12_isWord 1019 h) fun r_7 =>
      if r_7 then
        some 2
      else
        Option.bind (f_X12_isWord 1020 h) fun r_10 =>
        if r_10 then
          some 3
        else
          Option.bind (f_X12_isWord 1029 h) fun r_13 =>
          if r_13 then
            some 4
          else
            Option.bind (f_X12_isWord 1038 h) fun r_16 =>
            if r_16 then
              some 5
            else
              some (-1)
/-! LeanCityModel.readPart ()Z -/
noncomputable def F_X12_readPart_61 (x2 : Int32) (t0 : Int32) (t1 : Int32) (h : Hp) : Option (Bool × Hp) :=
  Option.bind (f_X12_emits t1 t0 h) fun r_1 =>
  if x2 < 0 then
    some (false, r_1)
  else
    some (true, r_1)
noncomputable def F_X12_readPart_52 (x1 : Int32) (x2 : Int32) (t0 : Int32) (h : Hp) : Option (Bool × Hp) :=
  if x1 = 0 then
    F_X12_readPart_61 x2 0 t0 h
  else
    F_X12_readPart_61 x2 x2 t0 h
noncomputable def F_X12_readPart_40 (x1 : Int32) (t0 : Int32) (h : Hp) : Option (Bool × Hp) :=
  if x1 = 0 then
    F_X12_readPart_52 x1 t0 t0 h
  else
    F_X12_readPart_52 x1 t0 9 h
noncomputable def F_X12_readPart_20 (t0 : Int32) (h : Hp) : Option (Bool × Hp) :=
  if t0 = 0 then
    Option.bind (f_X12_wordOfPart h) fun r_2 =>
    F_X12_readPart_40 t0 r_2 h
  else
    Option.bind (f_X12_number 0 999 h) fun r_4 =>
    F_X12_readPart_40 t0 r_4.1 r_4.2
noncomputable def f_X12_readPart (h : Hp) : Option (Bool × Hp) :=
  Option.bind (f_X12_letters h) fun r_1 =>
  if (r_1 30 12) = (r_1 30 14) then
    F_X12_readPart_20 1 r_1
  else
    F_X12_readPart_20 0 r_1
/-! LeanCityModel.readSum ()Z -/
noncomputable def S_X12_readSum_9 (q_9 : Hp → Option (Bool × Hp)) (h : Hp) : Option (Bool × Hp) :=
  Option.bind (f_X12_sign 43 h) fun r_1 =>
  if r_1.1 then
    Option.bind (f_X12_readPart r_1.2) fun r_4 =>
    if r_4.1 then
      Option.bind (f_X12_emits 10 0 r_4.2) fun r_7 =>
      q_9 r_7
    else
      some (false, r_4.2)
  else
    some (true, r_1.2)
noncomputable def F_X12_readSum_9 (n : Nat) : Hp → Option (Bool × Hp) :=
  Nat.rec (motive := fun _ => Hp → Option (Bool × Hp)) (fun _ => none) (fun _ q => S_X12_readSum_9 q) n
noncomputable def f_X12_readSum (h : Hp) : Option (Bool × Hp) :=
  Option.bind (f_X12_readPart h) fun r_1 =>
  if r_1.1 then
    F_X12_readSum_9 FU r_1.2
  else
    some (false, r_1.2)
/-! LeanCityModel.readTag ()Z -/
noncomputable def F_X12_readTag_69 (x1 : Int32) (h : Hp) : Option (Bool × Hp) :=
  if x1 < 0 then
    some (false, h)
  else
    some (true, h)
noncomputable def F_X12_readTag_47 (t0 : Int32) (h : Hp) : Option (Bool × Hp) :=
  if t0 < 0 then
    bnd (up1 h 30 12 (h 30 14)) fun h_2 =>
    F_X12_readTag_69 t0 h_2
  else
    Option.bind (f_X12_emits t0 0 h) fun r_4 =>
    F_X12_readTag_69 t0 r_4
noncomputable def f_X12_readTag (h : Hp) : Option (Bool × Hp) :=
  Option.bind (f_X12_letters h) fun r_1 =>
  Option.bind (f_X12_isWord 1035 r_1) fun r_3 =>
  if r_3 then
    F_X12_readTag_47 6 r_1
  else
    Option.bind (f_X12_isWord 1036 r_1) fun r_6 =>
    if r_6 then
      F_X12_readTag_47 7 r_1
    else
      Option.bind (f_X12_isWord 1037 r_1) fun r_9 =>
      if r_9 then
        F_X12_readTag_47 8 r_1
      else
        F_X12_readTag_47 (-1) r_1
/-! LeanCityModel.readAllOf ()Z -/
noncomputable def S_X12_readAllOf_9 (rec : Hp → Option (Bool × Hp)) (q_9 : Hp → Option (Bool × Hp)) (h : Hp) : Option (Bool × Hp) :=
  Option.bind (f_X12_passes 1039 h) fun r_1 =>
  if r_1.1 then
    Option.bind (rec r_1.2) fun r_4 =>
    if r_4.1 then
      Option.bind (f_X12_emits 14 0 r_4.2) fun r_7 =>
      q_9 r_7
    else
      some (false, r_4.2)
  else
    some (true, r_1.2)
noncomputable def F_X12_readAllOf_9 (rec : Hp → Option (Bool × Hp)) (n : Nat) : Hp → Option (Bool × Hp) :=
  Nat.rec (motive := fun _ => Hp → Option (Bool × Hp)) (fun _ => none) (fun _ q => S_X12_readAllOf_9 rec q) n
noncomputable def f_X12_readAllOf (rec : Hp → Option (Bool × Hp)) (h : Hp) : Option (Bool × Hp) :=
  Option.bind (rec h) fun r_1 =>
  if r_1.1 then
    F_X12_readAllOf_9 rec FU r_1.2
  else
    some (false, r_1.2)
/-! LeanCityModel.readCond ()Z -/
noncomputable def S_X12_readCond_9 (rec : Hp → Option (Bool × Hp)) (q_9 : Hp → Option (Bool × Hp)) (h : Hp) : Option (Bool × Hp) :=
  Option.bind (f_X12_passes 1040 h) fun r_1 =>
  if r_1.1 then
    Option.bind (f_X12_readAllOf rec r_1.2) fun r_4 =>
    if r_4.1 then
      Option.bind (f_X12_emits 15 0 r_4.2) fun r_7 =>
      q_9 r_7
    else
      some (false, r_4.2)
  else
    some (true, r_1.2)
noncomputable def F_X12_readCond_9 (rec : Hp → Option (Bool × Hp)) (n : Nat) : Hp → Option (Bool × Hp) :=
  Nat.rec (motive := fun _ => Hp → Option (Bool × Hp)) (fun _ => none) (fun _ q => S_X12_readCond_9 rec q) n
noncomputable def f_X12_readCond (rec : Hp → Option (Bool × Hp)) (h : Hp) : Option (Bool × Hp) :=
  Option.bind (f_X12_readAllOf rec h) fun r_1 =>
  if r_1.1 then
    F_X12_readCond_9 rec FU r_1.2
  else
    some (false, r_1.2)
/-! LeanCityModel.readAtom ()Z -/
noncomputable def F_X12_readAtom_173 (rec : Hp → Option (Bool × Hp)) (t0 : Int32) (h : Hp) : Option (Bool × Hp) :=
  Option.bind (f_X12_emits t0 0 h) fun r_1 =>
  some (true, r_1)
noncomputable def F_X12_readAtom_152 (rec : Hp → Option (Bool × Hp)) (x1 : Int32) (h : Hp) : Option (Bool × Hp) :=
  Option.bind (f_X12_readSum h) fun r_1 =>
  if r_1.1 then
    if x1 = 0 then
      F_X12_readAtom_173 rec 12 r_1.2
    else
      F_X12_readAtom_173 rec 11 r_1.2
  else
    some (false, r_1.2)
noncomputable def b_X12_readAtom (rec : Hp → Option (Bool × Hp)) (h : Hp) : Option (Bool × Hp) :=
  Option.bind (f_X12_sign 40 h) fun r_1 =>
  if r_1.1 then
    if (r_1.2 30 15) = 6 then
      some (false, r_1.2)
    else
      bnd (up1 r_1.2 30 15 ((r_1.2 30 15) + 1)) fun h_5 =>
      Option.bind (f_X12_readCond rec h_5) fun r_7 =>
      if r_7.1 then
        bnd (up1 r_7.2 30 15 ((r_7.2 30 15) - 1)) fun h_10 =>
        Option.bind (f_X12_sign 41 h_10) fun r_12 =>
        some (r_12.1, r_12.2)
      else
        some (false, r_7.2)
  else
    Option.bind (f_X12_passes 1034 r_1.2) fun r_14 =>
    if r_14.1 then
      if (r_14.2 30 15) = 6 then
        some (false, r_14.2)
      else
        bnd (up1 r_14.2 30 15 ((r_14.2 30 15) + 1)) fun h_18 =>
        Option.bind (rec h_18) fun r_20 =>
        if r_20.1 then
          bnd (up1 r_20.2 30 15 ((r_20.2 30 15) - 1)) fun h_23 =>
          Option.bind (f_X12_emits 13 0 h_23) fun r_25 =>
          some (true, r_25)
        else
          some (false, r_20.2)
    else
      Option.bind (f_X12_readTag r_14.2) fun r_27 =>
      if r_27.1 then
        some (true, r_27.2)
      else
        Option.bind (f_X12_readSum r_27.2) fun r_30 =>
        if r_30.1 then
          Option.bind (f_X12_sign 60 r_30.2) fun r_33 =>
          bnd (b2i r_33.1) fun x1_35 =>
          if x1_35 = 0 then
            Option.bind (f_X12_sign 62 r_33.2) fun r_38 =>
            if r_38.1 then
              F_X12_readAtom_152 rec x1_35 r_38.2
            else
              some (false, r_38.2)
          else
            F_X12_readAtom_152 rec x1_35 r_33.2
        else
          some (false, r_30.2)
noncomputable def f_X12_readAtom (n : Nat) : Hp → Option (Bool × Hp) :=
  Nat.rec (motive := fun _ => Hp → Option (Bool × Hp)) (fun _ => none) (fun _ q => b_X12_readAtom q) n
/-! LeanCityModel.readLawLine (I)Z -/
noncomputable def F_X12_readLawLine_131 (x2 : Int32) (h : Hp) : Option (Bool × Hp) :=
  gd (ix (x2 + 3) 2190) (
  bnd (up1 h 31 ((x2 + 3).toNatClampNeg) (h 30 18)) fun h_2 =>
  some (true, h_2))
noncomputable def F_X12_readLawLine_55 (x2 : Int32) (t0 : Int32) (t1 : Int32) (h : Hp) : Option (Bool × Hp) :=
  gd (ix t1 2190) (
  bnd (up1 h 31 t1.toNatClampNeg t0) fun h_2 =>
  gd (ix x2 2190) (
  if (h_2 31 x2.toNatClampNeg) < 0 then
    some (false, h_2)
  else
    Option.bind (f_X12_number 0 99 h_2) fun r_6 =>
    gd (ix (x2 + 1) 2190) (
    bnd (up1 r_6.2 31 ((x2 + 1).toNatClampNeg) r_6.1) fun h_9 =>
    gd (ix (x2 + 1) 2190) (
    if (h_9 31 ((x2 + 1).toNatClampNeg)) < 0 then
      some (false, h_9)
    else
      gd (ix (x2 + 2) 2190) (
      bnd (up1 h_9 31 ((x2 + 2).toNatClampNeg) (h_9 30 18)) fun h_14 =>
      bnd (up1 h_14 30 15 0) fun h_16 =>
      Option.bind (f_X12_passes 1033 h_16) fun r_18 =>
      if r_18.1 then
        Option.bind (f_X12_readCond (f_X12_readAtom 10) r_18.2) fun r_21 =>
        if r_21.1 then
          F_X12_readLawLine_131 x2 r_21.2
        else
          some (false, r_21.2)
      else
        F_X12_readLawLine_131 x2 r_18.2)))))
noncomputable def f_X12_readLawLine (x1 : Int32) (h : Hp) : Option (Bool × Hp) :=
  bnd (1342 + (4 * x1)) fun x2_1 =>
  Option.bind (f_X12_isWord 1018 h) fun r_3 =>
  if r_3 then
    F_X12_readLawLine_55 x2_1 0 x2_1 h
  else
    Option.bind (f_X12_isWord 1031 h) fun r_6 =>
    if r_6 then
      F_X12_readLawLine_55 x2_1 1 x2_1 h
    else
      Option.bind (f_X12_isWord 1032 h) fun r_9 =>
      if r_9 then
        F_X12_readLawLine_55 x2_1 2 x2_1 h
      else
        F_X12_readLawLine_55 x2_1 (-1) x2_1 h
/-! LeanCityModel.readLine (ZI)Z -/
noncomputable def F_X12_readLine_16 (x1 : Int32) (x2 : Int32) (t0 : Int32) (t1 : Int32) (h : Hp) : Option (Bool × Hp) :=
  if t1 < t0 then
    if x1 = 0 then
      Option.bind (f_X12_readLawLine x2 h) fun r_3 =>
      if r_3.1 then
        some (true, r_3.2)
      else
        some (false, r_3.2)
    else
      Option.bind (f_X12_readCityLine h) fun r_6 =>
      if r_6.1 then
        some (true, r_6.2)
      else
        some (false, r_6.2)
  else
    some (false, h)
noncomputable def f_X12_readLine (x1 : Int32) (x2 : Int32) (h : Hp) : Option (Bool × Hp) :=
  Option.bind (f_X12_letters h) fun r_1 =>
  if x1 = 0 then
    F_X12_readLine_16 x1 x2 12 x2 r_1
  else
    F_X12_readLine_16 x1 x2 14 x2 r_1
/-! LeanCityModel.readAll (Z)I -/
noncomputable def S_X12_readAll_28 (x1 : Int32) (q_28 : Int32 → Hp → Option (Int32 × Hp)) (x2 : Int32) (h : Hp) : Option (Int32 × Hp) :=
  Option.bind (f_X12_readLine x1 x2 h) fun r_1 =>
  if r_1.1 then
    Option.bind (f_X12_blanks r_1.2) fun r_4 =>
    if (r_4 30 12) = (r_4 30 13) then
      some (x2 + 1, r_4)
    else
      Option.bind (f_X12_isAt 59 59 r_4) fun r_7 =>
      if r_7 then
        bnd (up1 r_4 30 12 ((r_4 30 12) + 1)) fun h_10 =>
        q_28 (x2 + 1) h_10
      else
        some ((-1), r_4)
  else
    some ((-1), r_1.2)
noncomputable def F_X12_readAll_28 (x1 : Int32) (n : Nat) : Int32 → Hp → Option (Int32 × Hp) :=
  Nat.rec (motive := fun _ => Int32 → Hp → Option (Int32 × Hp)) (fun _ _ => none) (fun _ q => S_X12_readAll_28 x1 q) n
noncomputable def f_X12_readAll (x1 : Int32) (h : Hp) : Option (Int32 × Hp) :=
  Option.bind (f_X12_uses h) fun r_1 =>
  bnd (up1 r_1 30 18 0) fun h_3 =>
  Option.bind (f_X12_blanks h_3) fun r_5 =>
  if (r_5 30 12) = (r_5 30 13) then
    some (0, r_5)
  else
    F_X12_readAll_28 x1 FU 0 r_5
/-! LeanCityModel.city ()I -/
noncomputable def S_X12_city_92 (q_92 : Int32 → Hp → Option (Int32 × Hp)) (x2 : Int32) (h : Hp) : Option (Int32 × Hp) :=
  if x2 < 1341 then
    gd (ix x2 1341) (
    gd (ix x2 2190) (
    bnd (up1 h 31 x2.toNatClampNeg (h 33 x2.toNatClampNeg)) fun h_4 =>
    q_92 (x2 + 1) h_4))
  else
    some (0, h)
noncomputable def F_X12_city_92 (n : Nat) : Int32 → Hp → Option (Int32 × Hp) :=
  Nat.rec (motive := fun _ => Int32 → Hp → Option (Int32 × Hp)) (fun _ _ => none) (fun _ q => S_X12_city_92 q) n
noncomputable def F_X12_city_83 (t0 : Int32) (h : Hp) : Option (Int32 × Hp) :=
  Option.bind (f_X12_throwsIf t0 2 h) fun r_1 =>
  if r_1.1 then
    F_X12_city_92 FU 0 r_1.2
  else
    bnd (up1 r_1.2 31 2 ((r_1.2 31 2) + 1)) fun h_4 =>
    bnd (up1 h_4 30 7 0) fun h_6 =>
    some (h_6 31 2, h_6)
noncomputable def F_X12_city_59 (t0 : Int32) (h : Hp) : Option (Int32 × Hp) :=
  Option.bind (f_X12_throwsIf t0 1 h) fun r_1 =>
  if r_1.1 then
    F_X12_city_92 FU 0 r_1.2
  else
    if (r_1.2 31 2) = 12 then
      F_X12_city_83 1 r_1.2
    else
      F_X12_city_83 0 r_1.2
noncomputable def F_X12_city_46 (x1 : Int32) (t0 : Int32) (h : Hp) : Option (Int32 × Hp) :=
  bnd (up1 h 30 16 t0) fun h_1 =>
  if x1 < 0 then
    F_X12_city_59 1 h_1
  else
    F_X12_city_59 0 h_1
noncomputable def S_X12_city_2 (q_2 : Int32 → Hp → Option (Int32 × Hp)) (x1 : Int32) (h : Hp) : Option (Int32 × Hp) :=
  if x1 < 1341 then
    gd (ix x1 2190) (
    gd (ix x1 1341) (
    bnd (up1 h 33 x1.toNatClampNeg (h 31 x1.toNatClampNeg)) fun h_4 =>
    q_2 (x1 + 1) h_4))
  else
    Option.bind (f_X12_readAll 1 h) fun r_6 =>
    if r_6.1 < 0 then
      F_X12_city_46 r_6.1 (r_6.2 30 14) r_6.2
    else
      F_X12_city_46 r_6.1 (-1) r_6.2
noncomputable def F_X12_city_2 (n : Nat) : Int32 → Hp → Option (Int32 × Hp) :=
  Nat.rec (motive := fun _ => Int32 → Hp → Option (Int32 × Hp)) (fun _ _ => none) (fun _ q => S_X12_city_2 q) n
noncomputable def f_X12_city (h : Hp) : Option (Int32 × Hp) :=
  F_X12_city_2 FU 0 h
/-! LeanCityModel.law ()I -/
noncomputable def S_X12_law_52 (x1 : Int32) (q_52 : Int32 → Hp → Option (Int32 × Hp)) (x2 : Int32) (h : Hp) : Option (Int32 × Hp) :=
  if x2 < 849 then
    gd (ix (1341 + x2) 2190) (
    gd (ix (492 + x2) 2190) (
    bnd (up1 h 31 ((492 + x2).toNatClampNeg) (h 31 ((1341 + x2).toNatClampNeg))) fun h_4 =>
    q_52 (x2 + 1) h_4))
  else
    bnd (up1 h 31 3 1) fun h_6 =>
    bnd (up1 h_6 30 7 0) fun h_8 =>
    some (x1, h_8)
noncomputable def F_X12_law_52 (x1 : Int32) (n : Nat) : Int32 → Hp → Option (Int32 × Hp) :=
  Nat.rec (motive := fun _ => Int32 → Hp → Option (Int32 × Hp)) (fun _ _ => none) (fun _ q => S_X12_law_52 x1 q) n
noncomputable def F_X12_law_32 (x1 : Int32) (t0 : Int32) (h : Hp) : Option (Int32 × Hp) :=
  Option.bind (f_X12_throwsIf t0 1 h) fun r_1 =>
  if r_1.1 then
    some (0, r_1.2)
  else
    bnd (up1 r_1.2 31 1341 x1) fun h_4 =>
    F_X12_law_52 x1 FU 0 h_4
noncomputable def F_X12_law_19 (x1 : Int32) (t0 : Int32) (h : Hp) : Option (Int32 × Hp) :=
  bnd (up1 h 30 16 t0) fun h_1 =>
  if x1 < 0 then
    F_X12_law_32 x1 1 h_1
  else
    F_X12_law_32 x1 0 h_1
noncomputable def f_X12_law (h : Hp) : Option (Int32 × Hp) :=
  Option.bind (f_X12_readAll 0 h) fun r_1 =>
  if r_1.1 < 0 then
    F_X12_law_19 r_1.1 (r_1.2 30 14) r_1.2
  else
    F_X12_law_19 r_1.1 (-1) r_1.2
/-! LeanCityModel.isThere (II)Z -/
noncomputable def f_X12_isThere (x1 : Int32) (x2 : Int32) (h : Hp) : Option Bool :=
  Option.bind (f_X12_ofPerson x1 0 h) fun r_1 =>
  if r_1 = x2 then
    Option.bind (f_X12_ofPerson x1 2 h) fun r_4 =>
    if (f_X12_has r_4 (h 30 20) h) then
      some true
    else
      some false
  else
    some false
/-! LeanCityModel.holdOf (I)I -/
noncomputable def F_X12_holdOf_32 (q_4 : Int32 → Int32 → Option Int32) (h : Hp) (x1 : Int32) (x3 : Int32) (t0 : Int32) (t1 : Int32) : Option Int32 :=
  q_4 (t1 + t0) (x3 + 1)
noncomputable def S_X12_holdOf_4 (h : Hp) (x1 : Int32) (q_4 : Int32 → Int32 → Option Int32) (x2 : Int32) (x3 : Int32) : Option Int32 :=
  if x3 < (f_X12_people h) then
    Option.bind (f_X12_isThere x3 x1 h) fun r_2 =>
    if r_2 then
      Option.bind (f_X12_ofPerson x3 1 h) fun r_5 =>
      F_X12_holdOf_32 q_4 h x1 x3 r_5 x2
    else
      F_X12_holdOf_32 q_4 h x1 x3 0 x2
  else
    some x2
noncomputable def F_X12_holdOf_4 (h : Hp) (x1 : Int32) (n : Nat) : Int32 → Int32 → Option Int32 :=
  Nat.rec (motive := fun _ => Int32 → Int32 → Option Int32) (fun _ _ => none) (fun _ q => S_X12_holdOf_4 h x1 q) n
noncomputable def f_X12_holdOf (x1 : Int32) (h : Hp) : Option Int32 :=
  F_X12_holdOf_4 h x1 FU 0 0
/-! LeanCityModel.isHeld (I)Z -/
noncomputable def S_X12_isHeld_4 (h : Hp) (x1 : Int32) (q_4 : Int32 → Int32 → Option Bool) (x2 : Int32) (x3 : Int32) : Option Bool :=
  if x3 < (f_X12_people h) then
    if x2 = 0 then
      Option.bind (f_X12_isThere x3 x1 h) fun r_3 =>
      if r_3 then
        q_4 1 (x3 + 1)
      else
        q_4 0 (x3 + 1)
    else
      q_4 1 (x3 + 1)
  else
    Option.bind (toB x2) fun b_6 =>
    some b_6
noncomputable def F_X12_isHeld_4 (h : Hp) (x1 : Int32) (n : Nat) : Int32 → Int32 → Option Bool :=
  Nat.rec (motive := fun _ => Int32 → Int32 → Option Bool) (fun _ _ => none) (fun _ q => S_X12_isHeld_4 h x1 q) n
noncomputable def f_X12_isHeld (x1 : Int32) (h : Hp) : Option Bool :=
  F_X12_isHeld_4 h x1 FU 0 0
/-! LeanCityModel.isLeant (I)Z -/
noncomputable def S_X12_isLeant_4 (h : Hp) (x1 : Int32) (q_4 : Int32 → Int32 → Option Bool) (x2 : Int32) (x3 : Int32) : Option Bool :=
  if x3 < (f_X12_houses h) then
    if x2 = 0 then
      Option.bind (f_X12_partOf x3 x1 h) fun r_3 =>
      if 0 < r_3 then
        q_4 1 (x3 + 1)
      else
        q_4 0 (x3 + 1)
    else
      q_4 1 (x3 + 1)
  else
    Option.bind (toB x2) fun b_6 =>
    some b_6
noncomputable def F_X12_isLeant_4 (h : Hp) (x1 : Int32) (n : Nat) : Int32 → Int32 → Option Bool :=
  Nat.rec (motive := fun _ => Int32 → Int32 → Option Bool) (fun _ _ => none) (fun _ q => S_X12_isLeant_4 h x1 q) n
noncomputable def f_X12_isLeant (x1 : Int32) (h : Hp) : Option Bool :=
  F_X12_isLeant_4 h x1 FU 0 0
/-! LeanCityModel.factOf (III)I -/
noncomputable def f_X12_factOf (x1 : Int32) (x2 : Int32) (x3 : Int32) (h : Hp) : Option Int32 :=
  if x1 = 0 then
    some x3
  else if x1 = 1 then
    Option.bind (f_X12_of x3 0 h) fun r_3 =>
    some r_3
  else if x1 = 2 then
    Option.bind (f_X12_of x3 2 h) fun r_6 =>
    some r_6
  else if x1 = 3 then
    Option.bind (f_X12_of x3 3 h) fun r_9 =>
    some r_9
  else if x1 = 4 then
    some (h 30 20)
  else if x1 = 5 then
    gd (ix x3 8) (
    some (h 36 x3.toNatClampNeg))
  else if x1 = 6 then
    Option.bind (f_X12_partsOf x3 h) fun r_15 =>
    if 0 < r_15 then
      some 1
    else
      some 0
  else if x1 = 7 then
    Option.bind (f_X12_isLeant x3 h) fun r_19 =>
    if r_19 then
      some 1
    else
      some 0
  else if x1 = 8 then
    Option.bind (f_X12_isHeld x3 h) fun r_23 =>
    if r_23 then
      some 1
    else
      some 0
  else 
    some x2
/-! LeanCityModel.holdsLine (II)Z -/
noncomputable def F_X12_holdsLine_256 (q_22 : Int32 → Int32 → Hp → Option (Bool × Hp)) (x2 : Int32) (x3 : Int32) (x4 : Int32) (x5 : Int32) (t0 : Int32) (t1 : Int32) (h : Hp) : Option (Bool × Hp) :=
  gd (ix t1 400) (
  bnd (up1 h 40 t1.toNatClampNeg t0) fun h_2 =>
  q_22 x3 (x5 + 1) h_2)
noncomputable def F_X12_holdsLine_222 (q_22 : Int32 → Int32 → Hp → Option (Bool × Hp)) (x2 : Int32) (x3 : Int32) (x4 : Int32) (x5 : Int32) (x6 : Int32) (x7 : Int32) (x8 : Int32) (t0 : Int32) (h : Hp) : Option (Bool × Hp) :=
  if x6 = 10 then
    F_X12_holdsLine_256 q_22 x2 x3 x4 x5 (x7 + x8) (x3 - 1) h
  else
    if t0 = 0 then
      F_X12_holdsLine_256 q_22 x2 x3 x4 x5 0 (x3 - 1) h
    else
      F_X12_holdsLine_256 q_22 x2 x3 x4 x5 1 (x3 - 1) h
noncomputable def S_X12_holdsLine_22 (x2 : Int32) (x4 : Int32) (q_22 : Int32 → Int32 → Hp → Option (Bool × Hp)) (x3 : Int32) (x5 : Int32) (h : Hp) : Option (Bool × Hp) :=
  gd (ix (x4 + 3) 2190) (
  if x5 < (h 31 ((x4 + 3).toNatClampNeg)) then
    gd (ix (541 + (2 * x5)) 2190) (
    bnd (h 31 ((541 + (2 * x5)).toNatClampNeg)) fun x6_4 =>
    if 9 < x6_4 then
      if x6_4 = 13 then
        gd (ix (x3 - 1) 400) (
        gd (ix (x3 - 1) 400) (
        bnd (up1 h 40 ((x3 - 1).toNatClampNeg) (1 - (h 40 ((x3 - 1).toNatClampNeg)))) fun h_10 =>
        q_22 x3 (x5 + 1) h_10))
      else
        gd (ix ((x3 + (-1)) - 1) 400) (
        bnd (h 40 (((x3 + (-1)) - 1).toNatClampNeg)) fun x7_13 =>
        gd (ix (x3 + (-1)) 400) (
        bnd (h 40 ((x3 + (-1)).toNatClampNeg)) fun x8_16 =>
        if x6_4 = 11 then
          if x7_13 < x8_16 then
            F_X12_holdsLine_222 q_22 x2 (x3 + (-1)) x4 x5 x6_4 x7_13 x8_16 1 h
          else
            F_X12_holdsLine_222 q_22 x2 (x3 + (-1)) x4 x5 x6_4 x7_13 x8_16 0 h
        else
          if x6_4 = 12 then
            if x8_16 < x7_13 then
              F_X12_holdsLine_222 q_22 x2 (x3 + (-1)) x4 x5 x6_4 x7_13 x8_16 1 h
            else
              F_X12_holdsLine_222 q_22 x2 (x3 + (-1)) x4 x5 x6_4 x7_13 x8_16 0 h
          else
            if x6_4 = 14 then
              if (x7_13 + x8_16) = 2 then
                F_X12_holdsLine_222 q_22 x2 (x3 + (-1)) x4 x5 x6_4 x7_13 x8_16 1 h
              else
                F_X12_holdsLine_222 q_22 x2 (x3 + (-1)) x4 x5 x6_4 x7_13 x8_16 0 h
            else
              if 0 < (x7_13 + x8_16) then
                F_X12_holdsLine_222 q_22 x2 (x3 + (-1)) x4 x5 x6_4 x7_13 x8_16 1 h
              else
                F_X12_holdsLine_222 q_22 x2 (x3 + (-1)) x4 x5 x6_4 x7_13 x8_16 0 h))
    else
      gd (ix ((541 + (2 * x5)) + 1) 2190) (
      Option.bind (f_X12_factOf x6_4 (h 31 (((541 + (2 * x5)) + 1).toNatClampNeg)) x2 h) fun r_26 =>
      gd (ix x3 400) (
      bnd (up1 h 40 x3.toNatClampNeg r_26) fun h_29 =>
      q_22 (x3 + 1) (x5 + 1) h_29)))
  else
    if x3 = 0 then
      some (true, h)
    else
      if (h 40 0) = 1 then
        some (true, h)
      else
        some (false, h))
noncomputable def F_X12_holdsLine_22 (x2 : Int32) (x4 : Int32) (n : Nat) : Int32 → Int32 → Hp → Option (Bool × Hp) :=
  Nat.rec (motive := fun _ => Int32 → Int32 → Hp → Option (Bool × Hp)) (fun _ _ _ => none) (fun _ q => S_X12_holdsLine_22 x2 x4 q) n
noncomputable def f_X12_holdsLine (x1 : Int32) (x2 : Int32) (h : Hp) : Option (Bool × Hp) :=
  bnd (493 + (4 * x1)) fun x4_1 =>
  gd (ix (x4_1 + 2) 2190) (
  bnd (h 31 ((x4_1 + 2).toNatClampNeg)) fun x5_4 =>
  F_X12_holdsLine_22 x2 x4_1 FU 0 x5_4 h)
/-! LeanCityModel.sumOf (II)I -/
noncomputable def S_X12_sumOf_5 (x1 : Int32) (x2 : Int32) (q_5 : Int32 → Int32 → Hp → Option (Int32 × Hp)) (x3 : Int32) (x4 : Int32) (h : Hp) : Option (Int32 × Hp) :=
  if (h 31 3) = 1 then
    if x4 < (h 31 492) then
      gd (ix (493 + (4 * x4)) 2190) (
      if (h 31 ((493 + (4 * x4)).toNatClampNeg)) = x1 then
        Option.bind (f_X12_holdsLine x4 x2 h) fun r_5 =>
        if r_5.1 then
          gd (ix ((493 + (4 * x4)) + 1) 2190) (
          bnd (x3 + (r_5.2 31 (((493 + (4 * x4)) + 1).toNatClampNeg))) fun x3_9 =>
          q_5 x3_9 (x4 + 1) r_5.2)
        else
          q_5 x3 (x4 + 1) r_5.2
      else
        q_5 x3 (x4 + 1) h)
    else
      some (x3, h)
  else
    some (x3, h)
noncomputable def F_X12_sumOf_5 (x1 : Int32) (x2 : Int32) (n : Nat) : Int32 → Int32 → Hp → Option (Int32 × Hp) :=
  Nat.rec (motive := fun _ => Int32 → Int32 → Hp → Option (Int32 × Hp)) (fun _ _ _ => none) (fun _ q => S_X12_sumOf_5 x1 x2 q) n
noncomputable def f_X12_sumOf (x1 : Int32) (x2 : Int32) (h : Hp) : Option (Int32 × Hp) :=
  F_X12_sumOf_5 x1 x2 FU 0 0 h
/-! LeanCityModel.standsBy (I)I -/
noncomputable def F_X12_standsBy_61 (t0 : Int32) (t1 : Int32) (h : Hp) : Option (Int32 × Hp) :=
  some (t1 + t0, h)
noncomputable def f_X12_standsBy (x1 : Int32) (h : Hp) : Option (Int32 × Hp) :=
  Option.bind (f_X12_of x1 1 h) fun r_1 =>
  Option.bind (f_X12_of x1 2 h) fun r_3 =>
  Option.bind (f_X12_holdOf x1 h) fun r_5 =>
  Option.bind (f_X12_sumOf 0 x1 h) fun r_7 =>
  Option.bind (f_X12_sumOf 1 x1 r_7.2) fun r_9 =>
  bnd ((((r_1 + r_3) + r_5) + r_7.1) - r_9.1) fun x2_11 =>
  if (f_X12_has (r_9.2 30 21) x1 r_9.2) then
    F_X12_standsBy_61 (r_9.2 31 7) (imax 0 x2_11) r_9.2
  else
    F_X12_standsBy_61 0 (imax 0 x2_11) r_9.2
/-! LeanCityModel.sagsNow (I)I -/
noncomputable def f_X12_sagsNow (x1 : Int32) (h : Hp) : Option (Int32 × Hp) :=
  Option.bind (f_X12_bearsNow x1 h) fun r_1 =>
  Option.bind (f_X12_standsBy x1 h) fun r_3 =>
  some (r_1 - r_3.1, r_3.2)
/-! LeanCityModel.tells (IIII)V -/
noncomputable def S_X12_tells_5 (x1 : Int32) (x2 : Int32) (x3 : Int32) (x4 : Int32) (q_5 : Int32 → Hp → Option Hp) (x5 : Int32) (h : Hp) : Option Hp :=
  if x5 < 6 then
    bnd (up1 h 31 132 (h 31 5)) fun h_2 =>
    bnd (up1 h_2 31 133 (h_2 31 4)) fun h_4 =>
    bnd (up1 h_4 31 134 x1) fun h_6 =>
    bnd (up1 h_6 31 135 x2) fun h_8 =>
    bnd (up1 h_8 31 136 x3) fun h_10 =>
    bnd (up1 h_10 31 137 x4) fun h_12 =>
    bnd (up1 h_12 31 8 (imin 60 ((h_12 31 8) + 1))) fun h_14 =>
    some h_14
  else
    gd (ix ((132 + x5) - 6) 2190) (
    gd (ix (132 + x5) 2190) (
    bnd (up1 h 31 ((132 + x5).toNatClampNeg) (h 31 (((132 + x5) - 6).toNatClampNeg))) fun h_18 =>
    q_5 (x5 + (-1)) h_18))
noncomputable def F_X12_tells_5 (x1 : Int32) (x2 : Int32) (x3 : Int32) (x4 : Int32) (n : Nat) : Int32 → Hp → Option Hp :=
  Nat.rec (motive := fun _ => Int32 → Hp → Option Hp) (fun _ _ => none) (fun _ q => S_X12_tells_5 x1 x2 x3 x4 q) n
noncomputable def f_X12_tells (x1 : Int32) (x2 : Int32) (x3 : Int32) (x4 : Int32) (h : Hp) : Option Hp :=
  F_X12_tells_5 x1 x2 x3 x4 FU 359 h
/-! LeanCityModel.isGone (I)V -/
noncomputable def S_X12_isGone_49 (x1 : Int32) (q_49 : Int32 → Hp → Option Hp) (x2 : Int32) (h : Hp) : Option Hp :=
  if x2 < (f_X12_people h) then
    Option.bind (f_X12_ofPerson x2 0 h) fun r_2 =>
    if r_2 = x1 then
      gd (ix (f_X12_personAt x2 0 h) 2190) (
      bnd (up1 h 31 ((f_X12_personAt x2 0 h).toNatClampNeg) (-1)) fun h_6 =>
      q_49 (x2 + 1) h_6)
    else
      q_49 (x2 + 1) h
  else
    some h
noncomputable def F_X12_isGone_49 (x1 : Int32) (n : Nat) : Int32 → Hp → Option Hp :=
  Nat.rec (motive := fun _ => Int32 → Hp → Option Hp) (fun _ _ => none) (fun _ q => S_X12_isGone_49 x1 q) n
noncomputable def S_X12_isGone_13 (x1 : Int32) (q_13 : Int32 → Hp → Option Hp) (x2 : Int32) (h : Hp) : Option Hp :=
  if x2 < 8 then
    gd (ix (f_X12_partAt x1 x2 h) 2190) (
    bnd (up1 h 31 ((f_X12_partAt x1 x2 h).toNatClampNeg) 0) fun h_3 =>
    gd (ix (f_X12_partAt x2 x1 h_3) 2190) (
    bnd (up1 h_3 31 ((f_X12_partAt x2 x1 h_3).toNatClampNeg) 0) fun h_6 =>
    q_13 (x2 + 1) h_6))
  else
    F_X12_isGone_49 x1 FU 0 h
noncomputable def F_X12_isGone_13 (x1 : Int32) (n : Nat) : Int32 → Hp → Option Hp :=
  Nat.rec (motive := fun _ => Int32 → Hp → Option Hp) (fun _ _ => none) (fun _ q => S_X12_isGone_13 x1 q) n
noncomputable def f_X12_isGone (x1 : Int32) (h : Hp) : Option Hp :=
  gd (ix (f_X12_at x1 4 h) 2190) (
  bnd (up1 h 31 ((f_X12_at x1 4 h).toNatClampNeg) 1) fun h_2 =>
  F_X12_isGone_13 x1 FU 0 h_2)
/-! LeanCityModel.thoseSagging ()I -/
noncomputable def F_X12_thoseSagging_40 (q_8 : Int32 → Int32 → Hp → Option (Int32 × Hp)) (x2 : Int32) (t0 : Int32) (t1 : Int32) (h : Hp) : Option (Int32 × Hp) :=
  bnd (t1 ||| t0) fun x1_1 =>
  q_8 x1_1 (x2 + 1) h
noncomputable def S_X12_thoseSagging_8 (q_8 : Int32 → Int32 → Hp → Option (Int32 × Hp)) (x1 : Int32) (x2 : Int32) (h : Hp) : Option (Int32 × Hp) :=
  if x2 < (f_X12_houses h) then
    Option.bind (f_X12_isFallen x2 h) fun r_2 =>
    if r_2 then
      F_X12_thoseSagging_40 q_8 x2 0 x1 h
    else
      Option.bind (f_X12_sagsNow x2 h) fun r_5 =>
      if 0 < r_5.1 then
        F_X12_thoseSagging_40 q_8 x2 (shl 1 x2) x1 r_5.2
      else
        F_X12_thoseSagging_40 q_8 x2 0 x1 r_5.2
  else
    some (x1, h)
noncomputable def F_X12_thoseSagging_8 (n : Nat) : Int32 → Int32 → Hp → Option (Int32 × Hp) :=
  Nat.rec (motive := fun _ => Int32 → Int32 → Hp → Option (Int32 × Hp)) (fun _ _ _ => none) (fun _ q => S_X12_thoseSagging_8 q) n
noncomputable def f_X12_thoseSagging (h : Hp) : Option (Int32 × Hp) :=
  Option.bind (f_X12_lays h) fun r_1 =>
  F_X12_thoseSagging_8 FU 0 0 r_1
/-! LeanCityModel.allFall (I)I -/
noncomputable def S_X12_allFall_78 (q_17 : Int32 → Int32 → Hp → Option (Int32 × Hp)) (x2 : Int32) (x3 : Int32) (q_78 : Int32 → Hp → Option (Int32 × Hp)) (x4 : Int32) (h : Hp) : Option (Int32 × Hp) :=
  if x4 < (f_X12_houses h) then
    if (f_X12_has x3 x4 h) then
      Option.bind (f_X12_isGone x4 h) fun r_3 =>
      q_78 (x4 + 1) r_3
    else
      q_78 (x4 + 1) h
  else
    bnd (x2 ||| x3) fun x2_5 =>
    Option.bind (f_X12_thoseSagging h) fun r_7 =>
    q_17 x2_5 r_7.1 r_7.2
noncomputable def F_X12_allFall_78 (q_17 : Int32 → Int32 → Hp → Option (Int32 × Hp)) (x2 : Int32) (x3 : Int32) (n : Nat) : Int32 → Hp → Option (Int32 × Hp) :=
  Nat.rec (motive := fun _ => Int32 → Hp → Option (Int32 × Hp)) (fun _ _ => none) (fun _ q => S_X12_allFall_78 q_17 x2 x3 q) n
noncomputable def S_X12_allFall_34 (q_17 : Int32 → Int32 → Hp → Option (Int32 × Hp)) (x2 : Int32) (x3 : Int32) (q_34 : Int32 → Hp → Option (Int32 × Hp)) (x4 : Int32) (h : Hp) : Option (Int32 × Hp) :=
  if x4 < (f_X12_houses h) then
    if (f_X12_has x3 x4 h) then
      Option.bind (f_X12_sagsNow x4 h) fun r_3 =>
      Option.bind (f_X12_tells x4 (h 30 22) r_3.1 0 r_3.2) fun r_5 =>
      q_34 (x4 + 1) r_5
    else
      q_34 (x4 + 1) h
  else
    F_X12_allFall_78 q_17 x2 x3 FU 0 h
noncomputable def F_X12_allFall_34 (q_17 : Int32 → Int32 → Hp → Option (Int32 × Hp)) (x2 : Int32) (x3 : Int32) (n : Nat) : Int32 → Hp → Option (Int32 × Hp) :=
  Nat.rec (motive := fun _ => Int32 → Hp → Option (Int32 × Hp)) (fun _ _ => none) (fun _ q => S_X12_allFall_34 q_17 x2 x3 q) n
noncomputable def S_X12_allFall_17 (q_17 : Int32 → Int32 → Hp → Option (Int32 × Hp)) (x2 : Int32) (x3 : Int32) (h : Hp) : Option (Int32 × Hp) :=
  if x3 = 0 then
    some (x2, h)
  else
    bnd (up1 h 30 22 ((h 30 22) + 1)) fun h_2 =>
    F_X12_allFall_34 q_17 x2 x3 FU 0 h_2
noncomputable def F_X12_allFall_17 (n : Nat) : Int32 → Int32 → Hp → Option (Int32 × Hp) :=
  Nat.rec (motive := fun _ => Int32 → Int32 → Hp → Option (Int32 × Hp)) (fun _ _ _ => none) (fun _ q => S_X12_allFall_17 q) n
noncomputable def f_X12_allFall (x1 : Int32) (h : Hp) : Option (Int32 × Hp) :=
  bnd (up1 h 30 20 x1) fun h_1 =>
  bnd (up1 h_1 30 22 0) fun h_3 =>
  Option.bind (f_X12_thoseSagging h_3) fun r_5 =>
  F_X12_allFall_17 FU 0 r_5.1 r_5.2
/-! LeanCityModel.wouldFall (I)I -/
noncomputable def f_X12_wouldFall (x1 : Int32) (h : Hp) : Option (Int32 × Hp) :=
  Option.bind (f_X12_allFall x1 h) fun r_1 =>
  Option.bind (f_X12_bringsBack r_1.2) fun r_3 =>
  some (r_1.1, r_3)
/-! LeanCityModel.fallsIn (I)I -/
noncomputable def f_X12_fallsIn (x1 : Int32) (h : Hp) : Option (Int32 × Hp) :=
  Option.bind (f_X12_keepsAll h) fun r_1 =>
  Option.bind (f_X12_wouldFall x1 r_1) fun r_3 =>
  some (r_3.1, r_3.2)
/-! LeanCityModel.wanders (I)V -/
noncomputable def F_X12_wanders_76 (q_48 : Int32 → Int32 → Hp → Option Hp) (x1 : Int32) (x2 : Int32) (x4 : Int32) (t0 : Int32) (t1 : Int32) (h : Hp) : Option Hp :=
  q_48 (t1 - t0) (x4 + 1) h
noncomputable def F_X12_wanders_61 (q_48 : Int32 → Int32 → Hp → Option Hp) (x1 : Int32) (x2 : Int32) (x3 : Int32) (x4 : Int32) (h : Hp) : Option Hp :=
  if (f_X12_has x2 x4 h) then
    F_X12_wanders_76 q_48 x1 x2 x4 1 x3 h
  else
    F_X12_wanders_76 q_48 x1 x2 x4 0 x3 h
noncomputable def S_X12_wanders_48 (x1 : Int32) (x2 : Int32) (q_48 : Int32 → Int32 → Hp → Option Hp) (x3 : Int32) (x4 : Int32) (h : Hp) : Option Hp :=
  if (f_X12_has x2 x4 h) then
    if 0 < x3 then
      F_X12_wanders_61 q_48 x1 x2 x3 x4 h
    else
      gd (ix (f_X12_personAt x1 0 h) 2190) (
      bnd (up1 h 31 ((f_X12_personAt x1 0 h).toNatClampNeg) x4) fun h_4 =>
      some h_4)
  else
    F_X12_wanders_61 q_48 x1 x2 x3 x4 h
noncomputable def F_X12_wanders_48 (x1 : Int32) (x2 : Int32) (n : Nat) : Int32 → Int32 → Hp → Option Hp :=
  Nat.rec (motive := fun _ => Int32 → Int32 → Hp → Option Hp) (fun _ _ _ => none) (fun _ q => S_X12_wanders_48 x1 x2 q) n
noncomputable def f_X12_wanders (x1 : Int32) (h : Hp) : Option Hp :=
  Option.bind (f_X12_standing h) fun r_1 =>
  Option.bind (f_X12_ofPerson x1 0 h) fun r_3 =>
  if r_3 = (-1) then
    some h
  else
    Option.bind (f_X12_drawn 100 h) fun r_6 =>
    if r_6.1 < (r_6.2 31 6) then
      if r_1 = 0 then
        some r_6.2
      else
        Option.bind (f_X12_drawn (f_J6_bitCount_0f7a4 r_1 r_6.2) r_6.2) fun r_10 =>
        F_X12_wanders_48 x1 r_1 FU r_10.1 0 r_10.2
    else
      some r_6.2
/-! LeanCityModel.ages (I)V -/
noncomputable def f_X12_ages (x1 : Int32) (h : Hp) : Option Hp :=
  Option.bind (f_X12_isFallen x1 h) fun r_1 =>
  if r_1 then
    some h
  else
    Option.bind (f_X12_of x1 2 h) fun r_4 =>
    Option.bind (f_X12_sumOf 2 x1 h) fun r_6 =>
    gd (ix (f_X12_at x1 2 h) 2190) (
    bnd (up1 r_6.2 31 ((f_X12_at x1 2 h).toNatClampNeg) (imin 9 (r_4 + r_6.1))) fun h_9 =>
    if (h_9 31 4) = 0 then
      Option.bind (f_X12_of x1 3 h_9) fun r_12 =>
      gd (ix (f_X12_at x1 3 h_9) 2190) (
      bnd (up1 h_9 31 ((f_X12_at x1 3 h_9).toNatClampNeg) (imin 99 (r_12 + 1))) fun h_15 =>
      some h_15)
    else
      some h_9)
/-! LeanCityModel.oneEvening (Z)I -/
noncomputable def F_X12_oneEvening_109 (x2 : Int32) (h : Hp) : Option (Int32 × Hp) :=
  some (f_J6_bitCount_0f7a4 x2 h, h)
noncomputable def F_X12_oneEvening_61 (x2 : Int32) (h : Hp) : Option (Int32 × Hp) :=
  bnd (up1 h 31 4 ((h 31 4) + 1)) fun h_1 =>
  if (h_1 31 4) = 7 then
    bnd (up1 h_1 31 4 0) fun h_4 =>
    bnd (up1 h_4 31 5 (imin 9999 ((h_4 31 5) + 1))) fun h_6 =>
    F_X12_oneEvening_109 x2 h_6
  else
    F_X12_oneEvening_109 x2 h_1
noncomputable def S_X12_oneEvening_38 (x1 : Int32) (x2 : Int32) (q_38 : Int32 → Hp → Option (Int32 × Hp)) (x3 : Int32) (h : Hp) : Option (Int32 × Hp) :=
  if x3 < (f_X12_people h) then
    if x1 = 0 then
      Option.bind (f_X12_wanders x3 h) fun r_3 =>
      q_38 (x3 + 1) r_3
    else
      F_X12_oneEvening_61 x2 h
  else
    F_X12_oneEvening_61 x2 h
noncomputable def F_X12_oneEvening_38 (x1 : Int32) (x2 : Int32) (n : Nat) : Int32 → Hp → Option (Int32 × Hp) :=
  Nat.rec (motive := fun _ => Int32 → Hp → Option (Int32 × Hp)) (fun _ _ => none) (fun _ q => S_X12_oneEvening_38 x1 x2 q) n
noncomputable def S_X12_oneEvening_17 (x1 : Int32) (x2 : Int32) (q_17 : Int32 → Hp → Option (Int32 × Hp)) (x3 : Int32) (h : Hp) : Option (Int32 × Hp) :=
  if x3 < (f_X12_houses h) then
    Option.bind (f_X12_ages x3 h) fun r_2 =>
    q_17 (x3 + 1) r_2
  else
    F_X12_oneEvening_38 x1 x2 FU 0 h
noncomputable def F_X12_oneEvening_17 (x1 : Int32) (x2 : Int32) (n : Nat) : Int32 → Hp → Option (Int32 × Hp) :=
  Nat.rec (motive := fun _ => Int32 → Hp → Option (Int32 × Hp)) (fun _ _ => none) (fun _ q => S_X12_oneEvening_17 x1 x2 q) n
noncomputable def f_X12_oneEvening (x1 : Int32) (h : Hp) : Option (Int32 × Hp) :=
  Option.bind (f_X12_allFall (h 31 4) h) fun r_1 =>
  Option.bind (f_X12_lays r_1.2) fun r_3 =>
  F_X12_oneEvening_17 x1 r_1.1 FU 0 r_3
/-! LeanCityModel.goesOn (IZ)I -/
noncomputable def S_X12_goesOn_5 (x1 : Int32) (x2 : Int32) (q_5 : Int32 → Int32 → Hp → Option (Int32 × Hp)) (x3 : Int32) (x4 : Int32) (h : Hp) : Option (Int32 × Hp) :=
  if x4 < x1 then
    Option.bind (f_X12_oneEvening x2 h) fun r_2 =>
    bnd (x3 + r_2.1) fun x3_4 =>
    q_5 x3_4 (x4 + 1) r_2.2
  else
    some (x3, h)
noncomputable def F_X12_goesOn_5 (x1 : Int32) (x2 : Int32) (n : Nat) : Int32 → Int32 → Hp → Option (Int32 × Hp) :=
  Nat.rec (motive := fun _ => Int32 → Int32 → Hp → Option (Int32 × Hp)) (fun _ _ _ => none) (fun _ q => S_X12_goesOn_5 x1 x2 q) n
noncomputable def f_X12_goesOn (x1 : Int32) (x2 : Int32) (h : Hp) : Option (Int32 × Hp) :=
  F_X12_goesOn_5 x1 x2 FU 0 0 h
/-! LeanCityModel.evenings (I)I -/
noncomputable def F_X12_evenings_21 (x1 : Int32) (t0 : Int32) (h : Hp) : Option (Int32 × Hp) :=
  Option.bind (f_X12_throwsIf t0 1 h) fun r_1 =>
  if r_1.1 then
    some (0, r_1.2)
  else
    Option.bind (f_X12_remembers r_1.2) fun r_4 =>
    Option.bind (f_X12_goesOn x1 0 r_4) fun r_6 =>
    some (r_6.1, r_6.2)
noncomputable def f_X12_evenings (x1 : Int32) (h : Hp) : Option (Int32 × Hp) :=
  bnd (up1 h 30 0 0) fun h_1 =>
  if (f_X12_in x1 1 70 h_1) then
    F_X12_evenings_21 x1 0 h_1
  else
    F_X12_evenings_21 x1 1 h_1
/-! LeanCityModel.laysNow ()V -/
noncomputable def f_X12_laysNow (h : Hp) : Option Hp :=
  bnd (up1 h 30 20 (h 31 4)) fun h_1 =>
  Option.bind (f_X12_lays h_1) fun r_3 =>
  some r_3
/-! LeanCityModel.bearsAll ()I -/
noncomputable def F_X12_bearsAll_30 (q_4 : Int32 → Int32 → Option Int32) (h : Hp) (x2 : Int32) (t0 : Int32) (t1 : Int32) : Option Int32 :=
  q_4 (t1 + t0) (x2 + 1)
noncomputable def S_X12_bearsAll_4 (h : Hp) (q_4 : Int32 → Int32 → Option Int32) (x1 : Int32) (x2 : Int32) : Option Int32 :=
  if x2 < (f_X12_houses h) then
    Option.bind (f_X12_isFallen x2 h) fun r_2 =>
    if r_2 then
      F_X12_bearsAll_30 q_4 h x2 0 x1
    else
      Option.bind (f_X12_bearsNow x2 h) fun r_5 =>
      F_X12_bearsAll_30 q_4 h x2 r_5 x1
  else
    some x1
noncomputable def F_X12_bearsAll_4 (h : Hp) (n : Nat) : Int32 → Int32 → Option Int32 :=
  Nat.rec (motive := fun _ => Int32 → Int32 → Option Int32) (fun _ _ => none) (fun _ q => S_X12_bearsAll_4 h q) n
noncomputable def f_X12_bearsAll (h : Hp) : Option Int32 :=
  F_X12_bearsAll_4 h FU 0 0
/-! LeanCityModel.shareOf (I)I -/
noncomputable def f_X12_shareOf (x1 : Int32) (h : Hp) : Option Int32 :=
  Option.bind (f_X12_bearsAll h) fun r_1 =>
  if r_1 = 0 then
    some 0
  else
    Option.bind (f_X12_bearsNow x1 h) fun r_4 =>
    gd (¬ r_1 = 0) (
    some ((100 * r_4) / r_1))
/-! LeanCityModel.gateOf (I)I -/
noncomputable def F_X12_gateOf_30 (q_4 : Int32 → Int32 → Option Int32) (h : Hp) (x1 : Int32) (x3 : Int32) (t0 : Int32) (t1 : Int32) : Option Int32 :=
  bnd (t1 ||| t0) fun x2_1 =>
  q_4 x2_1 (x3 + 1)
noncomputable def S_X12_gateOf_4 (h : Hp) (x1 : Int32) (q_4 : Int32 → Int32 → Option Int32) (x2 : Int32) (x3 : Int32) : Option Int32 :=
  if x3 < (f_X12_people h) then
    Option.bind (f_X12_ofPerson x3 0 h) fun r_2 =>
    if r_2 = x1 then
      F_X12_gateOf_30 q_4 h x1 x3 (shl 1 x3) x2
    else
      F_X12_gateOf_30 q_4 h x1 x3 0 x2
  else
    some x2
noncomputable def F_X12_gateOf_4 (h : Hp) (x1 : Int32) (n : Nat) : Int32 → Int32 → Option Int32 :=
  Nat.rec (motive := fun _ => Int32 → Int32 → Option Int32) (fun _ _ => none) (fun _ q => S_X12_gateOf_4 h x1 q) n
noncomputable def f_X12_gateOf (x1 : Int32) (h : Hp) : Option Int32 :=
  F_X12_gateOf_4 h x1 FU 0 0
/-! LeanCityModel.house (II)I -/
noncomputable def F_X12_house_34 (x1 : Int32) (x2 : Int32) (t0 : Int32) (h : Hp) : Option (Int32 × Hp) :=
  Option.bind (f_X12_throwsIf t0 2 h) fun r_1 =>
  if r_1.1 then
    some (0, r_1.2)
  else
    if 4 < x2 then
      Option.bind (f_X12_isFallen x1 r_1.2) fun r_5 =>
      if r_5 then
        some (0, r_1.2)
      else
        Option.bind (f_X12_laysNow r_1.2) fun r_8 =>
        if x2 = 5 then
          gd (ix x1 8) (
          some (r_8 36 x1.toNatClampNeg, r_8))
        else if x2 = 6 then
          Option.bind (f_X12_bearsNow x1 r_8) fun r_13 =>
          some (r_13, r_8)
        else if x2 = 7 then
          Option.bind (f_X12_standsBy x1 r_8) fun r_16 =>
          some (r_16.1, r_16.2)
        else if x2 = 8 then
          Option.bind (f_X12_sagsNow x1 r_8) fun r_19 =>
          some (r_19.1, r_19.2)
        else if x2 = 9 then
          Option.bind (f_X12_sumOf 2 x1 r_8) fun r_22 =>
          some (r_22.1, r_22.2)
        else if x2 = 10 then
          Option.bind (f_X12_shareOf x1 r_8) fun r_25 =>
          some (r_25, r_8)
        else if x2 = 11 then
          Option.bind (f_X12_of x1 1 r_8) fun r_28 =>
          Option.bind (f_X12_of x1 2 r_8) fun r_30 =>
          Option.bind (f_X12_of x1 3 r_8) fun r_32 =>
          some (imax 0 (((r_28 / 10) + r_30) - (r_32 / 5)), r_8)
        else 
          Option.bind (f_X12_gateOf x1 r_8) fun r_34 =>
          some (r_34, r_8)
    else
      Option.bind (f_X12_of x1 x2 r_1.2) fun r_36 =>
      some (r_36, r_1.2)
noncomputable def f_X12_house (x1 : Int32) (x2 : Int32) (h : Hp) : Option (Int32 × Hp) :=
  bnd (up1 h 30 0 0) fun h_1 =>
  Option.bind (f_X12_throwsIf (b2i (f_X12_noHouse x1 h_1)) 1 h_1) fun r_3 =>
  if r_3.1 then
    some (0, r_3.2)
  else
    if (f_X12_in x2 0 12 r_3.2) then
      F_X12_house_34 x1 x2 0 r_3.2
    else
      F_X12_house_34 x1 x2 1 r_3.2
/-! LeanCityModel.part (II)I -/
noncomputable def F_X12_part_27 (x1 : Int32) (x2 : Int32) (t0 : Int32) (h : Hp) : Option (Int32 × Hp) :=
  Option.bind (f_X12_throwsIf t0 1 h) fun r_1 =>
  if r_1.1 then
    some (0, r_1.2)
  else
    Option.bind (f_X12_partOf x1 x2 r_1.2) fun r_4 =>
    some (r_4, r_1.2)
noncomputable def f_X12_part (x1 : Int32) (x2 : Int32) (h : Hp) : Option (Int32 × Hp) :=
  bnd (up1 h 30 0 0) fun h_1 =>
  if (f_X12_noHouse x1 h_1) then
    F_X12_part_27 x1 x2 1 h_1
  else
    if (f_X12_noHouse x2 h_1) then
      F_X12_part_27 x1 x2 1 h_1
    else
      F_X12_part_27 x1 x2 0 h_1
/-! LeanCityModel.needsOf (II)I -/
noncomputable def f_X12_needsOf (x1 : Int32) (x2 : Int32) (h : Hp) : Option (Int32 × Hp) :=
  Option.bind (f_X12_fallsIn x2 h) fun r_1 =>
  Option.bind (f_X12_keepsAll r_1.2) fun r_3 =>
  gd (ix (f_X12_personAt x1 0 r_3) 2190) (
  bnd (up1 r_3 31 ((f_X12_personAt x1 0 r_3).toNatClampNeg) (-1)) fun h_6 =>
  Option.bind (f_X12_wouldFall x2 h_6) fun r_8 =>
  some (r_8.1 &&& (r_1.1 ^^^ (-1)), r_8.2))
/-! LeanCityModel.person (II)I -/
noncomputable def F_X12_person_33 (x1 : Int32) (x2 : Int32) (t0 : Int32) (h : Hp) : Option (Int32 × Hp) :=
  Option.bind (f_X12_throwsIf t0 2 h) fun r_1 =>
  if r_1.1 then
    some (0, r_1.2)
  else
    if x2 = 3 then
      Option.bind (f_X12_needsOf x1 (r_1.2 31 4) r_1.2) fun r_5 =>
      some (r_5.1, r_5.2)
    else
      Option.bind (f_X12_ofPerson x1 x2 r_1.2) fun r_7 =>
      some (r_7, r_1.2)
noncomputable def f_X12_person (x1 : Int32) (x2 : Int32) (h : Hp) : Option (Int32 × Hp) :=
  bnd (up1 h 30 0 0) fun h_1 =>
  Option.bind (f_X12_throwsIf (b2i (f_X12_noPerson x1 h_1)) 1 h_1) fun r_3 =>
  if r_3.1 then
    some (0, r_3.2)
  else
    if (f_X12_in x2 0 3 r_3.2) then
      F_X12_person_33 x1 x2 0 r_3.2
    else
      F_X12_person_33 x1 x2 1 r_3.2
/-! LeanCityModel.build (IIII)I -/
noncomputable def F_X12_build_86 (x1 : Int32) (x2 : Int32) (x3 : Int32) (x4 : Int32) (t0 : Int32) (h : Hp) : Option (Int32 × Hp) :=
  Option.bind (f_X12_throwsIf t0 3 h) fun r_1 =>
  if r_1.1 then
    some (0, r_1.2)
  else
    Option.bind (f_X12_remembers r_1.2) fun r_4 =>
    bnd (f_X12_houses r_4) fun x5_6 =>
    Option.bind (f_X12_isBuilt x1 x2 r_4) fun r_8 =>
    gd (ix (f_X12_partAt x5_6 x3 r_8) 2190) (
    bnd (up1 r_8 31 ((f_X12_partAt x5_6 x3 r_8).toNatClampNeg) x4) fun h_11 =>
    some (x5_6, h_11))
noncomputable def F_X12_build_56 (x1 : Int32) (x2 : Int32) (x3 : Int32) (x4 : Int32) (t0 : Int32) (h : Hp) : Option (Int32 × Hp) :=
  Option.bind (f_X12_throwsIf t0 2 h) fun r_1 =>
  if r_1.1 then
    some (0, r_1.2)
  else
    if (f_X12_houses r_1.2) = 8 then
      F_X12_build_86 x1 x2 x3 x4 1 r_1.2
    else
      Option.bind (f_X12_isFallen x3 r_1.2) fun r_5 =>
      if r_5 then
        F_X12_build_86 x1 x2 x3 x4 1 r_1.2
      else
        F_X12_build_86 x1 x2 x3 x4 0 r_1.2
noncomputable def f_X12_build (x1 : Int32) (x2 : Int32) (x3 : Int32) (x4 : Int32) (h : Hp) : Option (Int32 × Hp) :=
  bnd (up1 h 30 0 0) fun h_1 =>
  Option.bind (f_X12_throwsIf (b2i (f_X12_noHouse x3 h_1)) 1 h_1) fun r_3 =>
  if r_3.1 then
    some (0, r_3.2)
  else
    if (f_X12_in x1 1 99 r_3.2) then
      if (f_X12_in x2 0 999 r_3.2) then
        if (f_X12_in x4 1 9 r_3.2) then
          F_X12_build_56 x1 x2 x3 x4 0 r_3.2
        else
          F_X12_build_56 x1 x2 x3 x4 1 r_3.2
      else
        F_X12_build_56 x1 x2 x3 x4 1 r_3.2
    else
      F_X12_build_56 x1 x2 x3 x4 1 r_3.2
/-! LeanCityModel.noTwo (IIZ)Z -/
noncomputable def F_X12_noTwo_78 (t0 : Int32) (h : Hp) : Option (Bool × Hp) :=
  Option.bind (f_X12_throwsIf t0 3 h) fun r_1 =>
  if r_1.1 then
    some (true, r_1.2)
  else
    some (false, r_1.2)
noncomputable def F_X12_noTwo_49 (x1 : Int32) (x2 : Int32) (t0 : Int32) (h : Hp) : Option (Bool × Hp) :=
  Option.bind (f_X12_throwsIf t0 2 h) fun r_1 =>
  if r_1.1 then
    some (true, r_1.2)
  else
    Option.bind (f_X12_isFallen x1 r_1.2) fun r_4 =>
    if r_4 then
      F_X12_noTwo_78 1 r_1.2
    else
      Option.bind (f_X12_isFallen x2 r_1.2) fun r_7 =>
      if r_7 then
        F_X12_noTwo_78 1 r_1.2
      else
        F_X12_noTwo_78 0 r_1.2
noncomputable def F_X12_noTwo_27 (x1 : Int32) (x2 : Int32) (x3 : Int32) (t0 : Int32) (h : Hp) : Option (Bool × Hp) :=
  Option.bind (f_X12_throwsIf t0 1 h) fun r_1 =>
  if r_1.1 then
    some (true, r_1.2)
  else
    if x1 = x2 then
      F_X12_noTwo_49 x1 x2 1 r_1.2
    else
      if x3 = 0 then
        F_X12_noTwo_49 x1 x2 1 r_1.2
      else
        F_X12_noTwo_49 x1 x2 0 r_1.2
noncomputable def f_X12_noTwo (x1 : Int32) (x2 : Int32) (x3 : Int32) (h : Hp) : Option (Bool × Hp) :=
  bnd (up1 h 30 0 0) fun h_1 =>
  if (f_X12_noHouse x1 h_1) then
    F_X12_noTwo_27 x1 x2 x3 1 h_1
  else
    if (f_X12_noHouse x2 h_1) then
      F_X12_noTwo_27 x1 x2 x3 1 h_1
    else
      F_X12_noTwo_27 x1 x2 x3 0 h_1
/-! LeanCityModel.lean (III)I -/
noncomputable def f_X12_lean (x1 : Int32) (x2 : Int32) (x3 : Int32) (h : Hp) : Option (Int32 × Hp) :=
  Option.bind (f_X12_noTwo x1 x2 (b2i (f_X12_in x3 0 9 h)) h) fun r_1 =>
  if r_1.1 then
    some (0, r_1.2)
  else
    Option.bind (f_X12_remembers r_1.2) fun r_4 =>
    Option.bind (f_X12_partOf x1 x2 r_4) fun r_6 =>
    gd (ix (f_X12_partAt x1 x2 r_4) 2190) (
    bnd (up1 r_4 31 ((f_X12_partAt x1 x2 r_4).toNatClampNeg) x3) fun h_9 =>
    some (r_6, h_9))
/-! LeanCityModel.weds (II)V -/
noncomputable def f_X12_weds (x1 : Int32) (x2 : Int32) (h : Hp) : Option Hp :=
  Option.bind (f_X12_partOf x1 x2 h) fun r_1 =>
  gd (ix (f_X12_partAt x1 x2 h) 2190) (
  bnd (up1 h 31 ((f_X12_partAt x1 x2 h).toNatClampNeg) (imin 9 (r_1 + 1))) fun h_4 =>
  Option.bind (f_X12_partOf x2 x1 h_4) fun r_6 =>
  gd (ix (f_X12_partAt x2 x1 h_4) 2190) (
  bnd (up1 h_4 31 ((f_X12_partAt x2 x1 h_4).toNatClampNeg) (imin 9 (r_6 + 1))) fun h_9 =>
  some h_9))
/-! LeanCityModel.wed (II)I -/
noncomputable def f_X12_wed (x1 : Int32) (x2 : Int32) (h : Hp) : Option (Int32 × Hp) :=
  Option.bind (f_X12_noTwo x1 x2 1 h) fun r_1 =>
  if r_1.1 then
    some (0, r_1.2)
  else
    Option.bind (f_X12_remembers r_1.2) fun r_4 =>
    Option.bind (f_X12_weds x1 x2 r_4) fun r_6 =>
    Option.bind (f_X12_partOf x1 x2 r_6) fun r_8 =>
    some (r_8, r_6)
/-! LeanCityModel.trim (I)I -/
noncomputable def f_X12_trim (x1 : Int32) (h : Hp) : Option (Int32 × Hp) :=
  bnd (up1 h 30 0 0) fun h_1 =>
  Option.bind (f_X12_throwsIf (b2i (f_X12_noHouse x1 h_1)) 1 h_1) fun r_3 =>
  if r_3.1 then
    some (0, r_3.2)
  else
    Option.bind (f_X12_isFallen x1 r_3.2) fun r_6 =>
    Option.bind (f_X12_throwsIf (b2i r_6) 2 r_3.2) fun r_8 =>
    if r_8.1 then
      some (0, r_8.2)
    else
      Option.bind (f_X12_remembers r_8.2) fun r_11 =>
      Option.bind (f_X12_of x1 2 r_11) fun r_13 =>
      gd (ix (f_X12_at x1 2 r_11) 2190) (
      bnd (up1 r_11 31 ((f_X12_at x1 2 r_11).toNatClampNeg) 0) fun h_16 =>
      some (r_13, h_16))
/-! LeanCityModel.move (II)I -/
noncomputable def F_X12_move_27 (x1 : Int32) (x2 : Int32) (t0 : Int32) (h : Hp) : Option (Int32 × Hp) :=
  Option.bind (f_X12_throwsIf t0 1 h) fun r_1 =>
  if r_1.1 then
    some (0, r_1.2)
  else
    Option.bind (f_X12_isFallen x2 r_1.2) fun r_4 =>
    Option.bind (f_X12_throwsIf (b2i r_4) 2 r_1.2) fun r_6 =>
    if r_6.1 then
      some (0, r_6.2)
    else
      Option.bind (f_X12_remembers r_6.2) fun r_9 =>
      Option.bind (f_X12_ofPerson x1 0 r_9) fun r_11 =>
      gd (ix (f_X12_personAt x1 0 r_9) 2190) (
      bnd (up1 r_9 31 ((f_X12_personAt x1 0 r_9).toNatClampNeg) x2) fun h_14 =>
      some (r_11, h_14))
noncomputable def f_X12_move (x1 : Int32) (x2 : Int32) (h : Hp) : Option (Int32 × Hp) :=
  bnd (up1 h 30 0 0) fun h_1 =>
  if (f_X12_noPerson x1 h_1) then
    F_X12_move_27 x1 x2 1 h_1
  else
    if (f_X12_noHouse x2 h_1) then
      F_X12_move_27 x1 x2 1 h_1
    else
      F_X12_move_27 x1 x2 0 h_1
/-! LeanCityModel.come (IIZ)Z -/
noncomputable def F_X12_come_83 (x3 : Int32) (x4 : Int32) (t0 : Int32) (t1 : Int32) (t2 : Int32) (h : Hp) : Option (Bool × Hp) :=
  gd (ix t2 2190) (
  bnd (up1 h 31 t2.toNatClampNeg (t1 ||| t0)) fun h_2 =>
  if x4 = x3 then
    some (false, h_2)
  else
    some (true, h_2))
noncomputable def F_X12_come_26 (x1 : Int32) (x2 : Int32) (x3 : Int32) (t0 : Int32) (h : Hp) : Option (Bool × Hp) :=
  Option.bind (f_X12_throwsIf t0 1 h) fun r_1 =>
  if r_1.1 then
    some (false, r_1.2)
  else
    Option.bind (f_X12_remembers r_1.2) fun r_4 =>
    Option.bind (f_X12_ofPerson x1 2 r_4) fun r_6 =>
    bnd (b2i (f_X12_has r_6 x2 r_4)) fun x4_8 =>
    Option.bind (f_X12_ofPerson x1 2 r_4) fun r_10 =>
    if x3 = 0 then
      F_X12_come_83 x3 x4_8 0 (r_10 &&& ((shl 1 x2) ^^^ (-1))) (f_X12_personAt x1 2 r_4) r_4
    else
      F_X12_come_83 x3 x4_8 (shl 1 x2) (r_10 &&& ((shl 1 x2) ^^^ (-1))) (f_X12_personAt x1 2 r_4) r_4
noncomputable def f_X12_come (x1 : Int32) (x2 : Int32) (x3 : Int32) (h : Hp) : Option (Bool × Hp) :=
  bnd (up1 h 30 0 0) fun h_1 =>
  if (f_X12_noPerson x1 h_1) then
    F_X12_come_26 x1 x2 x3 1 h_1
  else
    if (f_X12_noEvening x2 h_1) then
      F_X12_come_26 x1 x2 x3 1 h_1
    else
      F_X12_come_26 x1 x2 x3 0 h_1
/-! LeanCityModel.raze (I)I -/
noncomputable def f_X12_raze (x1 : Int32) (h : Hp) : Option (Int32 × Hp) :=
  bnd (up1 h 30 0 0) fun h_1 =>
  Option.bind (f_X12_throwsIf (b2i (f_X12_noHouse x1 h_1)) 1 h_1) fun r_3 =>
  if r_3.1 then
    some (0, r_3.2)
  else
    Option.bind (f_X12_isFallen x1 r_3.2) fun r_6 =>
    Option.bind (f_X12_throwsIf (b2i r_6) 2 r_3.2) fun r_8 =>
    if r_8.1 then
      some (0, r_8.2)
    else
      Option.bind (f_X12_remembers r_8.2) fun r_11 =>
      Option.bind (f_X12_lays r_11) fun r_13 =>
      Option.bind (f_X12_bearsNow x1 r_13) fun r_15 =>
      Option.bind (f_X12_isGone x1 r_13) fun r_17 =>
      Option.bind (f_X12_tells x1 0 0 1 r_17) fun r_19 =>
      some (r_15, r_19)
/-! LeanCityModel.falls (I)I -/
noncomputable def f_X12_falls (x1 : Int32) (h : Hp) : Option (Int32 × Hp) :=
  bnd (up1 h 30 0 0) fun h_1 =>
  Option.bind (f_X12_throwsIf (b2i (f_X12_noEvening x1 h_1)) 1 h_1) fun r_3 =>
  if r_3.1 then
    some (0, r_3.2)
  else
    Option.bind (f_X12_fallsIn x1 r_3.2) fun r_6 =>
    some (r_6.1, r_6.2)
/-! LeanCityModel.rounds (I)I -/
noncomputable def f_X12_rounds (x1 : Int32) (h : Hp) : Option (Int32 × Hp) :=
  bnd (up1 h 30 0 0) fun h_1 =>
  Option.bind (f_X12_throwsIf (b2i (f_X12_noEvening x1 h_1)) 1 h_1) fun r_3 =>
  if r_3.1 then
    some (0, r_3.2)
  else
    Option.bind (f_X12_fallsIn x1 r_3.2) fun r_6 =>
    some (r_6.2 30 22, r_6.2)
/-! LeanCityModel.pullsOf (I)I -/
noncomputable def f_X12_pullsOf (x1 : Int32) (h : Hp) : Option (Int32 × Hp) :=
  Option.bind (f_X12_keepsAll h) fun r_1 =>
  Option.bind (f_X12_isGone x1 r_1) fun r_3 =>
  Option.bind (f_X12_wouldFall (r_3 31 4) r_3) fun r_5 =>
  some (1 + (f_J6_bitCount_0f7a4 r_5.1 r_5.2), r_5.2)
/-! LeanCityModel.pulls (I)I -/
noncomputable def f_X12_pulls (x1 : Int32) (h : Hp) : Option (Int32 × Hp) :=
  bnd (up1 h 30 0 0) fun h_1 =>
  Option.bind (f_X12_throwsIf (b2i (f_X12_noHouse x1 h_1)) 1 h_1) fun r_3 =>
  if r_3.1 then
    some (0, r_3.2)
  else
    Option.bind (f_X12_isFallen x1 r_3.2) fun r_6 =>
    Option.bind (f_X12_throwsIf (b2i r_6) 2 r_3.2) fun r_8 =>
    if r_8.1 then
      some (0, r_8.2)
    else
      Option.bind (f_X12_pullsOf x1 r_8.2) fun r_11 =>
      some (r_11.1, r_11.2)
/-! LeanCityModel.key ()I -/
noncomputable def F_X12_key_49 (q_11 : Int32 → Int32 → Int32 → Hp → Option (Int32 × Hp)) (x2 : Int32) (x3 : Int32) (x4 : Int32) (t0 : Int32) (h : Hp) : Option (Int32 × Hp) :=
  bnd (imax x2 x4) fun x2_1 =>
  q_11 t0 x2_1 (x3 + 1) h
noncomputable def F_X12_key_36 (q_11 : Int32 → Int32 → Int32 → Hp → Option (Int32 × Hp)) (x1 : Int32) (x2 : Int32) (x3 : Int32) (t0 : Int32) (h : Hp) : Option (Int32 × Hp) :=
  if x2 < t0 then
    F_X12_key_49 q_11 x2 x3 t0 x3 h
  else
    F_X12_key_49 q_11 x2 x3 t0 x1 h
noncomputable def S_X12_key_11 (q_11 : Int32 → Int32 → Int32 → Hp → Option (Int32 × Hp)) (x1 : Int32) (x2 : Int32) (x3 : Int32) (h : Hp) : Option (Int32 × Hp) :=
  if x3 < (f_X12_houses h) then
    Option.bind (f_X12_isFallen x3 h) fun r_2 =>
    if r_2 then
      F_X12_key_36 q_11 x1 x2 x3 0 h
    else
      Option.bind (f_X12_pullsOf x3 h) fun r_5 =>
      F_X12_key_36 q_11 x1 x2 x3 r_5.1 r_5.2
  else
    some (x1, h)
noncomputable def F_X12_key_11 (n : Nat) : Int32 → Int32 → Int32 → Hp → Option (Int32 × Hp) :=
  Nat.rec (motive := fun _ => Int32 → Int32 → Int32 → Hp → Option (Int32 × Hp)) (fun _ _ _ _ => none) (fun _ q => S_X12_key_11 q) n
noncomputable def f_X12_key (h : Hp) : Option (Int32 × Hp) :=
  bnd (up1 h 30 0 0) fun h_1 =>
  F_X12_key_11 FU (-1) 0 0 h_1
/-! LeanCityModel.spare ()I -/
noncomputable def F_X12_spare_57 (q_9 : Int32 → Int32 → Hp → Option (Int32 × Hp)) (x2 : Int32) (t0 : Int32) (t1 : Int32) (h : Hp) : Option (Int32 × Hp) :=
  bnd (t1 ||| t0) fun x1_1 =>
  q_9 x1_1 (x2 + 1) h
noncomputable def S_X12_spare_22 (q_9 : Int32 → Int32 → Hp → Option (Int32 × Hp)) (x1 : Int32) (x2 : Int32) (q_22 : Int32 → Int32 → Hp → Option (Int32 × Hp)) (x3 : Int32) (x4 : Int32) (h : Hp) : Option (Int32 × Hp) :=
  if x4 < 7 then
    Option.bind (f_X12_needsOf x2 x4 h) fun r_2 =>
    bnd (x3 ||| r_2.1) fun x3_4 =>
    q_22 x3_4 (x4 + 1) r_2.2
  else
    if x3 = 0 then
      F_X12_spare_57 q_9 x2 (shl 1 x2) x1 h
    else
      F_X12_spare_57 q_9 x2 0 x1 h
noncomputable def F_X12_spare_22 (q_9 : Int32 → Int32 → Hp → Option (Int32 × Hp)) (x1 : Int32) (x2 : Int32) (n : Nat) : Int32 → Int32 → Hp → Option (Int32 × Hp) :=
  Nat.rec (motive := fun _ => Int32 → Int32 → Hp → Option (Int32 × Hp)) (fun _ _ _ => none) (fun _ q => S_X12_spare_22 q_9 x1 x2 q) n
noncomputable def S_X12_spare_9 (q_9 : Int32 → Int32 → Hp → Option (Int32 × Hp)) (x1 : Int32) (x2 : Int32) (h : Hp) : Option (Int32 × Hp) :=
  if x2 < (f_X12_people h) then
    F_X12_spare_22 q_9 x1 x2 FU 0 0 h
  else
    some (x1, h)
noncomputable def F_X12_spare_9 (n : Nat) : Int32 → Int32 → Hp → Option (Int32 × Hp) :=
  Nat.rec (motive := fun _ => Int32 → Int32 → Hp → Option (Int32 × Hp)) (fun _ _ _ => none) (fun _ q => S_X12_spare_9 q) n
noncomputable def f_X12_spare (h : Hp) : Option (Int32 × Hp) :=
  bnd (up1 h 30 0 0) fun h_1 =>
  F_X12_spare_9 FU 0 0 h_1
/-! LeanCityModel.weakest ()I -/
noncomputable def F_X12_weakest_38 (q_11 : Int32 → Int32 → Int32 → Hp → Option (Int32 × Hp)) (x2 : Int32) (x3 : Int32) (x4 : Int32) (t0 : Int32) (h : Hp) : Option (Int32 × Hp) :=
  bnd (imax x2 x4) fun x2_1 =>
  q_11 t0 x2_1 (x3 + 1) h
noncomputable def S_X12_weakest_11 (q_11 : Int32 → Int32 → Int32 → Hp → Option (Int32 × Hp)) (x1 : Int32) (x2 : Int32) (x3 : Int32) (h : Hp) : Option (Int32 × Hp) :=
  if x3 < 7 then
    Option.bind (f_X12_fallsIn x3 h) fun r_2 =>
    bnd (f_J6_bitCount_0f7a4 r_2.1 r_2.2) fun x4_4 =>
    if x2 < x4_4 then
      F_X12_weakest_38 q_11 x2 x3 x4_4 x3 r_2.2
    else
      F_X12_weakest_38 q_11 x2 x3 x4_4 x1 r_2.2
  else
    some (x1, h)
noncomputable def F_X12_weakest_11 (n : Nat) : Int32 → Int32 → Int32 → Hp → Option (Int32 × Hp) :=
  Nat.rec (motive := fun _ => Int32 → Int32 → Int32 → Hp → Option (Int32 × Hp)) (fun _ _ _ _ => none) (fun _ q => S_X12_weakest_11 q) n
noncomputable def f_X12_weakest (h : Hp) : Option (Int32 × Hp) :=
  bnd (up1 h 30 0 0) fun h_1 =>
  F_X12_weakest_11 FU 0 (-1) 0 h_1
/-! LeanCityModel.standsPropped (II)Z -/
noncomputable def F_X12_standsPropped_18 (t0 : Int32) (h : Hp) : Option (Bool × Hp) :=
  bnd (up1 h 30 21 0) fun h_1 =>
  Option.bind (toB t0) fun b_3 =>
  some (b_3, h_1)
noncomputable def f_X12_standsPropped (x1 : Int32) (x2 : Int32) (h : Hp) : Option (Bool × Hp) :=
  bnd (up1 h 30 21 x1) fun h_1 =>
  Option.bind (f_X12_fallsIn x2 h_1) fun r_3 =>
  if r_3.1 = 0 then
    F_X12_standsPropped_18 1 r_3.2
  else
    F_X12_standsPropped_18 0 r_3.2
/-! LeanCityModel.props (I)I -/
noncomputable def F_X12_props_64 (q_29 : Int32 → Int32 → Hp → Option (Int32 × Hp)) (x1 : Int32) (x2 : Int32) (x3 : Int32) (x4 : Int32) (h : Hp) : Option (Int32 × Hp) :=
  Option.bind (f_X12_standsPropped x4 x1 h) fun r_1 =>
  if r_1.1 then
    q_29 x4 (x4 + 1) r_1.2
  else
    q_29 x3 (x4 + 1) r_1.2
noncomputable def S_X12_props_29 (x1 : Int32) (x2 : Int32) (q_29 : Int32 → Int32 → Hp → Option (Int32 × Hp)) (x3 : Int32) (x4 : Int32) (h : Hp) : Option (Int32 × Hp) :=
  if x2 < x4 then
    some (x3, h)
  else
    if (x4 &&& (x2 ^^^ (-1))) = 0 then
      if x3 = (-1) then
        F_X12_props_64 q_29 x1 x2 x3 x4 h
      else
        if (f_J6_bitCount_0f7a4 x4 h) < (f_J6_bitCount_0f7a4 x3 h) then
          F_X12_props_64 q_29 x1 x2 x3 x4 h
        else
          q_29 x3 (x4 + 1) h
    else
      q_29 x3 (x4 + 1) h
noncomputable def F_X12_props_29 (x1 : Int32) (x2 : Int32) (n : Nat) : Int32 → Int32 → Hp → Option (Int32 × Hp) :=
  Nat.rec (motive := fun _ => Int32 → Int32 → Hp → Option (Int32 × Hp)) (fun _ _ _ => none) (fun _ q => S_X12_props_29 x1 x2 q) n
noncomputable def f_X12_props (x1 : Int32) (h : Hp) : Option (Int32 × Hp) :=
  bnd (up1 h 30 0 0) fun h_1 =>
  Option.bind (f_X12_throwsIf (b2i (f_X12_noEvening x1 h_1)) 1 h_1) fun r_3 =>
  if r_3.1 then
    some (0, r_3.2)
  else
    Option.bind (f_X12_standing r_3.2) fun r_6 =>
    F_X12_props_29 x1 r_6 FU (-1) 0 r_3.2
/-! LeanCityModel.isOrder ()Z -/
noncomputable def F_X12_isOrder_92 (q_18 : Int32 → Int32 → Int32 → Option Bool) (h : Hp) (x1 : Int32) (x3 : Int32) (t0 : Int32) (t1 : Int32) : Option Bool :=
  bnd (t1 ||| t0) fun x2_1 =>
  q_18 x1 x2_1 (x3 + 1)
noncomputable def F_X12_isOrder_74 (q_18 : Int32 → Int32 → Int32 → Option Bool) (h : Hp) (x2 : Int32) (x3 : Int32) (t0 : Int32) : Option Bool :=
  if t0 = 0 then
    F_X12_isOrder_92 q_18 h t0 x3 0 x2
  else
    gd (ix x3 400) (
    F_X12_isOrder_92 q_18 h t0 x3 (shl 1 (h 38 x3.toNatClampNeg)) x2)
noncomputable def S_X12_isOrder_18 (h : Hp) (q_18 : Int32 → Int32 → Int32 → Option Bool) (x1 : Int32) (x2 : Int32) (x3 : Int32) : Option Bool :=
  if x3 < (h 30 13) then
    if x1 = 0 then
      Option.bind (toB x1) fun b_3 =>
      some b_3
    else
      gd (ix x3 400) (
      if (f_X12_noHouse (h 38 x3.toNatClampNeg) h) then
        F_X12_isOrder_74 q_18 h x2 x3 0
      else
        gd (ix x3 400) (
        Option.bind (f_X12_isFallen (h 38 x3.toNatClampNeg) h) fun r_8 =>
        if r_8 then
          F_X12_isOrder_74 q_18 h x2 x3 0
        else
          gd (ix x3 400) (
          if (f_X12_has x2 (h 38 x3.toNatClampNeg) h) then
            F_X12_isOrder_74 q_18 h x2 x3 0
          else
            F_X12_isOrder_74 q_18 h x2 x3 1)))
  else
    Option.bind (toB x1) fun b_13 =>
    some b_13
noncomputable def F_X12_isOrder_18 (h : Hp) (n : Nat) : Int32 → Int32 → Int32 → Option Bool :=
  Nat.rec (motive := fun _ => Int32 → Int32 → Int32 → Option Bool) (fun _ _ _ => none) (fun _ q => S_X12_isOrder_18 h q) n
noncomputable def F_X12_isOrder_13 (h : Hp) (t0 : Int32) : Option Bool :=
  F_X12_isOrder_18 h FU t0 0 0
noncomputable def f_X12_isOrder (h : Hp) : Option Bool :=
  if 5 < (h 30 13) then
    F_X12_isOrder_13 h 0
  else
    F_X12_isOrder_13 h 1
/-! LeanCityModel.stepsOfRow ()I -/
noncomputable def S_X12_stepsOfRow_8 (q_8 : Int32 → Int32 → Hp → Option (Int32 × Hp)) (x1 : Int32) (x2 : Int32) (h : Hp) : Option (Int32 × Hp) :=
  if x2 < (h 30 13) then
    gd (ix x2 5) (
    Option.bind (f_X12_isFallen (h 41 x2.toNatClampNeg) h) fun r_3 =>
    if r_3 then
      q_8 x1 (x2 + 1) h
    else
      gd (ix x2 5) (
      Option.bind (f_X12_isGone (h 41 x2.toNatClampNeg) h) fun r_7 =>
      Option.bind (f_X12_allFall (r_7 31 4) r_7) fun r_9 =>
      bnd (x1 + (x2 * (1 + (f_J6_bitCount_0f7a4 r_9.1 r_9.2)))) fun x1_11 =>
      q_8 x1_11 (x2 + 1) r_9.2))
  else
    Option.bind (f_X12_bringsBack h) fun r_13 =>
    some (x1, r_13)
noncomputable def F_X12_stepsOfRow_8 (n : Nat) : Int32 → Int32 → Hp → Option (Int32 × Hp) :=
  Nat.rec (motive := fun _ => Int32 → Int32 → Hp → Option (Int32 × Hp)) (fun _ _ _ => none) (fun _ q => S_X12_stepsOfRow_8 q) n
noncomputable def f_X12_stepsOfRow (h : Hp) : Option (Int32 × Hp) :=
  Option.bind (f_X12_keepsAll h) fun r_1 =>
  F_X12_stepsOfRow_8 FU 0 0 r_1
/-! LeanCityModel.laysRow (I)Z -/
noncomputable def S_X12_laysRow_56 (x3 : Int32) (q_56 : Int32 → Int32 → Hp → Option (Bool × Hp)) (x4 : Int32) (x5 : Int32) (h : Hp) : Option (Bool × Hp) :=
  if x5 < (h 30 13) then
    gd (ix x5 400) (
    bnd (x4 ||| (shl 1 (h 38 x5.toNatClampNeg))) fun x4_3 =>
    q_56 x4_3 (x5 + 1) h)
  else
    if x3 = x4 then
      some (true, h)
    else
      some (false, h)
noncomputable def F_X12_laysRow_56 (x3 : Int32) (n : Nat) : Int32 → Int32 → Hp → Option (Bool × Hp) :=
  Nat.rec (motive := fun _ => Int32 → Int32 → Hp → Option (Bool × Hp)) (fun _ _ _ => none) (fun _ q => S_X12_laysRow_56 x3 q) n
noncomputable def S_X12_laysRow_12 (q_12 : Int32 → Int32 → Int32 → Hp → Option (Bool × Hp)) (x2 : Int32) (x3 : Int32) (x4 : Int32) (h : Hp) : Option (Bool × Hp) :=
  if x4 < 0 then
    F_X12_laysRow_56 x3 FU 0 0 h
  else
    gd (ix x4 5) (
    bnd (up1 h 41 x4.toNatClampNeg (rem x2 8)) fun h_3 =>
    bnd (x3 ||| (shl 1 (rem x2 8))) fun x3_5 =>
    q_12 (x2 / 8) x3_5 (x4 + (-1)) h_3)
noncomputable def F_X12_laysRow_12 (n : Nat) : Int32 → Int32 → Int32 → Hp → Option (Bool × Hp) :=
  Nat.rec (motive := fun _ => Int32 → Int32 → Int32 → Hp → Option (Bool × Hp)) (fun _ _ _ _ => none) (fun _ q => S_X12_laysRow_12 q) n
noncomputable def f_X12_laysRow (x1 : Int32) (h : Hp) : Option (Bool × Hp) :=
  bnd ((h 30 13) - 1) fun x4_1 =>
  F_X12_laysRow_12 FU x1 0 x4_1 h
/-! LeanCityModel.bestOrder ()I -/
noncomputable def F_X12_bestOrder_87 (q_27 : Int32 → Int32 → Hp → Option (Int32 × Hp)) (x1 : Int32) (x2 : Int32) (x3 : Int32) (x4 : Int32) (h : Hp) : Option (Int32 × Hp) :=
  bnd (imax x2 x4) fun x2_1 =>
  q_27 x2_1 (x3 + 1) h
noncomputable def S_X12_bestOrder_52 (q_27 : Int32 → Int32 → Hp → Option (Int32 × Hp)) (x1 : Int32) (x2 : Int32) (x3 : Int32) (x4 : Int32) (q_52 : Int32 → Hp → Option (Int32 × Hp)) (x5 : Int32) (h : Hp) : Option (Int32 × Hp) :=
  if x5 < (h 30 13) then
    if x2 < x4 then
      gd (ix x5 5) (
      gd (ix x5 5) (
      bnd (up1 h 42 x5.toNatClampNeg (h 41 x5.toNatClampNeg)) fun h_5 =>
      q_52 (x5 + 1) h_5))
    else
      F_X12_bestOrder_87 q_27 x1 x2 x3 x4 h
  else
    F_X12_bestOrder_87 q_27 x1 x2 x3 x4 h
noncomputable def F_X12_bestOrder_52 (q_27 : Int32 → Int32 → Hp → Option (Int32 × Hp)) (x1 : Int32) (x2 : Int32) (x3 : Int32) (x4 : Int32) (n : Nat) : Int32 → Hp → Option (Int32 × Hp) :=
  Nat.rec (motive := fun _ => Int32 → Hp → Option (Int32 × Hp)) (fun _ _ => none) (fun _ q => S_X12_bestOrder_52 q_27 x1 x2 x3 x4 q) n
noncomputable def S_X12_bestOrder_27 (x1 : Int32) (q_27 : Int32 → Int32 → Hp → Option (Int32 × Hp)) (x2 : Int32) (x3 : Int32) (h : Hp) : Option (Int32 × Hp) :=
  if x3 < x1 then
    Option.bind (f_X12_laysRow x3 h) fun r_2 =>
    if r_2.1 then
      Option.bind (f_X12_stepsOfRow r_2.2) fun r_5 =>
      F_X12_bestOrder_52 q_27 x1 x2 x3 r_5.1 FU 0 r_5.2
    else
      q_27 x2 (x3 + 1) r_2.2
  else
    some (x2, h)
noncomputable def F_X12_bestOrder_27 (x1 : Int32) (n : Nat) : Int32 → Int32 → Hp → Option (Int32 × Hp) :=
  Nat.rec (motive := fun _ => Int32 → Int32 → Hp → Option (Int32 × Hp)) (fun _ _ _ => none) (fun _ q => S_X12_bestOrder_27 x1 q) n
noncomputable def S_X12_bestOrder_6 (x2 : Int32) (q_6 : Int32 → Int32 → Hp → Option (Int32 × Hp)) (x1 : Int32) (x3 : Int32) (h : Hp) : Option (Int32 × Hp) :=
  if x3 < (h 30 13) then
    q_6 (x1 * 8) (x3 + 1) h
  else
    F_X12_bestOrder_27 x1 FU x2 0 h
noncomputable def F_X12_bestOrder_6 (x2 : Int32) (n : Nat) : Int32 → Int32 → Hp → Option (Int32 × Hp) :=
  Nat.rec (motive := fun _ => Int32 → Int32 → Hp → Option (Int32 × Hp)) (fun _ _ _ => none) (fun _ q => S_X12_bestOrder_6 x2 q) n
noncomputable def f_X12_bestOrder (h : Hp) : Option (Int32 × Hp) :=
  F_X12_bestOrder_6 (-1) FU 1 0 h
/-! LeanCityModel.order (I)I -/
noncomputable def F_X12_order_17 (x1 : Int32) (t0 : Int32) (h : Hp) : Option (Int32 × Hp) :=
  Option.bind (f_X12_throwsIf t0 1 h) fun r_1 =>
  if r_1.1 then
    some (0, r_1.2)
  else
    Option.bind (f_X12_bestOrder r_1.2) fun r_4 =>
    if (f_X12_in x1 0 ((r_4.2 30 13) - 1) r_4.2) then
      gd (ix x1 5) (
      some (r_4.2 42 x1.toNatClampNeg, r_4.2))
    else
      some ((-1), r_4.2)
noncomputable def f_X12_order (x1 : Int32) (h : Hp) : Option (Int32 × Hp) :=
  Option.bind (f_X12_uses h) fun r_1 =>
  Option.bind (f_X12_isOrder r_1) fun r_3 =>
  if r_3 then
    F_X12_order_17 x1 0 r_1
  else
    F_X12_order_17 x1 1 r_1
/-! LeanCityModel.means ()I -/
noncomputable def F_X12_means_17 (t0 : Int32) (h : Hp) : Option (Int32 × Hp) :=
  Option.bind (f_X12_throwsIf t0 1 h) fun r_1 =>
  if r_1.1 then
    some (0, r_1.2)
  else
    Option.bind (f_X12_bestOrder r_1.2) fun r_4 =>
    some (r_4.1, r_4.2)
noncomputable def f_X12_means (h : Hp) : Option (Int32 × Hp) :=
  Option.bind (f_X12_uses h) fun r_1 =>
  Option.bind (f_X12_isOrder r_1) fun r_3 =>
  if r_3 then
    F_X12_means_17 0 r_1
  else
    F_X12_means_17 1 r_1
/-! LeanCityModel.isFelt ()Z -/
noncomputable def S_X12_isFelt_26 (h : Hp) (q_26 : Int32 → Int32 → Option Bool) (x1 : Int32) (x2 : Int32) : Option Bool :=
  if x2 < (h 30 13) then
    if x1 = 0 then
      Option.bind (toB x1) fun b_3 =>
      some b_3
    else
      gd (ix x2 400) (
      if (f_X12_noHouse (h 38 x2.toNatClampNeg) h) then
        q_26 0 (x2 + 2)
      else
        q_26 1 (x2 + 2))
  else
    Option.bind (toB x1) fun b_7 =>
    some b_7
noncomputable def F_X12_isFelt_26 (h : Hp) (n : Nat) : Int32 → Int32 → Option Bool :=
  Nat.rec (motive := fun _ => Int32 → Int32 → Option Bool) (fun _ _ => none) (fun _ q => S_X12_isFelt_26 h q) n
noncomputable def f_X12_isFelt (h : Hp) : Option Bool :=
  if (rem (h 30 13) 2) = 0 then
    if 40 < (h 30 13) then
      F_X12_isFelt_26 h FU 0 0
    else
      F_X12_isFelt_26 h FU 1 0
  else
    F_X12_isFelt_26 h FU 0 0
/-! LeanCityModel.laysBroken ()V -/
noncomputable def S_X12_laysBroken_99 (q_2 : Int32 → Hp → Option Hp) (x1 : Int32) (q_99 : Int32 → Hp → Option Hp) (x3 : Int32) (h : Hp) : Option Hp :=
  if x3 < 8 then
    gd (ix x3 8) (
    gd (ix ((8 * x1) + x3) 520) (
    bnd (up1 h 44 (((8 * x1) + x3).toNatClampNeg) (h 36 x3.toNatClampNeg)) fun h_4 =>
    q_99 (x3 + 1) h_4))
  else
    q_2 (x1 + 1) h
noncomputable def F_X12_laysBroken_99 (q_2 : Int32 → Hp → Option Hp) (x1 : Int32) (n : Nat) : Int32 → Hp → Option Hp :=
  Nat.rec (motive := fun _ => Int32 → Hp → Option Hp) (fun _ _ => none) (fun _ q => S_X12_laysBroken_99 q_2 x1 q) n
noncomputable def F_X12_laysBroken_77 (q_2 : Int32 → Hp → Option Hp) (x1 : Int32) (x2 : Int32) (h : Hp) : Option Hp :=
  Option.bind (f_X12_lays h) fun r_1 =>
  if x1 < 64 then
    gd (ix (10 + x1) 2190) (
    bnd (up1 r_1 31 ((10 + x1).toNatClampNeg) x2) fun h_5 =>
    F_X12_laysBroken_99 q_2 x1 FU 0 h_5)
  else
    F_X12_laysBroken_99 q_2 x1 FU 0 r_1
noncomputable def F_X12_laysBroken_48 (q_2 : Int32 → Hp → Option Hp) (x1 : Int32) (x2 : Int32) (t0 : Int32) (t1 : Int32) (h : Hp) : Option Hp :=
  gd (ix t1 65) (
  bnd (up1 h 43 t1.toNatClampNeg (vp_nar .boolean t0)) fun h_2 =>
  gd (ix x1 65) (
  if (h_2 43 x1.toNatClampNeg) = 0 then
    q_2 (x1 + 1) h_2
  else
    if x1 < 64 then
      gd (ix (10 + x1) 2190) (
      bnd (up1 h_2 31 ((10 + x1).toNatClampNeg) 0) fun h_8 =>
      F_X12_laysBroken_77 q_2 x1 x2 h_8)
    else
      F_X12_laysBroken_77 q_2 x1 x2 h_2))
noncomputable def F_X12_laysBroken_27 (q_2 : Int32 → Hp → Option Hp) (x1 : Int32) (t0 : Int32) (h : Hp) : Option Hp :=
  if x1 = 64 then
    F_X12_laysBroken_48 q_2 x1 t0 1 x1 h
  else
    if 0 < t0 then
      F_X12_laysBroken_48 q_2 x1 t0 1 x1 h
    else
      F_X12_laysBroken_48 q_2 x1 t0 0 x1 h
noncomputable def S_X12_laysBroken_2 (q_2 : Int32 → Hp → Option Hp) (x1 : Int32) (h : Hp) : Option Hp :=
  if 64 < x1 then
    some h
  else
    if x1 = 64 then
      F_X12_laysBroken_27 q_2 x1 0 h
    else
      gd (ix (10 + x1) 2190) (
      F_X12_laysBroken_27 q_2 x1 (h 31 ((10 + x1).toNatClampNeg)) h)
noncomputable def F_X12_laysBroken_2 (n : Nat) : Int32 → Hp → Option Hp :=
  Nat.rec (motive := fun _ => Int32 → Hp → Option Hp) (fun _ _ => none) (fun _ q => S_X12_laysBroken_2 q) n
noncomputable def f_X12_laysBroken (h : Hp) : Option Hp :=
  F_X12_laysBroken_2 FU 0 h
/-! LeanCityModel.fits (I)Z -/
noncomputable def S_X12_fits_9 (h : Hp) (x1 : Int32) (q_9 : Int32 → Int32 → Option Bool) (x2 : Int32) (x3 : Int32) : Option Bool :=
  if x3 < (h 30 13) then
    if x2 = 0 then
      q_9 0 (x3 + 2)
    else
      gd (ix x3 400) (
      gd (ix ((8 * x1) + (h 38 x3.toNatClampNeg)) 520) (
      gd (ix (x3 + 1) 400) (
      if 1 < (iabs ((h 44 (((8 * x1) + (h 38 x3.toNatClampNeg)).toNatClampNeg)) - ((h 38 ((x3 + 1).toNatClampNeg)) &&& 255))) then
        q_9 0 (x3 + 2)
      else
        q_9 1 (x3 + 2))))
  else
    Option.bind (toB x2) fun b_7 =>
    some b_7
noncomputable def F_X12_fits_9 (h : Hp) (x1 : Int32) (n : Nat) : Int32 → Int32 → Option Bool :=
  Nat.rec (motive := fun _ => Int32 → Int32 → Option Bool) (fun _ _ => none) (fun _ q => S_X12_fits_9 h x1 q) n
noncomputable def f_X12_fits (x1 : Int32) (h : Hp) : Option Bool :=
  gd (ix x1 65) (
  bnd (h 43 x1.toNatClampNeg) fun x2_2 =>
  F_X12_fits_9 h x1 FU x2_2 0)
/-! LeanCityModel.broken (Z)I -/
noncomputable def S_X12_broken_38 (x1 : Int32) (q_38 : Int32 → Int32 → Int32 → Hp → Option (Int32 × Hp)) (x2 : Int32) (x3 : Int32) (x4 : Int32) (h : Hp) : Option (Int32 × Hp) :=
  if x4 < 0 then
    if x1 = 0 then
      some (x2, h)
    else
      some (x3, h)
  else
    Option.bind (f_X12_fits x4 h) fun r_3 =>
    if r_3 then
      q_38 (x2 + 1) x4 (x4 + (-1)) h
    else
      q_38 x2 x3 (x4 + (-1)) h
noncomputable def F_X12_broken_38 (x1 : Int32) (n : Nat) : Int32 → Int32 → Int32 → Hp → Option (Int32 × Hp) :=
  Nat.rec (motive := fun _ => Int32 → Int32 → Int32 → Hp → Option (Int32 × Hp)) (fun _ _ _ _ => none) (fun _ q => S_X12_broken_38 x1 q) n
noncomputable def F_X12_broken_17 (x1 : Int32) (t0 : Int32) (h : Hp) : Option (Int32 × Hp) :=
  Option.bind (f_X12_throwsIf t0 1 h) fun r_1 =>
  if r_1.1 then
    some (0, r_1.2)
  else
    Option.bind (f_X12_laysBroken r_1.2) fun r_4 =>
    F_X12_broken_38 x1 FU 0 (-1) 64 r_4
noncomputable def f_X12_broken (x1 : Int32) (h : Hp) : Option (Int32 × Hp) :=
  Option.bind (f_X12_uses h) fun r_1 =>
  Option.bind (f_X12_isFelt r_1) fun r_3 =>
  if r_3 then
    F_X12_broken_17 x1 0 r_1
  else
    F_X12_broken_17 x1 1 r_1
/-! LeanCityModel.partBy (I)I -/
noncomputable def F_X12_partBy_76 (q_4 : Int32 → Int32 → Option Int32) (q_27 : Int32 → Int32 → Option Int32) (h : Hp) (x1 : Int32) (x2 : Int32) (x3 : Int32) (x5 : Int32) (t0 : Int32) (t1 : Int32) : Option Int32 :=
  q_27 (t1 + t0) (x5 + 1)
noncomputable def S_X12_partBy_27 (q_4 : Int32 → Int32 → Option Int32) (h : Hp) (x1 : Int32) (x2 : Int32) (x3 : Int32) (q_27 : Int32 → Int32 → Option Int32) (x4 : Int32) (x5 : Int32) : Option Int32 :=
  if 64 < x5 then
    bnd (imax x2 x4) fun x2_2 =>
    q_4 x2_2 (x3 + 1)
  else
    Option.bind (f_X12_fits x5 h) fun r_4 =>
    if r_4 then
      gd (ix ((8 * x3) + x1) 520) (
      gd (ix ((8 * x5) + x1) 520) (
      if (h 44 (((8 * x3) + x1).toNatClampNeg)) = (h 44 (((8 * x5) + x1).toNatClampNeg)) then
        F_X12_partBy_76 q_4 q_27 h x1 x2 x3 x5 1 x4
      else
        F_X12_partBy_76 q_4 q_27 h x1 x2 x3 x5 0 x4))
    else
      F_X12_partBy_76 q_4 q_27 h x1 x2 x3 x5 0 x4
noncomputable def F_X12_partBy_27 (q_4 : Int32 → Int32 → Option Int32) (h : Hp) (x1 : Int32) (x2 : Int32) (x3 : Int32) (n : Nat) : Int32 → Int32 → Option Int32 :=
  Nat.rec (motive := fun _ => Int32 → Int32 → Option Int32) (fun _ _ => none) (fun _ q => S_X12_partBy_27 q_4 h x1 x2 x3 q) n
noncomputable def S_X12_partBy_4 (h : Hp) (x1 : Int32) (q_4 : Int32 → Int32 → Option Int32) (x2 : Int32) (x3 : Int32) : Option Int32 :=
  if 64 < x3 then
    some x2
  else
    Option.bind (f_X12_fits x3 h) fun r_2 =>
    if r_2 then
      F_X12_partBy_27 q_4 h x1 x2 x3 FU 0 0
    else
      q_4 x2 (x3 + 1)
noncomputable def F_X12_partBy_4 (h : Hp) (x1 : Int32) (n : Nat) : Int32 → Int32 → Option Int32 :=
  Nat.rec (motive := fun _ => Int32 → Int32 → Option Int32) (fun _ _ => none) (fun _ q => S_X12_partBy_4 h x1 q) n
noncomputable def f_X12_partBy (x1 : Int32) (h : Hp) : Option Int32 :=
  F_X12_partBy_4 h x1 FU 0 0
/-! LeanCityModel.tap ()I -/
noncomputable def F_X12_tap_54 (q_34 : Int32 → Int32 → Hp → Option (Int32 × Hp)) (x2 : Int32) (t0 : Int32) (t1 : Int32) (h : Hp) : Option (Int32 × Hp) :=
  q_34 (t1 + t0) (x2 + 1) h
noncomputable def F_X12_tap_120 (q_71 : Int32 → Int32 → Int32 → Hp → Option (Int32 × Hp)) (x1 : Int32) (x3 : Int32) (x4 : Int32) (x5 : Int32) (t0 : Int32) (h : Hp) : Option (Int32 × Hp) :=
  bnd (imin x3 x5) fun x3_1 =>
  q_71 t0 x3_1 (x4 + 1) h
noncomputable def F_X12_tap_106 (q_71 : Int32 → Int32 → Int32 → Hp → Option (Int32 × Hp)) (x1 : Int32) (x2 : Int32) (x3 : Int32) (x4 : Int32) (t0 : Int32) (h : Hp) : Option (Int32 × Hp) :=
  if t0 < x3 then
    F_X12_tap_120 q_71 x1 x3 x4 t0 x4 h
  else
    F_X12_tap_120 q_71 x1 x3 x4 t0 x2 h
noncomputable def S_X12_tap_71 (x1 : Int32) (q_71 : Int32 → Int32 → Int32 → Hp → Option (Int32 × Hp)) (x2 : Int32) (x3 : Int32) (x4 : Int32) (h : Hp) : Option (Int32 × Hp) :=
  if x4 < (f_X12_houses h) then
    if 1 < x1 then
      Option.bind (f_X12_isFallen x4 h) fun r_3 =>
      if r_3 then
        F_X12_tap_106 q_71 x1 x2 x3 x4 1000000 h
      else
        Option.bind (f_X12_partBy x4 h) fun r_6 =>
        F_X12_tap_106 q_71 x1 x2 x3 x4 r_6 h
    else
      some (x2, h)
  else
    some (x2, h)
noncomputable def F_X12_tap_71 (x1 : Int32) (n : Nat) : Int32 → Int32 → Int32 → Hp → Option (Int32 × Hp) :=
  Nat.rec (motive := fun _ => Int32 → Int32 → Int32 → Hp → Option (Int32 × Hp)) (fun _ _ _ _ => none) (fun _ q => S_X12_tap_71 x1 q) n
noncomputable def S_X12_tap_34 (q_34 : Int32 → Int32 → Hp → Option (Int32 × Hp)) (x1 : Int32) (x2 : Int32) (h : Hp) : Option (Int32 × Hp) :=
  if 64 < x2 then
    F_X12_tap_71 x1 FU (-1) 1000000 0 h
  else
    Option.bind (f_X12_fits x2 h) fun r_2 =>
    if r_2 then
      F_X12_tap_54 q_34 x2 1 x1 h
    else
      F_X12_tap_54 q_34 x2 0 x1 h
noncomputable def F_X12_tap_34 (n : Nat) : Int32 → Int32 → Hp → Option (Int32 × Hp) :=
  Nat.rec (motive := fun _ => Int32 → Int32 → Hp → Option (Int32 × Hp)) (fun _ _ _ => none) (fun _ q => S_X12_tap_34 q) n
noncomputable def F_X12_tap_17 (t0 : Int32) (h : Hp) : Option (Int32 × Hp) :=
  Option.bind (f_X12_throwsIf t0 1 h) fun r_1 =>
  if r_1.1 then
    some (0, r_1.2)
  else
    Option.bind (f_X12_laysBroken r_1.2) fun r_4 =>
    F_X12_tap_34 FU 0 0 r_4
noncomputable def f_X12_tap (h : Hp) : Option (Int32 × Hp) :=
  Option.bind (f_X12_uses h) fun r_1 =>
  Option.bind (f_X12_isFelt r_1) fun r_3 =>
  if r_3 then
    F_X12_tap_17 0 r_1
  else
    F_X12_tap_17 1 r_1
/-! LeanCityModel.mostSags ()I -/
noncomputable def S_X12_mostSags_10 (q_10 : Int32 → Int32 → Hp → Option (Int32 × Hp)) (x1 : Int32) (x2 : Int32) (h : Hp) : Option (Int32 × Hp) :=
  if x2 < (f_X12_houses h) then
    Option.bind (f_X12_isFallen x2 h) fun r_2 =>
    if r_2 then
      q_10 x1 (x2 + 1) h
    else
      Option.bind (f_X12_sagsNow x2 h) fun r_5 =>
      bnd (imax x1 r_5.1) fun x1_7 =>
      q_10 x1_7 (x2 + 1) r_5.2
  else
    if x1 = (-1000000) then
      some (0, h)
    else
      some (x1, h)
noncomputable def F_X12_mostSags_10 (n : Nat) : Int32 → Int32 → Hp → Option (Int32 × Hp) :=
  Nat.rec (motive := fun _ => Int32 → Int32 → Hp → Option (Int32 × Hp)) (fun _ _ _ => none) (fun _ q => S_X12_mostSags_10 q) n
noncomputable def f_X12_mostSags (h : Hp) : Option (Int32 × Hp) :=
  Option.bind (f_X12_laysNow h) fun r_1 =>
  F_X12_mostSags_10 FU (-1000000) 0 r_1
/-! LeanCityModel.sagging ()I -/
noncomputable def f_X12_sagging (h : Hp) : Option (Int32 × Hp) :=
  bnd (up1 h 30 0 0) fun h_1 =>
  Option.bind (f_X12_mostSags h_1) fun r_3 =>
  some (r_3.1, r_3.2)
/-! LeanCityModel.eases ()I -/
noncomputable def F_X12_eases_94 (q_14 : Int32 → Int32 → Int32 → Hp → Option (Int32 × Hp)) (q_27 : Int32 → Int32 → Int32 → Hp → Option (Int32 × Hp)) (x2 : Int32) (x3 : Int32) (x4 : Int32) (x5 : Int32) (t0 : Int32) (h : Hp) : Option (Int32 × Hp) :=
  bnd (imin x2 x5) fun x2_1 =>
  q_27 t0 x2_1 (x4 + 1) h
noncomputable def S_X12_eases_27 (q_14 : Int32 → Int32 → Int32 → Hp → Option (Int32 × Hp)) (x3 : Int32) (q_27 : Int32 → Int32 → Int32 → Hp → Option (Int32 × Hp)) (x1 : Int32) (x2 : Int32) (x4 : Int32) (h : Hp) : Option (Int32 × Hp) :=
  if x4 < (f_X12_houses h) then
    Option.bind (f_X12_isFallen x3 h) fun r_2 =>
    if r_2 then
      q_27 x1 x2 (x4 + 1) h
    else
      Option.bind (f_X12_isFallen x4 h) fun r_5 =>
      if r_5 then
        q_27 x1 x2 (x4 + 1) h
      else
        Option.bind (f_X12_keepsAll h) fun r_8 =>
        Option.bind (f_X12_weds x3 x4 r_8) fun r_10 =>
        Option.bind (f_X12_mostSags r_10) fun r_12 =>
        Option.bind (f_X12_bringsBack r_12.2) fun r_14 =>
        if r_12.1 < x2 then
          F_X12_eases_94 q_14 q_27 x2 x3 x4 r_12.1 ((8 * x3) + x4) r_14
        else
          F_X12_eases_94 q_14 q_27 x2 x3 x4 r_12.1 x1 r_14
  else
    q_14 x1 x2 (x3 + 1) h
noncomputable def F_X12_eases_27 (q_14 : Int32 → Int32 → Int32 → Hp → Option (Int32 × Hp)) (x3 : Int32) (n : Nat) : Int32 → Int32 → Int32 → Hp → Option (Int32 × Hp) :=
  Nat.rec (motive := fun _ => Int32 → Int32 → Int32 → Hp → Option (Int32 × Hp)) (fun _ _ _ _ => none) (fun _ q => S_X12_eases_27 q_14 x3 q) n
noncomputable def S_X12_eases_14 (q_14 : Int32 → Int32 → Int32 → Hp → Option (Int32 × Hp)) (x1 : Int32) (x2 : Int32) (x3 : Int32) (h : Hp) : Option (Int32 × Hp) :=
  if x3 < (f_X12_houses h) then
    F_X12_eases_27 q_14 x3 FU x1 x2 (x3 + 1) h
  else
    some (x1, h)
noncomputable def F_X12_eases_14 (n : Nat) : Int32 → Int32 → Int32 → Hp → Option (Int32 × Hp) :=
  Nat.rec (motive := fun _ => Int32 → Int32 → Int32 → Hp → Option (Int32 × Hp)) (fun _ _ _ _ => none) (fun _ q => S_X12_eases_14 q) n
noncomputable def f_X12_eases (h : Hp) : Option (Int32 × Hp) :=
  bnd (up1 h 30 0 0) fun h_1 =>
  Option.bind (f_X12_mostSags h_1) fun r_3 =>
  F_X12_eases_14 FU (-1) r_3.1 0 r_3.2
/-! LeanCityModel.onWhom (I)I -/
noncomputable def F_X12_onWhom_51 (q_4 : Int32 → Int32 → Option Int32) (q_15 : Int32 → Int32 → Option Int32) (h : Hp) (x1 : Int32) (x3 : Int32) (x4 : Int32) (t0 : Int32) (t1 : Int32) : Option Int32 :=
  bnd (t1 ||| t0) fun x2_1 =>
  q_15 x2_1 (x4 + 1)
noncomputable def S_X12_onWhom_15 (q_4 : Int32 → Int32 → Option Int32) (h : Hp) (x1 : Int32) (x3 : Int32) (q_15 : Int32 → Int32 → Option Int32) (x2 : Int32) (x4 : Int32) : Option Int32 :=
  if x4 < (f_X12_houses h) then
    if (f_X12_has x1 x3 h) then
      Option.bind (f_X12_partOf x3 x4 h) fun r_3 =>
      if 0 < r_3 then
        F_X12_onWhom_51 q_4 q_15 h x1 x3 x4 (shl 1 x4) x2
      else
        F_X12_onWhom_51 q_4 q_15 h x1 x3 x4 0 x2
    else
      F_X12_onWhom_51 q_4 q_15 h x1 x3 x4 0 x2
  else
    q_4 x2 (x3 + 1)
noncomputable def F_X12_onWhom_15 (q_4 : Int32 → Int32 → Option Int32) (h : Hp) (x1 : Int32) (x3 : Int32) (n : Nat) : Int32 → Int32 → Option Int32 :=
  Nat.rec (motive := fun _ => Int32 → Int32 → Option Int32) (fun _ _ => none) (fun _ q => S_X12_onWhom_15 q_4 h x1 x3 q) n
noncomputable def S_X12_onWhom_4 (h : Hp) (x1 : Int32) (q_4 : Int32 → Int32 → Option Int32) (x2 : Int32) (x3 : Int32) : Option Int32 :=
  if x3 < (f_X12_houses h) then
    F_X12_onWhom_15 q_4 h x1 x3 FU x2 0
  else
    some x2
noncomputable def F_X12_onWhom_4 (h : Hp) (x1 : Int32) (n : Nat) : Int32 → Int32 → Option Int32 :=
  Nat.rec (motive := fun _ => Int32 → Int32 → Option Int32) (fun _ _ => none) (fun _ q => S_X12_onWhom_4 h x1 q) n
noncomputable def f_X12_onWhom (x1 : Int32) (h : Hp) : Option Int32 :=
  F_X12_onWhom_4 h x1 FU 0 0
/-! LeanCityModel.heldBy (I)I -/
noncomputable def S_X12_heldBy_10 (h : Hp) (q_10 : Int32 → Int32 → Option Int32) (x2 : Int32) (x3 : Int32) : Option Int32 :=
  if x3 < 8 then
    Option.bind (f_X12_onWhom x2 h) fun r_2 =>
    bnd (x2 ||| r_2) fun x2_4 =>
    q_10 x2_4 (x3 + 1)
  else
    some x2
noncomputable def F_X12_heldBy_10 (h : Hp) (n : Nat) : Int32 → Int32 → Option Int32 :=
  Nat.rec (motive := fun _ => Int32 → Int32 → Option Int32) (fun _ _ => none) (fun _ q => S_X12_heldBy_10 h q) n
noncomputable def f_X12_heldBy (x1 : Int32) (h : Hp) : Option Int32 :=
  Option.bind (f_X12_onWhom (shl 1 x1) h) fun r_1 =>
  F_X12_heldBy_10 h FU r_1 0
/-! LeanCityModel.ring (I)Z -/
noncomputable def f_X12_ring (x1 : Int32) (h : Hp) : Option (Bool × Hp) :=
  bnd (up1 h 30 0 0) fun h_1 =>
  Option.bind (f_X12_throwsIf (b2i (f_X12_noHouse x1 h_1)) 1 h_1) fun r_3 =>
  if r_3.1 then
    some (false, r_3.2)
  else
    Option.bind (f_X12_heldBy x1 r_3.2) fun r_6 =>
    if (f_X12_has r_6 x1 r_3.2) then
      some (true, r_3.2)
    else
      some (false, r_3.2)
/-! LeanCityModel.held (I)I -/
noncomputable def f_X12_held (x1 : Int32) (h : Hp) : Option (Int32 × Hp) :=
  bnd (up1 h 30 0 0) fun h_1 =>
  Option.bind (f_X12_throwsIf (b2i (f_X12_noHouse x1 h_1)) 1 h_1) fun r_3 =>
  if r_3.1 then
    some (0, r_3.2)
  else
    Option.bind (f_X12_heldBy x1 r_3.2) fun r_6 =>
    some (r_6, r_3.2)
/-! LeanCityModel.ends ()I -/
noncomputable def F_X12_ends_41 (q_9 : Int32 → Int32 → Hp → Option (Int32 × Hp)) (x2 : Int32) (t0 : Int32) (t1 : Int32) (h : Hp) : Option (Int32 × Hp) :=
  bnd (t1 ||| t0) fun x1_1 =>
  q_9 x1_1 (x2 + 1) h
noncomputable def S_X12_ends_9 (q_9 : Int32 → Int32 → Hp → Option (Int32 × Hp)) (x1 : Int32) (x2 : Int32) (h : Hp) : Option (Int32 × Hp) :=
  if x2 < (f_X12_houses h) then
    Option.bind (f_X12_isFallen x2 h) fun r_2 =>
    if r_2 then
      F_X12_ends_41 q_9 x2 0 x1 h
    else
      Option.bind (f_X12_partsOf x2 h) fun r_5 =>
      if r_5 = 0 then
        F_X12_ends_41 q_9 x2 (shl 1 x2) x1 h
      else
        F_X12_ends_41 q_9 x2 0 x1 h
  else
    some (x1, h)
noncomputable def F_X12_ends_9 (n : Nat) : Int32 → Int32 → Hp → Option (Int32 × Hp) :=
  Nat.rec (motive := fun _ => Int32 → Int32 → Hp → Option (Int32 × Hp)) (fun _ _ _ => none) (fun _ q => S_X12_ends_9 q) n
noncomputable def f_X12_ends (h : Hp) : Option (Int32 × Hp) :=
  bnd (up1 h 30 0 0) fun h_1 =>
  F_X12_ends_9 FU 0 0 h_1
/-! LeanCityModel.pieceOf (II)I -/
noncomputable def F_X12_pieceOf_80 (q_9 : Int32 → Int32 → Option Int32) (q_19 : Int32 → Int32 → Option Int32) (q_31 : Int32 → Int32 → Option Int32) (h : Hp) (x2 : Int32) (x3 : Int32) (x4 : Int32) (x5 : Int32) (x6 : Int32) : Option Int32 :=
  bnd (x3 ||| (shl 1 x6)) fun x3_1 =>
  q_31 x3_1 (x6 + 1)
noncomputable def S_X12_pieceOf_31 (q_9 : Int32 → Int32 → Option Int32) (q_19 : Int32 → Int32 → Option Int32) (h : Hp) (x2 : Int32) (x4 : Int32) (x5 : Int32) (q_31 : Int32 → Int32 → Option Int32) (x3 : Int32) (x6 : Int32) : Option Int32 :=
  if x6 < (f_X12_houses h) then
    if (f_X12_has x3 x5 h) then
      if (f_X12_has x2 x6 h) then
        Option.bind (f_X12_partOf x5 x6 h) fun r_4 =>
        if 0 < r_4 then
          F_X12_pieceOf_80 q_9 q_19 q_31 h x2 x3 x4 x5 x6
        else
          Option.bind (f_X12_partOf x6 x5 h) fun r_7 =>
          if 0 < r_7 then
            F_X12_pieceOf_80 q_9 q_19 q_31 h x2 x3 x4 x5 x6
          else
            q_31 x3 (x6 + 1)
      else
        q_31 x3 (x6 + 1)
    else
      q_31 x3 (x6 + 1)
  else
    q_19 x3 (x5 + 1)
noncomputable def F_X12_pieceOf_31 (q_9 : Int32 → Int32 → Option Int32) (q_19 : Int32 → Int32 → Option Int32) (h : Hp) (x2 : Int32) (x4 : Int32) (x5 : Int32) (n : Nat) : Int32 → Int32 → Option Int32 :=
  Nat.rec (motive := fun _ => Int32 → Int32 → Option Int32) (fun _ _ => none) (fun _ q => S_X12_pieceOf_31 q_9 q_19 h x2 x4 x5 q) n
noncomputable def S_X12_pieceOf_19 (q_9 : Int32 → Int32 → Option Int32) (h : Hp) (x2 : Int32) (x4 : Int32) (q_19 : Int32 → Int32 → Option Int32) (x3 : Int32) (x5 : Int32) : Option Int32 :=
  if x5 < (f_X12_houses h) then
    F_X12_pieceOf_31 q_9 q_19 h x2 x4 x5 FU x3 0
  else
    q_9 x3 (x4 + 1)
noncomputable def F_X12_pieceOf_19 (q_9 : Int32 → Int32 → Option Int32) (h : Hp) (x2 : Int32) (x4 : Int32) (n : Nat) : Int32 → Int32 → Option Int32 :=
  Nat.rec (motive := fun _ => Int32 → Int32 → Option Int32) (fun _ _ => none) (fun _ q => S_X12_pieceOf_19 q_9 h x2 x4 q) n
noncomputable def S_X12_pieceOf_9 (h : Hp) (x2 : Int32) (q_9 : Int32 → Int32 → Option Int32) (x3 : Int32) (x4 : Int32) : Option Int32 :=
  if x4 < 8 then
    F_X12_pieceOf_19 q_9 h x2 x4 FU x3 0
  else
    some x3
noncomputable def F_X12_pieceOf_9 (h : Hp) (x2 : Int32) (n : Nat) : Int32 → Int32 → Option Int32 :=
  Nat.rec (motive := fun _ => Int32 → Int32 → Option Int32) (fun _ _ => none) (fun _ q => S_X12_pieceOf_9 h x2 q) n
noncomputable def f_X12_pieceOf (x1 : Int32) (x2 : Int32) (h : Hp) : Option Int32 :=
  bnd ((shl 1 x1) &&& x2) fun x3_1 =>
  F_X12_pieceOf_9 h x2 FU x3_1 0
/-! LeanCityModel.pairsAmong (II)I -/
noncomputable def S_X12_pairsAmong_5 (h : Hp) (x1 : Int32) (x2 : Int32) (q_5 : Int32 → Int32 → Option Int32) (x3 : Int32) (x4 : Int32) : Option Int32 :=
  if x4 < (f_X12_houses h) then
    if x4 = x2 then
      q_5 x3 (x4 + 1)
    else
      if (f_X12_has x1 x4 h) then
        Option.bind (f_X12_pieceOf x4 x1 h) fun r_4 =>
        bnd (x3 + (f_J6_bitCount_0f7a4 ((r_4 &&& ((shl 1 x4) ^^^ (-1))) &&& ((shl 1 x2) ^^^ (-1))) h)) fun x3_6 =>
        q_5 x3_6 (x4 + 1)
      else
        q_5 x3 (x4 + 1)
  else
    some (x3 / 2)
noncomputable def F_X12_pairsAmong_5 (h : Hp) (x1 : Int32) (x2 : Int32) (n : Nat) : Int32 → Int32 → Option Int32 :=
  Nat.rec (motive := fun _ => Int32 → Int32 → Option Int32) (fun _ _ => none) (fun _ q => S_X12_pairsAmong_5 h x1 x2 q) n
noncomputable def f_X12_pairsAmong (x1 : Int32) (x2 : Int32) (h : Hp) : Option Int32 :=
  F_X12_pairsAmong_5 h x1 x2 FU 0 0
/-! LeanCityModel.apart (I)I -/
noncomputable def f_X12_apart (x1 : Int32) (h : Hp) : Option (Int32 × Hp) :=
  bnd (up1 h 30 0 0) fun h_1 =>
  Option.bind (f_X12_throwsIf (b2i (f_X12_noHouse x1 h_1)) 1 h_1) fun r_3 =>
  if r_3.1 then
    some (0, r_3.2)
  else
    Option.bind (f_X12_isFallen x1 r_3.2) fun r_6 =>
    if r_6 then
      some (0, r_3.2)
    else
      Option.bind (f_X12_standing r_3.2) fun r_9 =>
      Option.bind (f_X12_pairsAmong r_9 x1 r_3.2) fun r_11 =>
      Option.bind (f_X12_standing r_3.2) fun r_13 =>
      Option.bind (f_X12_pairsAmong (r_13 &&& ((shl 1 x1) ^^^ (-1))) x1 r_3.2) fun r_15 =>
      some (r_11 - r_15, r_3.2)
/-! java/lang/Integer.numberOfTrailingZeros (I)I -/
noncomputable def F_J6_numberOfTrailingZeros_0f7a4_74 (h : Hp) (x0 : Int32) (x1 : Int32) : Int32 :=
  (x1 + (ushr x0 1))
noncomputable def F_J6_numberOfTrailingZeros_0f7a4_62 (h : Hp) (x0 : Int32) (x1 : Int32) : Int32 :=
  if 4 < x0 then
    bnd (ushr x0 2) fun x0_2 =>
    F_J6_numberOfTrailingZeros_0f7a4_74 h x0_2 (x1 + 2)
  else
    F_J6_numberOfTrailingZeros_0f7a4_74 h x0 x1
noncomputable def F_J6_numberOfTrailingZeros_0f7a4_49 (h : Hp) (x0 : Int32) (x1 : Int32) : Int32 :=
  if 16 < x0 then
    bnd (ushr x0 4) fun x0_2 =>
    F_J6_numberOfTrailingZeros_0f7a4_62 h x0_2 (x1 + 4)
  else
    F_J6_numberOfTrailingZeros_0f7a4_62 h x0 x1
noncomputable def F_J6_numberOfTrailingZeros_0f7a4_34 (h : Hp) (x0 : Int32) (x1 : Int32) : Int32 :=
  if 256 < x0 then
    bnd (ushr x0 8) fun x0_2 =>
    F_J6_numberOfTrailingZeros_0f7a4_49 h x0_2 (x1 + 8)
  else
    F_J6_numberOfTrailingZeros_0f7a4_49 h x0 x1
noncomputable def f_J6_numberOfTrailingZeros_0f7a4 (x0 : Int32) (h : Hp) : Int32 :=
  bnd ((x0 ^^^ (-1)) &&& (x0 - 1)) fun x0_1 =>
  if 0 < x0_1 then
    if 65536 < x0_1 then
      bnd (ushr x0_1 16) fun x0_5 =>
      F_J6_numberOfTrailingZeros_0f7a4_34 h x0_5 (1 + 16)
    else
      F_J6_numberOfTrailingZeros_0f7a4_34 h x0_1 1
  else
    (x0_1 &&& 32)
/-! LeanCityModel.pieces ()I -/
noncomputable def S_X12_pieces_12 (q_12 : Int32 → Int32 → Hp → Option (Int32 × Hp)) (x1 : Int32) (x2 : Int32) (h : Hp) : Option (Int32 × Hp) :=
  if x1 = 0 then
    some (x2, h)
  else
    Option.bind (f_X12_standing h) fun r_2 =>
    Option.bind (f_X12_pieceOf (f_J6_numberOfTrailingZeros_0f7a4 x1 h) r_2 h) fun r_4 =>
    bnd (x1 &&& (r_4 ^^^ (-1))) fun x1_6 =>
    q_12 x1_6 (x2 + 1) h
noncomputable def F_X12_pieces_12 (n : Nat) : Int32 → Int32 → Hp → Option (Int32 × Hp) :=
  Nat.rec (motive := fun _ => Int32 → Int32 → Hp → Option (Int32 × Hp)) (fun _ _ _ => none) (fun _ q => S_X12_pieces_12 q) n
noncomputable def f_X12_pieces (h : Hp) : Option (Int32 × Hp) :=
  bnd (up1 h 30 0 0) fun h_1 =>
  Option.bind (f_X12_standing h_1) fun r_3 =>
  F_X12_pieces_12 FU r_3 0 h_1
/-! LeanCityModel.heldAt (II)I -/
noncomputable def f_X12_heldAt (x0 : Int32) (x1 : Int32) (h : Hp) : Int32 :=
  ((shl x0 8) + x1)
/-! LeanCityModel.heldIf (III)I -/
noncomputable def F_X12_heldIf_77 (h : Hp) (x1 : Int32) (x2 : Int32) (x3 : Int32) (t0 : Int32) : Option Int32 :=
  gd (ix (f_X12_heldAt (x1 + 1) (x2 ||| (shl 1 x3)) h) 1792) (
  some (t0 + (h 46 ((f_X12_heldAt (x1 + 1) (x2 ||| (shl 1 x3)) h).toNatClampNeg))))
noncomputable def f_X12_heldIf (x1 : Int32) (x2 : Int32) (x3 : Int32) (h : Hp) : Option Int32 :=
  if x3 = (-1) then
    gd (ix (f_X12_heldAt (x1 + 1) x2 h) 1792) (
    some (h 46 ((f_X12_heldAt (x1 + 1) x2 h).toNatClampNeg)))
  else
    Option.bind (f_X12_isFallen x3 h) fun r_3 =>
    if r_3 then
      some (-1)
    else
      if (f_X12_has x2 x3 h) then
        some (-1)
      else
        Option.bind (f_X12_ofPerson x1 2 h) fun r_7 =>
        if (f_X12_has r_7 (h 31 4) h) then
          Option.bind (f_X12_ofPerson x1 1 h) fun r_10 =>
          gd (ix x3 8) (
          F_X12_heldIf_77 h x1 x2 x3 (imax 0 (imin r_10 (h 45 x3.toNatClampNeg))))
        else
          F_X12_heldIf_77 h x1 x2 x3 0
/-! LeanCityModel.laysGates ()V -/
noncomputable def S_X12_laysGates_120 (q_102 : Int32 → Hp → Option Hp) (q_108 : Int32 → Hp → Option Hp) (x1 : Int32) (x2 : Int32) (q_120 : Int32 → Int32 → Hp → Option Hp) (x3 : Int32) (x4 : Int32) (h : Hp) : Option Hp :=
  if x4 < (f_X12_houses h) then
    Option.bind (f_X12_heldIf x1 x2 x4 h) fun r_2 =>
    bnd (imax x3 r_2) fun x3_4 =>
    q_120 x3_4 (x4 + 1) h
  else
    gd (ix (f_X12_heldAt x1 x2 h) 1792) (
    bnd (up1 h 46 ((f_X12_heldAt x1 x2 h).toNatClampNeg) x3) fun h_7 =>
    q_108 (x2 + 1) h_7)
noncomputable def F_X12_laysGates_120 (q_102 : Int32 → Hp → Option Hp) (q_108 : Int32 → Hp → Option Hp) (x1 : Int32) (x2 : Int32) (n : Nat) : Int32 → Int32 → Hp → Option Hp :=
  Nat.rec (motive := fun _ => Int32 → Int32 → Hp → Option Hp) (fun _ _ _ => none) (fun _ q => S_X12_laysGates_120 q_102 q_108 x1 x2 q) n
noncomputable def S_X12_laysGates_108 (q_102 : Int32 → Hp → Option Hp) (x1 : Int32) (q_108 : Int32 → Hp → Option Hp) (x2 : Int32) (h : Hp) : Option Hp :=
  if x2 < 256 then
    F_X12_laysGates_120 q_102 q_108 x1 x2 FU 0 (-1) h
  else
    q_102 (x1 + (-1)) h
noncomputable def F_X12_laysGates_108 (q_102 : Int32 → Hp → Option Hp) (x1 : Int32) (n : Nat) : Int32 → Hp → Option Hp :=
  Nat.rec (motive := fun _ => Int32 → Hp → Option Hp) (fun _ _ => none) (fun _ q => S_X12_laysGates_108 q_102 x1 q) n
noncomputable def S_X12_laysGates_102 (q_102 : Int32 → Hp → Option Hp) (x1 : Int32) (h : Hp) : Option Hp :=
  if x1 < 0 then
    some h
  else
    F_X12_laysGates_108 q_102 x1 FU 0 h
noncomputable def F_X12_laysGates_102 (n : Nat) : Int32 → Hp → Option Hp :=
  Nat.rec (motive := fun _ => Int32 → Hp → Option Hp) (fun _ _ => none) (fun _ q => S_X12_laysGates_102 q) n
noncomputable def S_X12_laysGates_68 (q_68 : Int32 → Hp → Option Hp) (x1 : Int32) (h : Hp) : Option Hp :=
  if x1 < 256 then
    gd (ix (f_X12_heldAt (f_X12_people h) x1 h) 1792) (
    bnd (up1 h 46 ((f_X12_heldAt (f_X12_people h) x1 h).toNatClampNeg) 0) fun h_3 =>
    q_68 (x1 + 1) h_3)
  else
    bnd ((f_X12_people h) - 1) fun x1_5 =>
    F_X12_laysGates_102 FU x1_5 h
noncomputable def F_X12_laysGates_68 (n : Nat) : Int32 → Hp → Option Hp :=
  Nat.rec (motive := fun _ => Int32 → Hp → Option Hp) (fun _ _ => none) (fun _ q => S_X12_laysGates_68 q) n
noncomputable def S_X12_laysGates_37 (q_37 : Int32 → Hp → Option Hp) (x1 : Int32) (h : Hp) : Option Hp :=
  if x1 < (f_X12_houses h) then
    Option.bind (f_X12_sagsNow x1 h) fun r_2 =>
    gd (ix x1 8) (
    bnd (up1 r_2.2 45 x1.toNatClampNeg r_2.1) fun h_5 =>
    q_37 (x1 + 1) h_5)
  else
    Option.bind (f_X12_bringsBack h) fun r_7 =>
    F_X12_laysGates_68 FU 0 r_7
noncomputable def F_X12_laysGates_37 (n : Nat) : Int32 → Hp → Option Hp :=
  Nat.rec (motive := fun _ => Int32 → Hp → Option Hp) (fun _ _ => none) (fun _ q => S_X12_laysGates_37 q) n
noncomputable def S_X12_laysGates_6 (q_6 : Int32 → Hp → Option Hp) (x1 : Int32) (h : Hp) : Option Hp :=
  if x1 < (f_X12_people h) then
    gd (ix (f_X12_personAt x1 0 h) 2190) (
    bnd (up1 h 31 ((f_X12_personAt x1 0 h).toNatClampNeg) (-1)) fun h_3 =>
    q_6 (x1 + 1) h_3)
  else
    Option.bind (f_X12_laysNow h) fun r_5 =>
    F_X12_laysGates_37 FU 0 r_5
noncomputable def F_X12_laysGates_6 (n : Nat) : Int32 → Hp → Option Hp :=
  Nat.rec (motive := fun _ => Int32 → Hp → Option Hp) (fun _ _ => none) (fun _ q => S_X12_laysGates_6 q) n
noncomputable def f_X12_laysGates (h : Hp) : Option Hp :=
  Option.bind (f_X12_keepsAll h) fun r_1 =>
  F_X12_laysGates_6 FU 0 r_1
/-! LeanCityModel.gates (I)I -/
noncomputable def F_X12_gates_105 (q_56 : Int32 → Int32 → Int32 → Hp → Option (Int32 × Hp)) (x1 : Int32) (x3 : Int32) (x4 : Int32) (t0 : Int32) (t1 : Int32) (h : Hp) : Option (Int32 × Hp) :=
  bnd (t1 ||| t0) fun x2_1 =>
  q_56 x2_1 x3 (x4 + 1) h
noncomputable def S_X12_gates_64 (q_56 : Int32 → Int32 → Int32 → Hp → Option (Int32 × Hp)) (x1 : Int32) (x2 : Int32) (x4 : Int32) (q_64 : Int32 → Hp → Option (Int32 × Hp)) (x3 : Int32) (h : Hp) : Option (Int32 × Hp) :=
  Option.bind (f_X12_heldIf x4 x2 x3 h) fun r_1 =>
  gd (ix (f_X12_heldAt x4 x2 h) 1792) (
  if r_1 = (h 46 ((f_X12_heldAt x4 x2 h).toNatClampNeg)) then
    if x3 = (-1) then
      F_X12_gates_105 q_56 x1 x3 x4 0 x2 h
    else
      F_X12_gates_105 q_56 x1 x3 x4 (shl 1 x3) x2 h
  else
    q_64 (x3 + 1) h)
noncomputable def F_X12_gates_64 (q_56 : Int32 → Int32 → Int32 → Hp → Option (Int32 × Hp)) (x1 : Int32) (x2 : Int32) (x4 : Int32) (n : Nat) : Int32 → Hp → Option (Int32 × Hp) :=
  Nat.rec (motive := fun _ => Int32 → Hp → Option (Int32 × Hp)) (fun _ _ => none) (fun _ q => S_X12_gates_64 q_56 x1 x2 x4 q) n
noncomputable def S_X12_gates_56 (x1 : Int32) (q_56 : Int32 → Int32 → Int32 → Hp → Option (Int32 × Hp)) (x2 : Int32) (x3 : Int32) (x4 : Int32) (h : Hp) : Option (Int32 × Hp) :=
  if x1 < x4 then
    some (x3, h)
  else
    F_X12_gates_64 q_56 x1 x2 x4 FU (-1) h
noncomputable def F_X12_gates_56 (x1 : Int32) (n : Nat) : Int32 → Int32 → Int32 → Hp → Option (Int32 × Hp) :=
  Nat.rec (motive := fun _ => Int32 → Int32 → Int32 → Hp → Option (Int32 × Hp)) (fun _ _ _ _ => none) (fun _ q => S_X12_gates_56 x1 q) n
noncomputable def F_X12_gates_24 (x1 : Int32) (t0 : Int32) (h : Hp) : Option (Int32 × Hp) :=
  Option.bind (f_X12_throwsIf t0 1 h) fun r_1 =>
  if r_1.1 then
    some (0, r_1.2)
  else
    Option.bind (f_X12_laysGates r_1.2) fun r_4 =>
    if x1 = (-1) then
      some (r_4 46 0, r_4)
    else
      F_X12_gates_56 x1 FU 0 (-1) 0 r_4
noncomputable def f_X12_gates (x1 : Int32) (h : Hp) : Option (Int32 × Hp) :=
  bnd (up1 h 30 0 0) fun h_1 =>
  if x1 = (-1) then
    F_X12_gates_24 x1 0 h_1
  else
    if (f_X12_noPerson x1 h_1) then
      F_X12_gates_24 x1 1 h_1
    else
      F_X12_gates_24 x1 0 h_1
/-! LeanCityModel.swap (II)Z -/
noncomputable def F_X12_swap_45 (x1 : Int32) (x2 : Int32) (t0 : Int32) (h : Hp) : Option (Bool × Hp) :=
  Option.bind (f_X12_throwsIf t0 2 h) fun r_1 =>
  if r_1.1 then
    some (false, r_1.2)
  else
    Option.bind (f_X12_fallsIn (r_1.2 31 4) r_1.2) fun r_4 =>
    bnd (f_J6_bitCount_0f7a4 r_4.1 r_4.2) fun x3_6 =>
    Option.bind (f_X12_keepsAll r_4.2) fun r_8 =>
    Option.bind (f_X12_ofPerson x1 0 r_8) fun r_10 =>
    Option.bind (f_X12_ofPerson x2 0 r_8) fun r_12 =>
    gd (ix (f_X12_personAt x1 0 r_8) 2190) (
    bnd (up1 r_8 31 ((f_X12_personAt x1 0 r_8).toNatClampNeg) r_12) fun h_15 =>
    gd (ix (f_X12_personAt x2 0 h_15) 2190) (
    bnd (up1 h_15 31 ((f_X12_personAt x2 0 h_15).toNatClampNeg) r_10) fun h_18 =>
    Option.bind (f_X12_wouldFall (h_18 31 4) h_18) fun r_20 =>
    if (f_J6_bitCount_0f7a4 r_20.1 r_20.2) < x3_6 then
      some (true, r_20.2)
    else
      some (false, r_20.2)))
noncomputable def F_X12_swap_27 (x1 : Int32) (x2 : Int32) (t0 : Int32) (h : Hp) : Option (Bool × Hp) :=
  Option.bind (f_X12_throwsIf t0 1 h) fun r_1 =>
  if r_1.1 then
    some (false, r_1.2)
  else
    if x1 = x2 then
      F_X12_swap_45 x1 x2 1 r_1.2
    else
      F_X12_swap_45 x1 x2 0 r_1.2
noncomputable def f_X12_swap (x1 : Int32) (x2 : Int32) (h : Hp) : Option (Bool × Hp) :=
  bnd (up1 h 30 0 0) fun h_1 =>
  if (f_X12_noPerson x1 h_1) then
    F_X12_swap_27 x1 x2 1 h_1
  else
    if (f_X12_noPerson x2 h_1) then
      F_X12_swap_27 x1 x2 1 h_1
    else
      F_X12_swap_27 x1 x2 0 h_1
/-! LeanCityModel.personHas (III)I -/
noncomputable def f_X12_personHas (x1 : Int32) (x2 : Int32) (x3 : Int32) (h : Hp) : Option Int32 :=
  if x2 = 0 then
    if x3 = 0 then
      some 3
    else
      Option.bind (f_X12_ofPerson x1 1 h) fun r_3 =>
      some ((r_3 / 10) - 4)
  else
    if x3 = 1 then
      some (-3)
    else
      some 2
/-! LeanCityModel.rests (II)I -/
noncomputable def F_X12_rests_134 (q_59 : Int32 → Int32 → Hp → Option (Int32 × Hp)) (q_68 : Int32 → Int32 → Hp → Option (Int32 × Hp)) (x1 : Int32) (x2 : Int32) (x4 : Int32) (x5 : Int32) (t0 : Int32) (t1 : Int32) (h : Hp) : Option (Int32 × Hp) :=
  bnd (t1 ||| t0) fun x3_1 =>
  q_68 x3_1 (x5 + 1) h
noncomputable def S_X12_rests_68 (q_59 : Int32 → Int32 → Hp → Option (Int32 × Hp)) (x1 : Int32) (x2 : Int32) (x4 : Int32) (q_68 : Int32 → Int32 → Hp → Option (Int32 × Hp)) (x3 : Int32) (x5 : Int32) (h : Hp) : Option (Int32 × Hp) :=
  if x5 < 2 then
    Option.bind (f_X12_personHas x1 x4 x5 h) fun r_2 =>
    Option.bind (f_X12_personHas x1 (1 - x4) x5 h) fun r_4 =>
    if r_2 < r_4 then
      F_X12_rests_134 q_59 q_68 x1 x2 x4 x5 0 x3 h
    else
      Option.bind (f_X12_personHas x2 x5 x4 h) fun r_7 =>
      Option.bind (f_X12_personHas x2 (1 - x5) x4 h) fun r_9 =>
      if r_7 < r_9 then
        F_X12_rests_134 q_59 q_68 x1 x2 x4 x5 0 x3 h
      else
        F_X12_rests_134 q_59 q_68 x1 x2 x4 x5 (shl 1 ((2 * x4) + x5)) x3 h
  else
    q_59 x3 (x4 + 1) h
noncomputable def F_X12_rests_68 (q_59 : Int32 → Int32 → Hp → Option (Int32 × Hp)) (x1 : Int32) (x2 : Int32) (x4 : Int32) (n : Nat) : Int32 → Int32 → Hp → Option (Int32 × Hp) :=
  Nat.rec (motive := fun _ => Int32 → Int32 → Hp → Option (Int32 × Hp)) (fun _ _ _ => none) (fun _ q => S_X12_rests_68 q_59 x1 x2 x4 q) n
noncomputable def S_X12_rests_59 (x1 : Int32) (x2 : Int32) (q_59 : Int32 → Int32 → Hp → Option (Int32 × Hp)) (x3 : Int32) (x4 : Int32) (h : Hp) : Option (Int32 × Hp) :=
  if x4 < 2 then
    F_X12_rests_68 q_59 x1 x2 x4 FU x3 0 h
  else
    some (x3, h)
noncomputable def F_X12_rests_59 (x1 : Int32) (x2 : Int32) (n : Nat) : Int32 → Int32 → Hp → Option (Int32 × Hp) :=
  Nat.rec (motive := fun _ => Int32 → Int32 → Hp → Option (Int32 × Hp)) (fun _ _ _ => none) (fun _ q => S_X12_rests_59 x1 x2 q) n
noncomputable def F_X12_rests_45 (x1 : Int32) (x2 : Int32) (t0 : Int32) (h : Hp) : Option (Int32 × Hp) :=
  Option.bind (f_X12_throwsIf t0 2 h) fun r_1 =>
  if r_1.1 then
    some (0, r_1.2)
  else
    F_X12_rests_59 x1 x2 FU 0 0 r_1.2
noncomputable def F_X12_rests_27 (x1 : Int32) (x2 : Int32) (t0 : Int32) (h : Hp) : Option (Int32 × Hp) :=
  Option.bind (f_X12_throwsIf t0 1 h) fun r_1 =>
  if r_1.1 then
    some (0, r_1.2)
  else
    if x1 = x2 then
      F_X12_rests_45 x1 x2 1 r_1.2
    else
      F_X12_rests_45 x1 x2 0 r_1.2
noncomputable def f_X12_rests (x1 : Int32) (x2 : Int32) (h : Hp) : Option (Int32 × Hp) :=
  bnd (up1 h 30 0 0) fun h_1 =>
  if (f_X12_noPerson x1 h_1) then
    F_X12_rests_27 x1 x2 1 h_1
  else
    if (f_X12_noPerson x2 h_1) then
      F_X12_rests_27 x1 x2 1 h_1
    else
      F_X12_rests_27 x1 x2 0 h_1
/-! LeanCityModel.odds (I)I -/
noncomputable def S_X12_odds_46 (q_35 : Int32 → Int32 → Hp → Option (Int32 × Hp)) (x1 : Int32) (x3 : Int32) (q_46 : Int32 → Int32 → Hp → Option (Int32 × Hp)) (x2 : Int32) (x4 : Int32) (h : Hp) : Option (Int32 × Hp) :=
  if x4 < x1 then
    Option.bind (f_X12_ofPerson x3 0 h) fun r_2 =>
    if r_2 = (-1) then
      q_46 x2 (x4 + 1) h
    else
      bnd ((x2 * (100 - (h 31 6))) / 100) fun x2_5 =>
      q_46 x2_5 (x4 + 1) h
  else
    q_35 x2 (x3 + 1) h
noncomputable def F_X12_odds_46 (q_35 : Int32 → Int32 → Hp → Option (Int32 × Hp)) (x1 : Int32) (x3 : Int32) (n : Nat) : Int32 → Int32 → Hp → Option (Int32 × Hp) :=
  Nat.rec (motive := fun _ => Int32 → Int32 → Hp → Option (Int32 × Hp)) (fun _ _ _ => none) (fun _ q => S_X12_odds_46 q_35 x1 x3 q) n
noncomputable def S_X12_odds_35 (x1 : Int32) (q_35 : Int32 → Int32 → Hp → Option (Int32 × Hp)) (x2 : Int32) (x3 : Int32) (h : Hp) : Option (Int32 × Hp) :=
  if x3 < (f_X12_people h) then
    F_X12_odds_46 q_35 x1 x3 FU x2 0 h
  else
    some (x2, h)
noncomputable def F_X12_odds_35 (x1 : Int32) (n : Nat) : Int32 → Int32 → Hp → Option (Int32 × Hp) :=
  Nat.rec (motive := fun _ => Int32 → Int32 → Hp → Option (Int32 × Hp)) (fun _ _ _ => none) (fun _ q => S_X12_odds_35 x1 q) n
noncomputable def F_X12_odds_20 (x1 : Int32) (t0 : Int32) (h : Hp) : Option (Int32 × Hp) :=
  Option.bind (f_X12_throwsIf t0 1 h) fun r_1 =>
  if r_1.1 then
    some (0, r_1.2)
  else
    F_X12_odds_35 x1 FU 10000 0 r_1.2
noncomputable def f_X12_odds (x1 : Int32) (h : Hp) : Option (Int32 × Hp) :=
  bnd (up1 h 30 0 0) fun h_1 =>
  if (f_X12_in x1 0 4 h_1) then
    F_X12_odds_20 x1 0 h_1
  else
    F_X12_odds_20 x1 1 h_1
/-! LeanCityModel.oldest ()I -/
noncomputable def F_X12_oldest_50 (q_11 : Int32 → Int32 → Int32 → Hp → Option (Int32 × Hp)) (x2 : Int32) (x3 : Int32) (x4 : Int32) (t0 : Int32) (h : Hp) : Option (Int32 × Hp) :=
  bnd (imax x2 x4) fun x2_1 =>
  q_11 t0 x2_1 (x3 + 1) h
noncomputable def F_X12_oldest_37 (q_11 : Int32 → Int32 → Int32 → Hp → Option (Int32 × Hp)) (x1 : Int32) (x2 : Int32) (x3 : Int32) (t0 : Int32) (h : Hp) : Option (Int32 × Hp) :=
  if x2 < t0 then
    F_X12_oldest_50 q_11 x2 x3 t0 x3 h
  else
    F_X12_oldest_50 q_11 x2 x3 t0 x1 h
noncomputable def S_X12_oldest_11 (q_11 : Int32 → Int32 → Int32 → Hp → Option (Int32 × Hp)) (x1 : Int32) (x2 : Int32) (x3 : Int32) (h : Hp) : Option (Int32 × Hp) :=
  if x3 < (f_X12_houses h) then
    Option.bind (f_X12_isFallen x3 h) fun r_2 =>
    if r_2 then
      F_X12_oldest_37 q_11 x1 x2 x3 (-1) h
    else
      Option.bind (f_X12_of x3 3 h) fun r_5 =>
      F_X12_oldest_37 q_11 x1 x2 x3 r_5 h
  else
    some (x1, h)
noncomputable def F_X12_oldest_11 (n : Nat) : Int32 → Int32 → Int32 → Hp → Option (Int32 × Hp) :=
  Nat.rec (motive := fun _ => Int32 → Int32 → Int32 → Hp → Option (Int32 × Hp)) (fun _ _ _ _ => none) (fun _ q => S_X12_oldest_11 q) n
noncomputable def f_X12_oldest (h : Hp) : Option (Int32 × Hp) :=
  bnd (up1 h 30 0 0) fun h_1 =>
  F_X12_oldest_11 FU (-1) (-1) 0 h_1
/-! LeanCityModel.straight ()I -/
noncomputable def F_X12_straight_49 (q_9 : Int32 → Int32 → Hp → Option (Int32 × Hp)) (x2 : Int32) (t0 : Int32) (t1 : Int32) (h : Hp) : Option (Int32 × Hp) :=
  bnd (t1 ||| t0) fun x1_1 =>
  q_9 x1_1 (x2 + 1) h
noncomputable def S_X12_straight_9 (q_9 : Int32 → Int32 → Hp → Option (Int32 × Hp)) (x1 : Int32) (x2 : Int32) (h : Hp) : Option (Int32 × Hp) :=
  if x2 < (f_X12_houses h) then
    Option.bind (f_X12_isFallen x2 h) fun r_2 =>
    if r_2 then
      F_X12_straight_49 q_9 x2 0 x1 h
    else
      Option.bind (f_X12_partsOf x2 h) fun r_5 =>
      if r_5 = 0 then
        Option.bind (f_X12_isLeant x2 h) fun r_8 =>
        if r_8 then
          F_X12_straight_49 q_9 x2 0 x1 h
        else
          F_X12_straight_49 q_9 x2 (shl 1 x2) x1 h
      else
        F_X12_straight_49 q_9 x2 0 x1 h
  else
    some (x1, h)
noncomputable def F_X12_straight_9 (n : Nat) : Int32 → Int32 → Hp → Option (Int32 × Hp) :=
  Nat.rec (motive := fun _ => Int32 → Int32 → Hp → Option (Int32 × Hp)) (fun _ _ _ => none) (fun _ q => S_X12_straight_9 q) n
noncomputable def f_X12_straight (h : Hp) : Option (Int32 × Hp) :=
  bnd (up1 h 30 0 0) fun h_1 =>
  F_X12_straight_9 FU 0 0 h_1
/-! LeanCityModel.there (I)I -/
noncomputable def F_X12_there_62 (q_23 : Int32 → Int32 → Hp → Option (Int32 × Hp)) (x1 : Int32) (x3 : Int32) (t0 : Int32) (t1 : Int32) (h : Hp) : Option (Int32 × Hp) :=
  bnd (t1 ||| t0) fun x2_1 =>
  q_23 x2_1 (x3 + 1) h
noncomputable def S_X12_there_23 (x1 : Int32) (q_23 : Int32 → Int32 → Hp → Option (Int32 × Hp)) (x2 : Int32) (x3 : Int32) (h : Hp) : Option (Int32 × Hp) :=
  if x3 < (f_X12_people h) then
    Option.bind (f_X12_ofPerson x3 0 h) fun r_2 =>
    if r_2 = (-1) then
      F_X12_there_62 q_23 x1 x3 0 x2 h
    else
      Option.bind (f_X12_ofPerson x3 2 h) fun r_5 =>
      if (f_X12_has r_5 x1 h) then
        F_X12_there_62 q_23 x1 x3 (shl 1 x3) x2 h
      else
        F_X12_there_62 q_23 x1 x3 0 x2 h
  else
    some (x2, h)
noncomputable def F_X12_there_23 (x1 : Int32) (n : Nat) : Int32 → Int32 → Hp → Option (Int32 × Hp) :=
  Nat.rec (motive := fun _ => Int32 → Int32 → Hp → Option (Int32 × Hp)) (fun _ _ _ => none) (fun _ q => S_X12_there_23 x1 q) n
noncomputable def f_X12_there (x1 : Int32) (h : Hp) : Option (Int32 × Hp) :=
  bnd (up1 h 30 0 0) fun h_1 =>
  Option.bind (f_X12_throwsIf (b2i (f_X12_noEvening x1 h_1)) 1 h_1) fun r_3 =>
  if r_3.1 then
    some (0, r_3.2)
  else
    F_X12_there_23 x1 FU 0 0 r_3.2
/-! LeanCityModel.twins ()I -/
noncomputable def F_X12_twins_76 (q_9 : Int32 → Int32 → Hp → Option (Int32 × Hp)) (q_19 : Int32 → Int32 → Hp → Option (Int32 × Hp)) (x2 : Int32) (x3 : Int32) (t0 : Int32) (t1 : Int32) (h : Hp) : Option (Int32 × Hp) :=
  q_19 (t1 + t0) (x3 + 1) h
noncomputable def S_X12_twins_19 (q_9 : Int32 → Int32 → Hp → Option (Int32 × Hp)) (x2 : Int32) (q_19 : Int32 → Int32 → Hp → Option (Int32 × Hp)) (x1 : Int32) (x3 : Int32) (h : Hp) : Option (Int32 × Hp) :=
  if x3 < x2 then
    Option.bind (f_X12_isFallen x2 h) fun r_2 =>
    if r_2 then
      F_X12_twins_76 q_9 q_19 x2 x3 0 x1 h
    else
      Option.bind (f_X12_isFallen x3 h) fun r_5 =>
      if r_5 then
        F_X12_twins_76 q_9 q_19 x2 x3 0 x1 h
      else
        Option.bind (f_X12_of x2 0 h) fun r_8 =>
        Option.bind (f_X12_of x3 0 h) fun r_10 =>
        if r_8 = r_10 then
          Option.bind (f_X12_of x2 1 h) fun r_13 =>
          Option.bind (f_X12_of x3 1 h) fun r_15 =>
          if r_13 = r_15 then
            F_X12_twins_76 q_9 q_19 x2 x3 1 x1 h
          else
            F_X12_twins_76 q_9 q_19 x2 x3 0 x1 h
        else
          F_X12_twins_76 q_9 q_19 x2 x3 0 x1 h
  else
    q_9 x1 (x2 + 1) h
noncomputable def F_X12_twins_19 (q_9 : Int32 → Int32 → Hp → Option (Int32 × Hp)) (x2 : Int32) (n : Nat) : Int32 → Int32 → Hp → Option (Int32 × Hp) :=
  Nat.rec (motive := fun _ => Int32 → Int32 → Hp → Option (Int32 × Hp)) (fun _ _ _ => none) (fun _ q => S_X12_twins_19 q_9 x2 q) n
noncomputable def S_X12_twins_9 (q_9 : Int32 → Int32 → Hp → Option (Int32 × Hp)) (x1 : Int32) (x2 : Int32) (h : Hp) : Option (Int32 × Hp) :=
  if x2 < (f_X12_houses h) then
    F_X12_twins_19 q_9 x2 FU x1 0 h
  else
    some (x1, h)
noncomputable def F_X12_twins_9 (n : Nat) : Int32 → Int32 → Hp → Option (Int32 × Hp) :=
  Nat.rec (motive := fun _ => Int32 → Int32 → Hp → Option (Int32 × Hp)) (fun _ _ _ => none) (fun _ q => S_X12_twins_9 q) n
noncomputable def f_X12_twins (h : Hp) : Option (Int32 × Hp) :=
  bnd (up1 h 30 0 0) fun h_1 =>
  F_X12_twins_9 FU 0 0 h_1
/-! LeanCityModel.leans ()I -/
noncomputable def F_X12_leans_42 (q_9 : Int32 → Int32 → Hp → Option (Int32 × Hp)) (q_19 : Int32 → Int32 → Hp → Option (Int32 × Hp)) (x2 : Int32) (x3 : Int32) (t0 : Int32) (t1 : Int32) (h : Hp) : Option (Int32 × Hp) :=
  q_19 (t1 + t0) (x3 + 1) h
noncomputable def S_X12_leans_19 (q_9 : Int32 → Int32 → Hp → Option (Int32 × Hp)) (x2 : Int32) (q_19 : Int32 → Int32 → Hp → Option (Int32 × Hp)) (x1 : Int32) (x3 : Int32) (h : Hp) : Option (Int32 × Hp) :=
  if x3 < (f_X12_houses h) then
    Option.bind (f_X12_partOf x2 x3 h) fun r_2 =>
    if 0 < r_2 then
      F_X12_leans_42 q_9 q_19 x2 x3 1 x1 h
    else
      F_X12_leans_42 q_9 q_19 x2 x3 0 x1 h
  else
    q_9 x1 (x2 + 1) h
noncomputable def F_X12_leans_19 (q_9 : Int32 → Int32 → Hp → Option (Int32 × Hp)) (x2 : Int32) (n : Nat) : Int32 → Int32 → Hp → Option (Int32 × Hp) :=
  Nat.rec (motive := fun _ => Int32 → Int32 → Hp → Option (Int32 × Hp)) (fun _ _ _ => none) (fun _ q => S_X12_leans_19 q_9 x2 q) n
noncomputable def S_X12_leans_9 (q_9 : Int32 → Int32 → Hp → Option (Int32 × Hp)) (x1 : Int32) (x2 : Int32) (h : Hp) : Option (Int32 × Hp) :=
  if x2 < (f_X12_houses h) then
    F_X12_leans_19 q_9 x2 FU x1 0 h
  else
    some (x1, h)
noncomputable def F_X12_leans_9 (n : Nat) : Int32 → Int32 → Hp → Option (Int32 × Hp) :=
  Nat.rec (motive := fun _ => Int32 → Int32 → Hp → Option (Int32 × Hp)) (fun _ _ _ => none) (fun _ q => S_X12_leans_9 q) n
noncomputable def f_X12_leans (h : Hp) : Option (Int32 × Hp) :=
  bnd (up1 h 30 0 0) fun h_1 =>
  F_X12_leans_9 FU 0 0 h_1
/-! LeanCityModel.noAhead (I)Z -/
noncomputable def f_X12_noAhead (x0 : Int32) (h : Hp) : Bool :=
  if (f_X12_in x0 0 70 h) then
    false
  else
    true
/-! LeanCityModel.down ()I -/
noncomputable def F_X12_down_44 (x1 : Int32) (h : Hp) : Option (Int32 × Hp) :=
  Option.bind (f_X12_bringsBack h) fun r_1 =>
  some (x1, r_1)
noncomputable def S_X12_down_13 (q_13 : Int32 → Int32 → Hp → Option (Int32 × Hp)) (x1 : Int32) (x2 : Int32) (h : Hp) : Option (Int32 × Hp) :=
  if 70 < x2 then
    F_X12_down_44 x1 h
  else
    if x1 = (-1) then
      Option.bind (f_X12_oneEvening 1 h) fun r_3 =>
      if 0 < r_3.1 then
        q_13 x2 (x2 + 1) r_3.2
      else
        q_13 (-1) (x2 + 1) r_3.2
    else
      F_X12_down_44 x1 h
noncomputable def F_X12_down_13 (n : Nat) : Int32 → Int32 → Hp → Option (Int32 × Hp) :=
  Nat.rec (motive := fun _ => Int32 → Int32 → Hp → Option (Int32 × Hp)) (fun _ _ _ => none) (fun _ q => S_X12_down_13 q) n
noncomputable def f_X12_down (h : Hp) : Option (Int32 × Hp) :=
  bnd (up1 h 30 0 0) fun h_1 =>
  Option.bind (f_X12_keepsAll h_1) fun r_3 =>
  F_X12_down_13 FU (-1) 1 r_3
/-! LeanCityModel.ahead (I)I -/
noncomputable def f_X12_ahead (x1 : Int32) (h : Hp) : Option (Int32 × Hp) :=
  bnd (up1 h 30 0 0) fun h_1 =>
  Option.bind (f_X12_throwsIf (b2i (f_X12_noAhead x1 h_1)) 1 h_1) fun r_3 =>
  if r_3.1 then
    some (0, r_3.2)
  else
    Option.bind (f_X12_keepsAll r_3.2) fun r_6 =>
    Option.bind (f_X12_goesOn x1 1 r_6) fun r_8 =>
    Option.bind (f_X12_standing r_8.2) fun r_10 =>
    Option.bind (f_X12_bringsBack r_8.2) fun r_12 =>
    some (r_10, r_12)
/-! LeanCityModel.holdOfAll ()I -/
noncomputable def F_X12_holdOfAll_33 (q_4 : Int32 → Int32 → Option Int32) (h : Hp) (x2 : Int32) (t0 : Int32) (t1 : Int32) : Option Int32 :=
  q_4 (t1 + t0) (x2 + 1)
noncomputable def S_X12_holdOfAll_4 (h : Hp) (q_4 : Int32 → Int32 → Option Int32) (x1 : Int32) (x2 : Int32) : Option Int32 :=
  if x2 < (f_X12_people h) then
    Option.bind (f_X12_ofPerson x2 0 h) fun r_2 =>
    if r_2 = (-1) then
      F_X12_holdOfAll_33 q_4 h x2 0 x1
    else
      Option.bind (f_X12_ofPerson x2 1 h) fun r_5 =>
      F_X12_holdOfAll_33 q_4 h x2 r_5 x1
  else
    some x1
noncomputable def F_X12_holdOfAll_4 (h : Hp) (n : Nat) : Int32 → Int32 → Option Int32 :=
  Nat.rec (motive := fun _ => Int32 → Int32 → Option Int32) (fun _ _ => none) (fun _ q => S_X12_holdOfAll_4 h q) n
noncomputable def f_X12_holdOfAll (h : Hp) : Option Int32 :=
  F_X12_holdOfAll_4 h FU 0 0
/-! LeanCityModel.trial (IZ)I -/
noncomputable def F_X12_trial_45 (t0 : Int32) (h : Hp) : Option (Int32 × Hp) :=
  Option.bind (f_X12_bringsBack h) fun r_1 =>
  some (t0, r_1)
noncomputable def f_X12_trial (x1 : Int32) (x2 : Int32) (h : Hp) : Option (Int32 × Hp) :=
  bnd (up1 h 30 0 0) fun h_1 =>
  Option.bind (f_X12_throwsIf (b2i (f_X12_noAhead x1 h_1)) 1 h_1) fun r_3 =>
  if r_3.1 then
    some (0, r_3.2)
  else
    Option.bind (f_X12_keepsAll r_3.2) fun r_6 =>
    Option.bind (f_X12_goesOn x1 0 r_6) fun r_8 =>
    if x2 = 0 then
      Option.bind (f_X12_standing r_8.2) fun r_11 =>
      F_X12_trial_45 r_11 r_8.2
    else
      Option.bind (f_X12_holdOfAll r_8.2) fun r_13 =>
      F_X12_trial_45 r_13 r_8.2
/-! LeanCityModel.span (IZ)I -/
noncomputable def S_X12_span_28 (x1 : Int32) (x2 : Int32) (q_28 : Int32 → Int32 → Hp → Option (Int32 × Hp)) (x3 : Int32) (x4 : Int32) (h : Hp) : Option (Int32 × Hp) :=
  if 6 < x4 then
    some (x3, h)
  else
    bnd (up1 h 31 9 x4) fun h_2 =>
    Option.bind (f_X12_goesOn x1 0 h_2) fun r_4 =>
    Option.bind (f_X12_standing r_4.2) fun r_6 =>
    bnd (f_J6_bitCount_0f7a4 r_6 r_4.2) fun x5_8 =>
    Option.bind (f_X12_bringsBack r_4.2) fun r_10 =>
    if x3 < 0 then
      q_28 x5_8 (x4 + 1) r_10
    else
      if x2 = 0 then
        bnd (imin x3 x5_8) fun x3_14 =>
        q_28 x3_14 (x4 + 1) r_10
      else
        bnd (imax x3 x5_8) fun x3_16 =>
        q_28 x3_16 (x4 + 1) r_10
noncomputable def F_X12_span_28 (x1 : Int32) (x2 : Int32) (n : Nat) : Int32 → Int32 → Hp → Option (Int32 × Hp) :=
  Nat.rec (motive := fun _ => Int32 → Int32 → Hp → Option (Int32 × Hp)) (fun _ _ _ => none) (fun _ q => S_X12_span_28 x1 x2 q) n
noncomputable def f_X12_span (x1 : Int32) (x2 : Int32) (h : Hp) : Option (Int32 × Hp) :=
  bnd (up1 h 30 0 0) fun h_1 =>
  Option.bind (f_X12_throwsIf (b2i (f_X12_noAhead x1 h_1)) 1 h_1) fun r_3 =>
  if r_3.1 then
    some (0, r_3.2)
  else
    Option.bind (f_X12_keepsAll r_3.2) fun r_6 =>
    F_X12_span_28 x1 x2 FU (-1) 1 r_6
/-! LeanCityModel.ofLog (II)I -/
noncomputable def f_X12_ofLog (x1 : Int32) (x2 : Int32) (h : Hp) : Option Int32 :=
  gd (ix ((132 + (6 * x1)) + x2) 2190) (
  some (h 31 (((132 + (6 * x1)) + x2).toNatClampNeg)))
/-! LeanCityModel.led (IZ)I -/
noncomputable def S_X12_led_36 (x1 : Int32) (x2 : Int32) (q_36 : Int32 → Int32 → Int32 → Hp → Option (Int32 × Hp)) (x3 : Int32) (x4 : Int32) (x5 : Int32) (h : Hp) : Option (Int32 × Hp) :=
  if x5 < 0 then
    if x2 = 0 then
      some (x3, h)
    else
      some (x4, h)
  else
    Option.bind (f_X12_ofLog x5 2 h) fun r_3 =>
    if r_3 = x1 then
      Option.bind (f_X12_ofLog x5 0 h) fun r_6 =>
      q_36 (x3 + 1) r_6 (x5 + (-1)) h
    else
      q_36 x3 x4 (x5 + (-1)) h
noncomputable def F_X12_led_36 (x1 : Int32) (x2 : Int32) (n : Nat) : Int32 → Int32 → Int32 → Hp → Option (Int32 × Hp) :=
  Nat.rec (motive := fun _ => Int32 → Int32 → Int32 → Hp → Option (Int32 × Hp)) (fun _ _ _ _ => none) (fun _ q => S_X12_led_36 x1 x2 q) n
noncomputable def f_X12_led (x1 : Int32) (x2 : Int32) (h : Hp) : Option (Int32 × Hp) :=
  bnd (up1 h 30 0 0) fun h_1 =>
  Option.bind (f_X12_throwsIf (b2i (f_X12_noHouse x1 h_1)) 1 h_1) fun r_3 =>
  if r_3.1 then
    some (0, r_3.2)
  else
    bnd ((r_3.2 31 8) - 1) fun x5_6 =>
    F_X12_led_36 x1 x2 FU 0 (-1) x5_6 r_3.2
/-! LeanCityModel.log (II)I -/
noncomputable def F_X12_log_20 (x1 : Int32) (x2 : Int32) (t0 : Int32) (h : Hp) : Option (Int32 × Hp) :=
  Option.bind (f_X12_throwsIf t0 1 h) fun r_1 =>
  if r_1.1 then
    some (0, r_1.2)
  else
    if (f_X12_in x1 0 ((r_1.2 31 8) - 1) r_1.2) then
      Option.bind (f_X12_ofLog x1 x2 r_1.2) fun r_5 =>
      some (r_5, r_1.2)
    else
      some ((-1), r_1.2)
noncomputable def f_X12_log (x1 : Int32) (x2 : Int32) (h : Hp) : Option (Int32 × Hp) :=
  bnd (up1 h 30 0 0) fun h_1 =>
  if (f_X12_in x2 0 5 h_1) then
    F_X12_log_20 x1 x2 0 h_1
  else
    F_X12_log_20 x1 x2 1 h_1
/-! LeanCityModel.seed (I)I -/
noncomputable def f_X12_seed (x1 : Int32) (h : Hp) : Option (Int32 × Hp) :=
  bnd (up1 h 30 0 0) fun h_1 =>
  bnd (up1 h_1 31 9 x1) fun h_3 =>
  some (h_1 31 9, h_3)
/-! LeanCityModel.count (I)I -/
noncomputable def F_X12_count_106 (x1 : Int32) (h : Hp) : Option (Int32 × Hp) :=
  if (f_X12_in x1 0 7 h) then
    gd (ix x1 2190) (
    some (h 31 x1.toNatClampNeg, h))
  else
    some ((-1), h)
noncomputable def f_X12_count (x1 : Int32) (h : Hp) : Option (Int32 × Hp) :=
  bnd (up1 h 30 0 0) fun h_1 =>
  Option.bind (f_X12_lays h_1) fun r_3 =>
  if x1 = 3 then
    if (r_3 31 3) = 1 then
      some (r_3 31 492, r_3)
    else
      some ((-1), r_3)
  else if x1 = 4 then
    F_X12_count_106 x1 r_3
  else if x1 = 5 then
    F_X12_count_106 x1 r_3
  else if x1 = 6 then
    F_X12_count_106 x1 r_3
  else if x1 = 7 then
    F_X12_count_106 x1 r_3
  else if x1 = 8 then
    Option.bind (f_X12_standing r_3) fun r_12 =>
    some (r_12, r_3)
  else if x1 = 9 then
    Option.bind (f_X12_bearsAll r_3) fun r_15 =>
    some (r_15, r_3)
  else if x1 = 10 then
    some (r_3 31 8, r_3)
  else if x1 = 11 then
    some (r_3 30 7, r_3)
  else 
    F_X12_count_106 x1 r_3
