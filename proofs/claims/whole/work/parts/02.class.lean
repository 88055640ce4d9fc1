/-! The methods of the class as pure functions, by wip/gen out of the bytecode. -/
def cShell_within (F : Nat) (u : ZC) (v0 : Int) (v1 : Int) (v2 : Int) : Option (Int) :=
  some (zmax v0 (zmin v1 v2))
def cText_add (F : Nat) (u : ZC) (v0 : Nat) (v1 : Int) : Option (ZC) :=
  if zlT u v0 then (
  Option.bind ((
      if zI (cN u v0 : Int) ≤ zI (cI u 0 v0) then
        some (sI u 1 v0 1)
      else
      if zix (cI u 0 v0) (cN u v0) then (
      if zch v1 then (
      Option.bind (some (sI (sA u 0 v0 (cI u 0 v0).toNat v1) 0 v0 ((cI (sA u 0 v0 (cI u 0 v0).toNat v1) 0 v0) + 1))) fun (u1 : ZC) =>
      some (u1)) else none) else none) : Option (ZC)) fun (u2 : ZC) =>
  some u2) else none
def cText_addPacked_3 (F : Nat) : Nat → ZC → Nat → Int64 → Int → Option (ZC)
  | 0, _, _, _, _ => none
  | n + 1, u, v0, v1, v3 =>
    if zI v3 < 0 then
      some u
    else
    Option.bind ((
        if zI (zchr (zl2i ((zlushr v1 v3) &&& (255 : Int64)))) = 0 then
          some (u)
        else
        if zlT u v0 then (
        Option.bind (cText_add F u v0 (zchr (zl2i ((zlushr v1 v3) &&& (255 : Int64))))) fun (u1 : ZC) =>
        some (u1)) else none) : Option (ZC)) fun (u2 : ZC) =>
    cText_addPacked_3 F n u2 v0 v1 (v3 + (-8))
def cText_addPacked (F : Nat) (u : ZC) (v0 : Nat) (v1 : Int64) : Option (ZC) :=
  cText_addPacked_3 F F u v0 v1 56
def cShell_type_6 (F : Nat) : Nat → ZC → Int64 → Int → Int → Option (Int × ZC)
  | 0, _, _, _, _ => none
  | n + 1, u, v1, v3, v4 =>
    if zI v4 < 0 then
      if zI ((cI u 0 0) + v3) ≤ zI 64 then
        Option.bind (cText_addPacked F u 0 v1) fun (u1 : ZC) =>
        some (1, u1)
      else
      some (0, u)
    else
    Option.bind ((
        if zI (zand (zl2i (zlushr v1 v4)) 255) = 0 then
          some true
        else
        if zI (zand (zl2i (zlushr v1 v4)) 255) < zI 32 then
          some false
        else
        if zI (zand (zl2i (zlushr v1 v4)) 255) ≤ zI 126 then
          some true
        else
        some false) : Option (Bool)) fun (b2 : Bool) =>
    if b2 = true then
      Option.bind ((
          if ¬ zI (zand (zl2i (zlushr v1 v4)) 255) = 0 then
            some (1)
          else
          some (0)) : Option (Int)) fun (x3 : Int) =>
      cShell_type_6 F n u v1 (v3 + x3) (v4 + (-8))
    else
    some (0, u)
def cShell_type (F : Nat) (u : ZC) (v1 : Int64) : Option (Int × ZC) :=
  cShell_type_6 F F u v1 0 56
def cText_clear (F : Nat) (u : ZC) (v0 : Nat) : Option (ZC) :=
  if zlT u v0 then (
  some (sI (sI u 0 v0 0) 1 v0 0)) else none
def cShell_wipe (F : Nat) (u : ZC) : Option (ZC) :=
  Option.bind (cText_clear F u 0) fun (u1 : ZC) =>
  some u1
def cShell_typed (F : Nat) (u : ZC) : Option (Int) :=
  some (cI u 0 0)
def cTokens_kindOf (F : Nat) (u : ZC) (v1 : Int) : Option (Int) :=
  if zix v1 (cN u 0) then (
  Option.bind ((
      Option.bind ((
          if zI (cI u 0 0) ≤ zI (v1 + 1) then
            some true
          else
          if zix (v1 + 1) (cN u 0) then (
          if ¬ zI (cA u 0 0 (v1 + 1).toNat) = zI (cA u 0 0 v1.toNat) then
            some true
          else
          some false) else none) : Option (Bool)) fun (b1 : Bool) =>
      if b1 = true then
        some (0)
      else
      some (1)) : Option (Int)) fun (x2 : Int) =>
  if zI (cA u 0 0 v1.toNat) = 33 then
    some 4
  else
  if zI (cA u 0 0 v1.toNat) = 38 then
    Option.bind ((
        if zI x2 = 0 then
          some (11)
        else
        some (1)) : Option (Int)) fun (x3 : Int) =>
    some x3
  else
  if zI (cA u 0 0 v1.toNat) = 40 then
    some 5
  else
  if zI (cA u 0 0 v1.toNat) = 41 then
    some 6
  else
  if zI (cA u 0 0 v1.toNat) = 59 then
    some 0
  else
  if zI (cA u 0 0 v1.toNat) = 60 then
    some 7
  else
  if zI (cA u 0 0 v1.toNat) = 62 then
    Option.bind ((
        if zI x2 = 0 then
          some (8)
        else
        some (9)) : Option (Int)) fun (x4 : Int) =>
    some x4
  else
  if zI (cA u 0 0 v1.toNat) = 124 then
    Option.bind ((
        if zI x2 = 0 then
          some (3)
        else
        some (2)) : Option (Int)) fun (x5 : Int) =>
    some x5
  else
  some 10) else none
def cTokens_wordEnd_69 (F : Nat) (k4 : ZC → Int → Int → Option (Int)) (u : ZC) (v2 : Int) (v3 : Int) : Option (Int) :=
  k4 u v2 (v3 + 1)
def cTokens_wordEnd_4 (F : Nat) : Nat → ZC → Int → Int → Option (Int)
  | 0, _, _, _ => none
  | n + 1, u, v2, v3 =>
    if zI (cI u 0 0) ≤ zI v3 then
      Option.bind ((
          if zI v2 = 0 then
            some (cI u 0 0)
          else
          some ((cI u 0 0) + 1)) : Option (Int)) fun (x1 : Int) =>
      some x1
    else
    if zix v3 (cN u 0) then (
    if ¬ zI (cA u 0 0 v3.toNat) = zI 39 then
      Option.bind ((
          if ¬ zI v2 = 0 then
            some true
          else
          if zI (cA u 0 0 v3.toNat) = zI 32 then
            some false
          else
          Option.bind (cTokens_kindOf F u v3) fun (p2 : Int) =>
          if zI p2 = zI 10 then
            some true
          else
          some false) : Option (Bool)) fun (b3 : Bool) =>
      if b3 = true then
        cTokens_wordEnd_69 F (cTokens_wordEnd_4 F n) u v2 v3
      else
      some v3
    else
    Option.bind ((
        if ¬ zI v2 = 0 then
          some (0)
        else
        some (1)) : Option (Int)) fun (x4 : Int) =>
    cTokens_wordEnd_69 F (cTokens_wordEnd_4 F n) u x4 v3) else none
def cTokens_wordEnd (F : Nat) (u : ZC) (v1 : Int) : Option (Int) :=
  cTokens_wordEnd_4 F F u 0 v1
def cTokens_widthOf (F : Nat) (u : ZC) (v0 : Int) : Option (Int) :=
  Option.bind ((
      Option.bind ((
          if zI v0 = zI 1 then
            some true
          else
          if zI v0 = zI 2 then
            some true
          else
          if ¬ zI v0 = zI 9 then
            some false
          else
          some true) : Option (Bool)) fun (b1 : Bool) =>
      if b1 = true then
        some (2)
      else
      some (1)) : Option (Int)) fun (x2 : Int) =>
  some x2
def cTokens_cutLine_134 (F : Nat) (k7 : ZC → Int → Option (Int × ZC)) (u : ZC) (v1 : Int) (v2 : Int) : Option (Int × ZC) :=
  k7 u (zmax (v1 + 1) v2)
def cTokens_cutLine_7 (F : Nat) : Nat → ZC → Int → Option (Int × ZC)
  | 0, _, _ => none
  | n + 1, u, v1 =>
    if zI (cI u 0 0) ≤ zI v1 then
      some (1, u)
    else
    if zix v1 (cN u 0) then (
    if zI (cA u 0 0 v1.toNat) = zI 32 then
      cTokens_cutLine_134 F (cTokens_cutLine_7 F n) u v1 (v1 + 1)
    else
    Option.bind (cTokens_kindOf F u v1) fun (p1 : Int) =>
    Option.bind ((
        if ¬ zI p1 = zI 10 then
          Option.bind (cTokens_widthOf F u p1) fun (p2 : Int) =>
          some (v1 + p2)
        else
        Option.bind (cTokens_wordEnd F u v1) fun (p3 : Int) =>
        some (p3)) : Option (Int)) fun (x4 : Int) =>
    Option.bind ((
        if zI p1 = zI 11 then
          some true
        else
        if zI (cI u 0 0) < zI x4 then
          some true
        else
        if zI (cI u 2 0) < zI 64 then
          some false
        else
        some true) : Option (Bool)) fun (b5 : Bool) =>
    if b5 = true then
      some (0, u)
    else
    if zix (cI u 2 0) 64 then (
    if zix (cI (sA u 1 0 (cI u 2 0).toNat p1) 2 0) 64 then (
    Option.bind (some (sA (sA u 1 0 (cI u 2 0).toNat p1) 2 0 (cI (sA u 1 0 (cI u 2 0).toNat p1) 2 0).toNat v1)) fun (u6 : ZC) =>
    if zix (cI u6 2 0) 64 then (
    Option.bind (some (sI (sA u6 3 0 (cI u6 2 0).toNat x4) 2 0 ((cI (sA u6 3 0 (cI u6 2 0).toNat x4) 2 0) + 1))) fun (u7 : ZC) =>
    cTokens_cutLine_134 F (cTokens_cutLine_7 F n) u7 v1 x4) else none) else none) else none) else none
def cTokens_cutLine (F : Nat) (u : ZC) : Option (Int × ZC) :=
  cTokens_cutLine_7 F F (sI u 2 0 0) 0
def cTokens_kindAt (F : Nat) (u : ZC) (v1 : Int) : Option (Int) :=
  Option.bind ((
      Option.bind ((
          if zI v1 < 0 then
            some true
          else
          if zI (cI u 2 0) ≤ zI v1 then
            some true
          else
          some false) : Option (Bool)) fun (b1 : Bool) =>
      if b1 = true then
        some (11)
      else
      if zix v1 64 then (
      some (cA u 1 0 v1.toNat)) else none) : Option (Int)) fun (x2 : Int) =>
  some x2
def cTokens_isRedirection (F : Nat) (u : ZC) (v1 : Int) : Option (Int) :=
  Option.bind ((
      Option.bind ((
          if zI v1 < 0 then
            some true
          else
          if zI (cI u 2 0) ≤ zI v1 then
            some true
          else
          if zix v1 64 then (
          if zI (cA u 1 0 v1.toNat) < zI 7 then
            some true
          else
          if zI 9 < zI (cA u 1 0 v1.toNat) then
            some true
          else
          some false) else none) : Option (Bool)) fun (b1 : Bool) =>
      if b1 = true then
        some (0)
      else
      some (1)) : Option (Int)) fun (x2 : Int) =>
  if zbl x2 then (
  some x2) else none
def cGrammar_readRedirections_2 (F : Nat) : Nat → ZC → Int → Option (Int × ZC)
  | 0, _, _ => none
  | n + 1, u, v1 =>
    Option.bind ((
        if zI (cI u 2 0) ≤ zI v1 then
          some true
        else
        Option.bind (cTokens_isRedirection F u (cI u 3 0)) fun (p1 : Int) =>
        if zI p1 = 0 then
          some true
        else
        some false) : Option (Bool)) fun (b2 : Bool) =>
    if b2 = true then
      some (1, u)
    else
    Option.bind (cTokens_kindAt F u ((cI u 3 0) + 1)) fun (p3 : Int) =>
    if zI p3 = zI 10 then
      cGrammar_readRedirections_2 F n (sI u 3 0 ((cI u 3 0) + 2)) (v1 + 1)
    else
    some (0, u)
def cGrammar_readRedirections (F : Nat) (u : ZC) : Option (Int × ZC) :=
  cGrammar_readRedirections_2 F F u 0
def cGrammar_readSimple_4 (F : Nat) : Nat → ZC → Int → Int → Option (Int × ZC)
  | 0, _, _, _ => none
  | n + 1, u, v1, v2 =>
    if zI (cI u 2 0) ≤ zI v2 then
      if zbl v1 then (
      some (v1, u)) else none
    else
    zb2 (cGrammar_readRedirections F u) fun (p1 : Int) (u2 : ZC) =>
    if ¬ zI p1 = 0 then
      Option.bind (cTokens_kindAt F u2 (cI u2 3 0)) fun (p3 : Int) =>
      if zI p3 = zI 10 then
        cGrammar_readSimple_4 F n (sI u2 3 0 ((cI u2 3 0) + 1)) 1 (v2 + 1)
      else
      if zbl v1 then (
      some (v1, u2)) else none
    else
    some (0, u2)
def cGrammar_readSimple (F : Nat) (u : ZC) : Option (Int × ZC) :=
  cGrammar_readSimple_4 F F u 0 0
def cGrammar_readCommand (F : Nat) (rec : ZC → Int → Option (Int × ZC)) (u : ZC) (v1 : Int) : Option (Int × ZC) :=
  Option.bind (cTokens_kindAt F u (cI u 3 0)) fun (p1 : Int) =>
  if zI p1 = zI 5 then
    zb2 (rec (sI u 3 0 ((cI u 3 0) + 1)) (v1 + 1)) fun (p2 : Int) (u3 : ZC) =>
    Option.bind ((
        if zI p2 = 0 then
          some true
        else
        Option.bind (cTokens_kindAt F u3 (cI u3 3 0)) fun (p4 : Int) =>
        if zI p4 = zI 6 then
          some false
        else
        some true) : Option (Bool)) fun (b5 : Bool) =>
    if b5 = true then
      some (0, u3)
    else
    zb2 (cGrammar_readRedirections F (sI u3 3 0 ((cI u3 3 0) + 1))) fun (p6 : Int) (u7 : ZC) =>
    if zbl p6 then (
    some (p6, u7)) else none
  else
  zb2 (cGrammar_readSimple F u) fun (p8 : Int) (u9 : ZC) =>
  if zbl p8 then (
  some (p8, u9)) else none
def cGrammar_readPipeline_27 (F : Nat) (rec : ZC → Int → Option (Int × ZC)) : Nat → ZC → Int → Int → Option (Int × ZC)
  | 0, _, _, _ => none
  | n + 1, u, v1, v2 =>
    if zI (cI u 2 0) ≤ zI v2 then
      some (0, u)
    else
    zb2 (cGrammar_readCommand F rec u v1) fun (p3 : Int) (u4 : ZC) =>
    if ¬ zI p3 = 0 then
      Option.bind (cTokens_kindAt F u4 (cI u4 3 0)) fun (p5 : Int) =>
      if zI p5 = zI 3 then
        cGrammar_readPipeline_27 F rec n (sI u4 3 0 ((cI u4 3 0) + 1)) v1 (v2 + 1)
      else
      some (1, u4)
    else
    some (0, u4)
def cGrammar_readPipeline (F : Nat) (rec : ZC → Int → Option (Int × ZC)) (u : ZC) (v1 : Int) : Option (Int × ZC) :=
  Option.bind (cTokens_kindAt F u (cI u 3 0)) fun (p1 : Int) =>
  Option.bind ((
      if ¬ zI p1 = zI 4 then
        some (u)
      else
      some (sI u 3 0 ((cI u 3 0) + 1))) : Option (ZC)) fun (u2 : ZC) =>
  cGrammar_readPipeline_27 F rec F u2 v1 0
def cGrammar_isListEnd (F : Nat) (u : ZC) : Option (Int) :=
  Option.bind (cTokens_kindAt F u (cI u 3 0)) fun (p1 : Int) =>
  Option.bind ((
      Option.bind ((
          if zI p1 = zI 6 then
            some true
          else
          if ¬ zI p1 = zI 11 then
            some false
          else
          some true) : Option (Bool)) fun (b2 : Bool) =>
      if b2 = true then
        some (1)
      else
      some (0)) : Option (Int)) fun (x3 : Int) =>
  if zbl x3 then (
  some x3) else none
def cGrammar_readList_17 (F : Nat) (rec : ZC → Int → Option (Int × ZC)) : Nat → ZC → Int → Int → Option (Int × ZC)
  | 0, _, _, _ => none
  | n + 1, u, v1, v2 =>
    if zI (cI u 2 0) ≤ zI v2 then
      some (1, u)
    else
    Option.bind (cTokens_kindAt F u (cI u 3 0)) fun (p3 : Int) =>
    if zI p3 ≤ zI 2 then
      Option.bind ((
          if ¬ zI p3 = 0 then
            some true
          else
          Option.bind (cGrammar_isListEnd F (sI u 3 0 ((cI u 3 0) + 1))) fun (p4 : Int) =>
          if zI p4 = 0 then
            some true
          else
          some false) : Option (Bool)) fun (b5 : Bool) =>
      if b5 = true then
        zb2 (cGrammar_readPipeline F rec (sI u 3 0 ((cI u 3 0) + 1)) v1) fun (p6 : Int) (u7 : ZC) =>
        if ¬ zI p6 = 0 then
          cGrammar_readList_17 F rec n u7 v1 (v2 + 1)
        else
        some (0, u7)
      else
      some (1, sI u 3 0 ((cI u 3 0) + 1))
    else
    some (1, u)
def cGrammar_readList (F : Nat) : Nat → ZC → Int → Option (Int × ZC)
  | 0, _, _ => none
  | d + 1, u, v1 =>
    if zI 4 < zI v1 then
      some (0, u)
    else
    zb2 (cGrammar_readPipeline F (cGrammar_readList F d) u v1) fun (p1 : Int) (u2 : ZC) =>
    if ¬ zI p1 = 0 then
      cGrammar_readList_17 F (cGrammar_readList F d) F u2 v1 0
    else
    some (0, u2)
def cGrammar_accepts (F : Nat) (u : ZC) : Option (Int × ZC) :=
  zb2 (cTokens_cutLine F u) fun (p1 : Int) (u2 : ZC) =>
  if ¬ zI p1 = 0 then
    zb2 ((
        if zI (cI (sI u2 3 0 0) 2 0) = 0 then
          some (1, sI u2 3 0 0)
        else
        zb2 (cGrammar_readList F 6 (sI u2 3 0 0) 0) fun (p3 : Int) (u4 : ZC) =>
        Option.bind ((
            if zI p3 = 0 then
              some true
            else
            if ¬ zI (cI u4 3 0) = zI (cI u4 2 0) then
              some true
            else
            some false) : Option (Bool)) fun (b5 : Bool) =>
        if b5 = true then
          some (0, u4)
        else
        some (1, u4)) : Option (Int × ZC)) fun (x6 : Int) (u7 : ZC) =>
    if zbl x6 then (
    some (x6, u7)) else none
  else
  some (0, u2)
def cTokens_countWords_4 (F : Nat) : Nat → ZC → Int → Int → Option (Int)
  | 0, _, _, _ => none
  | n + 1, u, v1, v2 =>
    if zI (cI u 2 0) ≤ zI v2 then
      some v1
    else
    if zix v2 64 then (
    Option.bind ((
        if ¬ zI (cA u 1 0 v2.toNat) = zI 10 then
          some (0)
        else
        some (1)) : Option (Int)) fun (x1 : Int) =>
    cTokens_countWords_4 F n u (v1 + x1) (v2 + 1)) else none
def cTokens_countWords (F : Nat) (u : ZC) : Option (Int) :=
  cTokens_countWords_4 F F u 0 0
def cShell_check (F : Nat) (u : ZC) : Option (Int × ZC) :=
  zb2 (cGrammar_accepts F u) fun (p1 : Int) (u2 : ZC) =>
  Option.bind ((
      if zI p1 = 0 then
        some ((-1))
      else
      Option.bind (cTokens_countWords F u2) fun (p3 : Int) =>
      some (p3)) : Option (Int)) fun (x4 : Int) =>
  some (x4, u2)
def cRunner_forget (F : Nat) (u : ZC) : Option (ZC) :=
  if zix 0 5 then (
  Option.bind (cText_clear F u (3 + 4 * 0)) fun (u1 : ZC) =>
  some (sI u1 9 0 0)) else none
def cTokens_find_6 (F : Nat) : Nat → ZC → Int → Int → Int → Int → Int → Option (Int)
  | 0, _, _, _, _, _, _ => none
  | n + 1, u, v2, v3, v4, v5, v6 =>
    if zI v2 ≤ zI v6 then
      some v2
    else
    Option.bind (cTokens_kindAt F u v6) fun (p1 : Int) =>
    Option.bind ((
        if ¬ zI v5 = 0 then
          some true
        else
        if zI p1 < zI v3 then
          some true
        else
        if zI v4 < zI p1 then
          some true
        else
        some false) : Option (Bool)) fun (b2 : Bool) =>
    if b2 = true then
      Option.bind ((
          if ¬ zI p1 = zI 5 then
            if ¬ zI p1 = zI 6 then
              some (v5)
            else
            some (v5 + (-1))
          else
          some (v5 + 1)) : Option (Int)) fun (x3 : Int) =>
      cTokens_find_6 F n u v2 v3 v4 x3 (v6 + 1)
    else
    some v6
def cTokens_find (F : Nat) (u : ZC) (v1 : Int) (v2 : Int) (v3 : Int) (v4 : Int) : Option (Int) :=
  cTokens_find_6 F F u v2 v3 v4 0 v1
def cRunner_isDue (F : Nat) (u : ZC) (v1 : Int) : Option (Int) :=
  if ¬ zI v1 = zI 1 then
    Option.bind ((
        Option.bind ((
            if ¬ zI v1 = zI 2 then
              some true
            else
            if zI (cI u 8 0) = 0 then
              some false
            else
            some true) : Option (Bool)) fun (b1 : Bool) =>
        if b1 = true then
          some (1)
        else
        some (0)) : Option (Int)) fun (x2 : Int) =>
    if zbl x2 then (
    some x2) else none
  else
  Option.bind ((
      if ¬ zI (cI u 8 0) = 0 then
        some (0)
      else
      some (1)) : Option (Int)) fun (x3 : Int) =>
  if zbl x3 then (
  some x3) else none
def cWords_clear (F : Nat) (u : ZC) : Option (ZC) :=
  Option.bind (cText_clear F u 1) fun (u1 : ZC) =>
  some (sI u1 10 0 0)
def cText_addNumber_20 (F : Nat) : Nat → ZC → Nat → Int → Int → Option (ZC)
  | 0, _, _, _, _ => none
  | n + 1, u, v0, v1, v3 =>
    if zI v3 ≤ 0 then
      some u
    else
    if ¬ zI v3 = 0 then (
    if zlT u v0 then (
    Option.bind (cText_add F u v0 (zchr (48 + (zrem (zdiv v1 v3) 10)))) fun (u1 : ZC) =>
    cText_addNumber_20 F n u1 v0 v1 (zdiv v3 10)) else none) else none
def cText_addNumber_2 (F : Nat) : Nat → ZC → Nat → Int → Int → Option (ZC)
  | 0, _, _, _, _ => none
  | n + 1, u, v0, v1, v2 =>
    if zI (zdiv v1 10) < zI v2 then
      cText_addNumber_20 F F u v0 v1 v2
    else
    cText_addNumber_2 F n u v0 v1 (v2 * 10)
def cText_addNumber (F : Nat) (u : ZC) (v0 : Nat) (v1 : Int) : Option (ZC) :=
  cText_addNumber_2 F F u v0 v1 1
def cWords_add_51 (F : Nat) : Nat → ZC → Int → Int → Int → Int → Option (ZC)
  | 0, _, _, _, _, _ => none
  | n + 1, u, v3, v5, v6, v7 =>
    if zI v5 ≤ zI v7 then
      if zix (cI u 10 0) 64 then (
      Option.bind (some (sI (sA u 4 0 (cI u 10 0).toNat (cI u 0 1)) 10 0 ((cI (sA u 4 0 (cI u 10 0).toNat (cI u 0 1)) 10 0) + 1))) fun (u3 : ZC) =>
      some u3) else none
    else
    if zix v7 (cN u 0) then (
    zb3 ((
        if ¬ zI (cA u 0 0 v7.toNat) = zI 39 then
          Option.bind ((
              if ¬ zI (cA u 0 0 v7.toNat) = zI 36 then
                some true
              else
              if ¬ zI v6 = 0 then
                some true
              else
              if zI v5 ≤ zI (v7 + 1) then
                some true
              else
              if zix (v7 + 1) (cN u 0) then (
              if ¬ zI (cA u 0 0 (v7 + 1).toNat) = zI 63 then
                some true
              else
              some false) else none) : Option (Bool)) fun (b4 : Bool) =>
          if b4 = true then
            Option.bind (cText_add F u 1 (cA u 0 0 v7.toNat)) fun (u5 : ZC) =>
            some (v6, v7, u5)
          else
          Option.bind (cText_addNumber F u 1 v3) fun (u6 : ZC) =>
          some (v6, v7 + 1, u6)
        else
        Option.bind ((
            if ¬ zI v6 = 0 then
              some (0)
            else
            some (1)) : Option (Int)) fun (x7 : Int) =>
        some (x7, v7, u)) : Option (Int × Int × ZC)) fun (x8 : Int) (x9 : Int) (u10 : ZC) =>
    cWords_add_51 F n u10 v3 v5 x8 (x9 + 1)) else none
def cWords_add (F : Nat) (u : ZC) (v2 : Int) (v3 : Int) : Option (ZC) :=
  Option.bind (cTokens_kindAt F u v2) fun (p1 : Int) =>
  Option.bind ((
      if ¬ zI p1 = zI 10 then
        some true
      else
      if zI (cI u 10 0) < zI 64 then
        some false
      else
      some true) : Option (Bool)) fun (b2 : Bool) =>
  if b2 = true then
    some u
  else
  if zix v2 64 then (
  cWords_add_51 F F u v3 (cA u 3 0 v2.toNat) 0 (cA u 2 0 v2.toNat)) else none
def cWords_startOf (F : Nat) (u : ZC) (v1 : Int) : Option (Int) :=
  Option.bind ((
      Option.bind ((
          if zI v1 ≤ 0 then
            some true
          else
          if zI (cI u 10 0) < zI v1 then
            some true
          else
          some false) : Option (Bool)) fun (b1 : Bool) =>
      if b1 = true then
        some (0)
      else
      if zix (v1 - 1) 64 then (
      some (cA u 4 0 (v1 - 1).toNat)) else none) : Option (Int)) fun (x2 : Int) =>
  some x2
def cWords_endOf (F : Nat) (u : ZC) (v1 : Int) : Option (Int) :=
  Option.bind ((
      Option.bind ((
          if zI v1 < 0 then
            some true
          else
          if zI (cI u 10 0) ≤ zI v1 then
            some true
          else
          some false) : Option (Bool)) fun (b1 : Bool) =>
      if b1 = true then
        some (0)
      else
      if zix v1 64 then (
      some (cA u 4 0 v1.toNat)) else none) : Option (Int)) fun (x2 : Int) =>
  some x2
def cTree_isNameLetter (F : Nat) (u : ZC) (v0 : Int) : Option (Int) :=
  Option.bind ((
      Option.bind ((
          if zI v0 < zI 97 then
            if zI v0 < zI 48 then
              if zI v0 = zI 95 then
                some true
              else
              if ¬ zI v0 = zI 46 then
                some false
              else
              some true
            else
            if zI v0 ≤ zI 57 then
              some true
            else
            if zI v0 = zI 95 then
              some true
            else
            if ¬ zI v0 = zI 46 then
              some false
            else
            some true
          else
          if zI v0 ≤ zI 122 then
            some true
          else
          if zI v0 < zI 48 then
            if zI v0 = zI 95 then
              some true
            else
            if ¬ zI v0 = zI 46 then
              some false
            else
            some true
          else
          if zI v0 ≤ zI 57 then
            some true
          else
          if zI v0 = zI 95 then
            some true
          else
          if ¬ zI v0 = zI 46 then
            some false
          else
          some true) : Option (Bool)) fun (b1 : Bool) =>
      if b1 = true then
        some (1)
      else
      some (0)) : Option (Int)) fun (x2 : Int) =>
  if zbl x2 then (
  some x2) else none
def cTree_followPiece_116 (F : Nat) : Nat → ZC → Option Nat → Option Nat → Option (ZC)
  | 0, _, _, _ => none
  | n + 1, u, v5, v6 =>
    Option.elim v6 (
        Option.bind (some (cP u 2 0)) fun (o17 : Option Nat) =>
        Option.bind ((
            Option.elim o17 (
                some (v5)) fun (n18 : Nat) =>
            some (none)) : Option (Option Nat)) fun (x19 : Option Nat) =>
        some (sP u 3 0 x19)) fun (n16 : Nat) =>
    if zlN u n16 then (
    Option.bind (some (cP u 5 n16)) fun (o20 : Option Nat) =>
    Option.bind ((
        Option.bind ((
            if zlO u o20 then (
            if zlO u v5 then (
            if ¬ (o20 = v5) then
              some true
            else
            if ¬ (cJ u 0 n16) = (cJ u 1 0) then
              some true
            else
            some false) else none) else none) : Option (Bool)) fun (b21 : Bool) =>
        if b21 = true then
          some (u)
        else
        some (sP u 2 0 (some n16))) : Option (ZC)) fun (u22 : ZC) =>
    if zlN u22 n16 then (
    Option.bind (some (cP u22 7 n16)) fun (o23 : Option Nat) =>
    cTree_followPiece_116 F n u22 v5 o23) else none) else none
def cTree_followPiece (F : Nat) (u : ZC) (v1 : Int64) (v3 : Int) (v4 : Int) : Option (ZC) :=
  Option.bind ((
      if zI v3 = 0 then
        some true
      else
      if ¬ zI v3 = zI 1 then
        some false
      else
      if ¬ v1 = (46 : Int64) then
        some false
      else
      some true) : Option (Bool)) fun (b1 : Bool) =>
  if b1 = true then
    some u
  else
  Option.bind (some (cP u 2 0)) fun (o2 : Option Nat) =>
  Option.bind ((
      Option.elim o2 (
          some true) fun (n3 : Nat) =>
      if zlN (sP (sP u 2 0 none) 3 0 none) n3 then (
      Option.bind (some (cP (sP (sP u 2 0 none) 3 0 none) 6 n3)) fun (o4 : Option Nat) =>
      Option.elim o4 (
          some false) fun (n5 : Nat) =>
      some true) else none) : Option (Bool)) fun (b6 : Bool) =>
  if b6 = true then
    some (sP (sP u 2 0 none) 3 0 none)
  else
  Option.bind ((
      if ¬ zI v3 = zI 2 then
        some true
      else
      if ¬ v1 = (11822 : Int64) then
        some true
      else
      some false) : Option (Bool)) fun (b7 : Bool) =>
  if b7 = true then
    Option.bind ((
        if zI 7 < zI v3 then
          some true
        else
        if zI v4 = 0 then
          some true
        else
        some false) : Option (Bool)) fun (b8 : Bool) =>
    if b8 = true then
      some (sP (sP u 2 0 none) 3 0 none)
    else
    Option.bind (some (sJ (sP (sP u 2 0 none) 3 0 none) 1 0 (zlshl v1 (8 * (7 - v3))))) fun (u9 : ZC) =>
    Option.bind (some (cP u9 0 0)) fun (o10 : Option Nat) =>
    cTree_followPiece_116 F F u9 o2 o10
  else
  Option.elim o2 none fun (n11 : Nat) =>
  if zlN (sP (sP u 2 0 none) 3 0 none) n11 then (
  Option.bind (some (cP (sP (sP u 2 0 none) 3 0 none) 5 n11)) fun (o12 : Option Nat) =>
  Option.bind ((
      Option.elim o12 (
          some ((some n11))) fun (n13 : Nat) =>
      Option.bind (some (cP (sP (sP u 2 0 none) 3 0 none) 5 n11)) fun (o14 : Option Nat) =>
      some (o14)) : Option (Option Nat)) fun (x15 : Option Nat) =>
  some (sP (sP (sP u 2 0 none) 3 0 none) 2 0 x15)) else none
def cTree_follow_71 (F : Nat) : Nat → ZC → Int → Int64 → Int → Int → Int → Option (Option Nat × ZC)
  | 0, _, _, _, _, _, _ => none
  | n + 1, u, v5, v6, v8, v9, v10 =>
    if zI v5 < zI v10 then
      Option.bind (some (cP u 2 0)) fun (o6 : Option Nat) =>
      some (o6, u)
    else
    zb4 ((
        Option.bind ((
            if zI v5 ≤ zI v10 then
              some true
            else
            if zix v10 (cN u 1) then (
            if zI (cA u 0 1 v10.toNat) = zI 47 then
              some true
            else
            some false) else none) : Option (Bool)) fun (b7 : Bool) =>
        if b7 = true then
          Option.bind (cTree_followPiece F u v6 v8 v9) fun (u8 : ZC) =>
          some ((0 : Int64), 0, 1, u8)
        else
        if zix v10 (cN u 1) then (
        Option.bind ((
            Option.bind ((
                if zI v9 = 0 then
                  some true
                else
                Option.bind (cTree_isNameLetter F u (cA u 0 1 v10.toNat)) fun (p9 : Int) =>
                if zI p9 = 0 then
                  some true
                else
                some false) : Option (Bool)) fun (b10 : Bool) =>
            if b10 = true then
              some (0)
            else
            some (1)) : Option (Int)) fun (x11 : Int) =>
        some ((zlshl v6 8) ||| (zi2l (cA u 0 1 v10.toNat)), v8 + 1, x11, u)) else none) : Option (Int64 × Int × Int × ZC)) fun (x12 : Int64) (x13 : Int) (x14 : Int) (u15 : ZC) =>
    cTree_follow_71 F n u15 v5 x12 x13 x14 (v10 + 1)
def cTree_follow (F : Nat) (u : ZC) (v2 : Int) : Option (Option Nat × ZC) :=
  Option.bind (cWords_startOf F u v2) fun (p1 : Int) =>
  Option.bind (cWords_endOf F u v2) fun (p2 : Int) =>
  Option.bind ((
      Option.bind ((
          if zI p2 ≤ zI p1 then
            some true
          else
          if zix p1 (cN u 1) then (
          if ¬ zI (cA u 0 1 p1.toNat) = zI 47 then
            some true
          else
          some false) else none) : Option (Bool)) fun (b3 : Bool) =>
      if b3 = true then
        Option.bind (some (cP u 1 0)) fun (o4 : Option Nat) =>
        some (o4)
      else
      some ((some 0))) : Option (Option Nat)) fun (x5 : Option Nat) =>
  cTree_follow_71 F F (sP (sP u 2 0 x5) 3 0 none) p2 (0 : Int64) 0 1 p1
def cText_addPiece (F : Nat) (u : ZC) (v0 : Nat) (v1 : Nat) (v2 : Int) (v3 : Int) : Option (Int × ZC) :=
  Option.bind ((
      if zI v2 < 0 then
        some true
      else
      if zI (v3 - v2) < 0 then
        some true
      else
      if zlT u v1 then (
      if zI (cI u 0 v1) < zI v3 then
        some true
      else
      if zlT u v0 then (
      if zI (v3 - v2) ≤ zI ((cN u v0 : Int) - (cI u 0 v0)) then
        some false
      else
      some true) else none) else none) : Option (Bool)) fun (b1 : Bool) =>
  if b1 = true then
    if zlT u v0 then (
    some (0, sI u 1 v0 1)) else none
  else
  if zlT u v1 then (
  if zlT u v0 then (
  if zcp u v1 v2 v0 (cI u 0 v0) (v3 - v2) then (
  Option.bind (some (sI (sCopy u v1 v2.toNat v0 (cI u 0 v0).toNat (v3 - v2).toNat) 0 v0 ((cI (sCopy u v1 v2.toNat v0 (cI u 0 v0).toNat (v3 - v2).toNat) 0 v0) + (v3 - v2)))) fun (u2 : ZC) =>
  some (1, u2)) else none) else none) else none
def cText_addAll (F : Nat) (u : ZC) (v0 : Nat) (v1 : Nat) : Option (Int × ZC) :=
  if zlT u v1 then (
  if zlT u v0 then (
  zb2 (cText_addPiece F u v0 v1 0 (cI u 0 v1)) fun (p1 : Int) (u2 : ZC) =>
  if zbl p1 then (
  some (p1, u2)) else none) else none) else none
def cRunner_redirectInput (F : Nat) (u : ZC) (v1 : Nat) : Option (Int × ZC) :=
  Option.bind (some (cP u 2 0)) fun (o1 : Option Nat) =>
  Option.bind ((
      Option.elim o1 (
          some true) fun (n2 : Nat) =>
      if zlN u n2 then (
      Option.bind (some (cP u 6 n2)) fun (o3 : Option Nat) =>
      Option.elim o3 (
          some true) fun (n4 : Nat) =>
      some false) else none) : Option (Bool)) fun (b5 : Bool) =>
  if b5 = true then
    some (1, u)
  else
  if v1 < 5 then (
  Option.bind (cText_clear F u (6 + 4 * v1)) fun (u6 : ZC) =>
  Option.elim o1 none fun (n7 : Nat) =>
  if zlN u6 n7 then (
  Option.bind (some (cP u6 6 n7)) fun (o8 : Option Nat) =>
  Option.elim o8 none fun (n9 : Nat) =>
  zb2 (cText_addAll F u6 (6 + 4 * v1) n9) fun (p10 : Int) (u11 : ZC) =>
  some (0, sI u11 11 v1 1)) else none) else none
def cTree_empty (F : Nat) (u : ZC) (v1 : Nat) : Option (ZC) :=
  if zlT u v1 then (
  Option.bind (cText_clear F (sI u 7 0 ((cI u 7 0) - (cI u 0 v1))) v1) fun (u1 : ZC) =>
  some u1) else none
def cRunner_redirectOutput_34 (F : Nat) (u : ZC) (v1 : Nat) (v2 : Int) (v3 : Option Nat) : Option (Int × ZC) :=
  Option.bind ((
      Option.elim v3 (
          some true) fun (n7 : Nat) =>
      if zlN u n7 then (
      Option.bind (some (cP u 6 n7)) fun (o8 : Option Nat) =>
      Option.elim o8 (
          some true) fun (n9 : Nat) =>
      some false) else none) : Option (Bool)) fun (b10 : Bool) =>
  if b10 = true then
    some (1, u)
  else
  Option.bind ((
      if zI v2 = 0 then
        some (u)
      else
      Option.elim v3 none fun (n11 : Nat) =>
      if zlN u n11 then (
      Option.bind (some (cP u 6 n11)) fun (o12 : Option Nat) =>
      Option.elim o12 none fun (n13 : Nat) =>
      Option.bind (cTree_empty F u n13) fun (u14 : ZC) =>
      some (u14)) else none) : Option (ZC)) fun (u15 : ZC) =>
  Option.elim v3 none fun (n16 : Nat) =>
  if zlN u15 n16 then (
  Option.bind (some (cP u15 6 n16)) fun (o17 : Option Nat) =>
  if v1 < 5 then (
  some (0, sP u15 4 v1 o17)) else none) else none
def cRunner_redirectOutput (F : Nat) (u : ZC) (v1 : Nat) (v2 : Int) : Option (Int × ZC) :=
  Option.bind (some (cP u 2 0)) fun (o1 : Option Nat) =>
  Option.bind (some (cP u 3 0)) fun (o2 : Option Nat) =>
  Option.elim o2 (
      cRunner_redirectOutput_34 F u v1 v2 o1) fun (n3 : Nat) =>
  if v1 < 5 then (
  zb2 (cTree_make F u 1) fun (p4 : Option Nat) (u5 : ZC) =>
  Option.elim p4 (
      some (100, u5)) fun (n6 : Nat) =>
  cRunner_redirectOutput_34 F u5 v1 v2 (some n6)) else none
def cRunner_redirect_6 (F : Nat) : Nat → ZC → Int → Nat → Int → Int → Option (Int × ZC)
  | 0, _, _, _, _, _ => none
  | n + 1, u, v2, v3, v4, v5 =>
    Option.bind ((
        if zI v2 ≤ zI v5 then
          some true
        else
        if ¬ zI v4 = 0 then
          some true
        else
        some false) : Option (Bool)) fun (b1 : Bool) =>
    if b1 = true then
      some (v4, u)
    else
    Option.bind (cTokens_isRedirection F u v5) fun (p2 : Int) =>
    zb2 ((
        if zI p2 = 0 then
          some (v4, u)
        else
        Option.bind (cWords_clear F u) fun (u3 : ZC) =>
        Option.bind (cWords_add F u3 (v5 + 1) (cI u3 8 0)) fun (u4 : ZC) =>
        zb2 (cTree_follow F u4 0) fun (p5 : Option Nat) (u6 : ZC) =>
        Option.bind (cTokens_kindAt F u6 v5) fun (p7 : Int) =>
        zb2 ((
            if ¬ zI p7 = zI 7 then
              Option.bind (cTokens_kindAt F u6 v5) fun (p8 : Int) =>
              Option.bind ((
                  if ¬ zI p8 = zI 8 then
                    some (0)
                  else
                  some (1)) : Option (Int)) fun (x9 : Int) =>
              if v3 < 5 then (
              zb2 (cRunner_redirectOutput F u6 v3 x9) fun (p10 : Int) (u11 : ZC) =>
              some (p10, u11)) else none
            else
            zb2 (cRunner_redirectInput F u6 v3) fun (p12 : Int) (u13 : ZC) =>
            some (p12, u13)) : Option (Int × ZC)) fun (x14 : Int) (u15 : ZC) =>
        some (x14, u15)) : Option (Int × ZC)) fun (x16 : Int) (u17 : ZC) =>
    cRunner_redirect_6 F n u17 v2 v3 x16 (v5 + 1)
def cRunner_redirect (F : Nat) (u : ZC) (v1 : Int) (v2 : Int) (v3 : Nat) : Option (Int × ZC) :=
  cRunner_redirect_6 F F u v2 v3 0 v1
def cRunner_runGroup (F : Nat) (rec : ZC → Int → Int → Int → Nat → Option (Int × ZC)) (u : ZC) (v1 : Int) (v2 : Int) (v3 : Int) (v4 : Nat) : Option (Int × ZC) :=
  Option.bind (some (cP u 1 0)) fun (o1 : Option Nat) =>
  if zlO u o1 then (
  zb2 (rec u v1 v2 (v3 + 1) v4) fun (p2 : Int) (u3 : ZC) =>
  if ¬ zI p2 = 0 then
    if zix v3 5 then (
    if zix (v3 + 1) 5 then (
    zb2 (cText_addAll F (sP u3 1 0 o1) (4 + 4 * v3.toNat) (3 + 4 * (v3 + 1).toNat)) fun (p4 : Int) (u5 : ZC) =>
    some (cI u5 8 0, u5)) else none) else none
  else
  some (100, sP u3 1 0 o1)) else none
def cRunner_takeWords_9 (F : Nat) : Nat → ZC → Int → Int → Option (ZC)
  | 0, _, _, _ => none
  | n + 1, u, v2, v3 =>
    if zI v2 ≤ zI v3 then
      some u
    else
    Option.bind (cTokens_isRedirection F u (v3 - 1)) fun (p2 : Int) =>
    Option.bind ((
        if ¬ zI p2 = 0 then
          some (u)
        else
        Option.bind (cWords_add F u v3 (cI u 8 0)) fun (u3 : ZC) =>
        some (u3)) : Option (ZC)) fun (u4 : ZC) =>
    cRunner_takeWords_9 F n u4 v2 (v3 + 1)
def cRunner_takeWords (F : Nat) (u : ZC) (v1 : Int) (v2 : Int) : Option (ZC) :=
  Option.bind (cWords_clear F u) fun (u1 : ZC) =>
  cRunner_takeWords_9 F F u1 v2 v1
def cWords_has_33 (F : Nat) : Nat → ZC → Nat → Int → Int → Option (Int)
  | 0, _, _, _, _ => none
  | n + 1, u, v2, v3, v4 =>
    if zI (strN v2 : Int) ≤ zI v4 then
      some 1
    else
    if zix (v3 + v4) (cN u 1) then (
    if zix v4 (strN v2) then (
    if zI (cA u 0 1 (v3 + v4).toNat) = zI (strC v2 v4.toNat) then
      cWords_has_33 F n u v2 v3 (v4 + 1)
    else
    some 0) else none) else none
def cWords_has (F : Nat) (u : ZC) (v1 : Int) (v2 : Nat) : Option (Int) :=
  Option.bind (cWords_startOf F u v1) fun (p1 : Int) =>
  Option.bind ((
      if zI (cI u 10 0) ≤ zI v1 then
        some true
      else
      Option.bind (cWords_endOf F u v1) fun (p2 : Int) =>
      if zI (p2 - p1) = zI (strN v2 : Int) then
        some false
      else
      some true) : Option (Bool)) fun (b3 : Bool) =>
  if b3 = true then
    some 0
  else
  cWords_has_33 F F u v2 p1 0
def cTools_echo_24 (F : Nat) : Nat → ZC → Nat → Int → Int → Int → Option (Int × ZC)
  | 0, _, _, _, _, _ => none
  | n + 1, u, v1, v2, v3, v4 =>
    if zI (cI u 10 0) ≤ zI v4 then
      Option.bind ((
          if ¬ zI v2 = 0 then
            some (u)
          else
          if zlT u v1 then (
          Option.bind (cText_add F u v1 10) fun (u3 : ZC) =>
          some (u3)) else none) : Option (ZC)) fun (u4 : ZC) =>
      some (0, u4)
    else
    Option.bind ((
        if zI v4 ≤ zI v3 then
          some (u)
        else
        if zlT u v1 then (
        Option.bind (cText_add F u v1 32) fun (u5 : ZC) =>
        some (u5)) else none) : Option (ZC)) fun (u6 : ZC) =>
    Option.bind (cWords_startOf F u6 v4) fun (p7 : Int) =>
    Option.bind (cWords_endOf F u6 v4) fun (p8 : Int) =>
    if zlT u6 v1 then (
    zb2 (cText_addPiece F u6 v1 1 p7 p8) fun (p9 : Int) (u10 : ZC) =>
    cTools_echo_24 F n u10 v1 v2 v3 (v4 + 1)) else none
def cTools_echo (F : Nat) (u : ZC) (v1 : Nat) : Option (Int × ZC) :=
  Option.bind (cWords_has F u 1 0) fun (p1 : Int) =>
  Option.bind ((
      if zI p1 = 0 then
        some (1)
      else
      some (2)) : Option (Int)) fun (x2 : Int) =>
  cTools_echo_24 F F u v1 p1 x2 x2
def cTools_contentOf (F : Nat) (u : ZC) (v0 : Option Nat) : Option (Option Nat) :=
  Option.bind ((
      Option.elim v0 (
          some (none)) fun (n1 : Nat) =>
      if zlN u n1 then (
      Option.bind (some (cP u 6 n1)) fun (o2 : Option Nat) =>
      some (o2)) else none) : Option (Option Nat)) fun (x3 : Option Nat) =>
  some x3
def cTools_cat_64 (F : Nat) : Nat → ZC → Nat → Int → Option (Int × ZC)
  | 0, _, _, _ => none
  | n + 1, u, v2, v3 =>
    if zI (cI u 10 0) ≤ zI v3 then
      some (0, u)
    else
    zb2 (cTree_follow F u v3) fun (p8 : Option Nat) (u9 : ZC) =>
    Option.bind (cTools_contentOf F u9 p8) fun (p10 : Option Nat) =>
    Option.bind ((
        Option.elim p10 (
            some (u9)) fun (n11 : Nat) =>
        if zlT u9 v2 then (
        zb2 (cText_addAll F u9 v2 n11) fun (p12 : Int) (u13 : ZC) =>
        some (u13)) else none) : Option (ZC)) fun (u14 : ZC) =>
    cTools_cat_64 F n u14 v2 (v3 + 1)
def cTools_cat_25 (F : Nat) : Nat → ZC → Nat → Int → Option (Int × ZC)
  | 0, _, _, _ => none
  | n + 1, u, v2, v3 =>
    if zI (cI u 10 0) ≤ zI v3 then
      cTools_cat_64 F F u v2 1
    else
    zb2 (cTree_follow F u v3) fun (p4 : Option Nat) (u5 : ZC) =>
    Option.bind (cTools_contentOf F u5 p4) fun (p6 : Option Nat) =>
    Option.elim p6 (
        some (1, u5)) fun (n7 : Nat) =>
    cTools_cat_25 F n u5 v2 (v3 + 1)
def cTools_cat (F : Nat) (u : ZC) (v1 : Nat) (v2 : Nat) : Option (Int × ZC) :=
  if ¬ zI (cI u 10 0) = zI 1 then
    cTools_cat_25 F F u v2 1
  else
  if zlT u v2 then (
  zb2 (cText_addAll F u v2 v1) fun (p1 : Int) (u2 : ZC) =>
  if zlT u2 v1 then (
  Option.bind (cText_clear F u2 v1) fun (u3 : ZC) =>
  some (0, u3)) else none) else none
def cTools_wc_74 (F : Nat) : Nat → ZC → Nat → Nat → Int → Nat → Int → Int → Int → Int → Option (Int × ZC)
  | 0, _, _, _, _, _, _, _, _, _ => none
  | n + 1, u, v1, v2, v3, v4, v5, v6, v7, v8 =>
    if zlT u v4 then (
    if zI (cI u 0 v4) ≤ zI v8 then
      if zlT u v2 then (
      Option.bind (cText_addNumber F u v2 v5) fun (u8 : ZC) =>
      if zlT u8 v2 then (
      Option.bind (cText_add F u8 v2 32) fun (u9 : ZC) =>
      if zlT u9 v2 then (
      Option.bind (cText_addNumber F u9 v2 v6) fun (u10 : ZC) =>
      if zlT u10 v2 then (
      Option.bind (cText_add F u10 v2 32) fun (u11 : ZC) =>
      if zlT u11 v4 then (
      if zlT u11 v2 then (
      Option.bind (cText_addNumber F u11 v2 (cI u11 0 v4)) fun (u12 : ZC) =>
      if zlT u12 v2 then (
      Option.bind (cText_add F u12 v2 10) fun (u13 : ZC) =>
      Option.bind ((
          if zI v3 = 0 then
            some (u13)
          else
          if zlT u13 v1 then (
          Option.bind (cText_clear F u13 v1) fun (u14 : ZC) =>
          some (u14)) else none) : Option (ZC)) fun (u15 : ZC) =>
      some (0, u15)) else none) else none) else none) else none) else none) else none) else none
    else
    if zix v8 (cN u v4) then (
    Option.bind ((
        Option.bind ((
            if zI (cA u 0 v4 v8.toNat) = zI 32 then
              some true
            else
            if ¬ zI (cA u 0 v4 v8.toNat) = zI 10 then
              some false
            else
            some true) : Option (Bool)) fun (b16 : Bool) =>
        if b16 = true then
          some (1)
        else
        some (0)) : Option (Int)) fun (x17 : Int) =>
    Option.bind ((
        if ¬ zI (cA u 0 v4 v8.toNat) = zI 10 then
          some (0)
        else
        some (1)) : Option (Int)) fun (x18 : Int) =>
    Option.bind ((
        Option.bind ((
            if zI v7 = 0 then
              some true
            else
            if ¬ zI x17 = 0 then
              some true
            else
            some false) : Option (Bool)) fun (b19 : Bool) =>
        if b19 = true then
          some (0)
        else
        some (1)) : Option (Int)) fun (x20 : Int) =>
    cTools_wc_74 F n u v1 v2 v3 v4 (v5 + x18) (v6 + x20) x17 (v8 + 1)) else none) else none
def cTools_wc (F : Nat) (u : ZC) (v1 : Nat) (v2 : Nat) : Option (Int × ZC) :=
  if zI (cI u 10 0) ≤ zI 2 then
    Option.bind ((
        if ¬ zI (cI u 10 0) = zI 1 then
          some (0)
        else
        some (1)) : Option (Int)) fun (x1 : Int) =>
    zb2 ((
        if zI x1 = 0 then
          zb2 (cTree_follow F u 1) fun (p2 : Option Nat) (u3 : ZC) =>
          Option.bind (cTools_contentOf F u3 p2) fun (p4 : Option Nat) =>
          some (p4, u3)
        else
        some ((some v1), u)) : Option (Option Nat × ZC)) fun (x5 : Option Nat) (u6 : ZC) =>
    Option.elim x5 (
        some (1, u6)) fun (n7 : Nat) =>
    cTools_wc_74 F F u6 v1 v2 x1 n7 0 0 1 0
  else
  some (2, u)
def cTools_fits_3 (F : Nat) : Nat → ZC → Nat → Int → Int → Int → Int → Option (Int)
  | 0, _, _, _, _, _, _ => none
  | n + 1, u, v1, v2, v3, v4, v5 =>
    if zI v4 ≤ zI v5 then
      some 1
    else
    if zix v5 (cN u 1) then (
    Option.bind ((
        if zI (cA u 0 1 v5.toNat) = zI 46 then
          some true
        else
        if zlT u v1 then (
        if zix ((v2 + v5) - v3) (cN u v1) then (
        if zI (cA u 0 1 v5.toNat) = zI (cA u 0 v1 ((v2 + v5) - v3).toNat) then
          some true
        else
        some false) else none) else none) : Option (Bool)) fun (b1 : Bool) =>
    if b1 = true then
      cTools_fits_3 F n u v1 v2 v3 v4 (v5 + 1)
    else
    some 0) else none
def cTools_fits (F : Nat) (u : ZC) (v1 : Nat) (v2 : Int) (v3 : Int) (v4 : Int) : Option (Int) :=
  cTools_fits_3 F F u v1 v2 v3 v4 v3
def cTools_matches_162 (F : Nat) : Nat → ZC → Nat → Int → Int → Int → Int → Option (Int)
  | 0, _, _, _, _, _, _ => none
  | n + 1, u, v1, v6, v7, v12, v13 =>
    if zI v12 < zI v13 then
      some 0
    else
    Option.bind (cTools_fits F u v1 v13 v6 v7) fun (p11 : Int) =>
    if zI p11 = 0 then
      cTools_matches_162 F n u v1 v6 v7 v12 (v13 + 1)
    else
    some 1
def cTools_matches (F : Nat) (u : ZC) (v1 : Nat) (v2 : Int) (v3 : Int) (v4 : Int) : Option (Int) :=
  Option.bind (cWords_startOf F u v4) fun (p1 : Int) =>
  Option.bind (cWords_endOf F u v4) fun (p2 : Int) =>
  Option.bind ((
      Option.bind ((
          if zI p2 ≤ zI p1 then
            some true
          else
          if zix p1 (cN u 1) then (
          if ¬ zI (cA u 0 1 p1.toNat) = zI 94 then
            some true
          else
          some false) else none) : Option (Bool)) fun (b3 : Bool) =>
      if b3 = true then
        some (0)
      else
      some (1)) : Option (Int)) fun (x4 : Int) =>
  Option.bind ((
      if zI x4 = 0 then
        some (0)
      else
      some (1)) : Option (Int)) fun (x5 : Int) =>
  Option.bind ((
      Option.bind ((
          if zI p2 ≤ zI (p1 + x5) then
            some true
          else
          if zix (p2 - 1) (cN u 1) then (
          if ¬ zI (cA u 0 1 (p2 - 1).toNat) = zI 36 then
            some true
          else
          some false) else none) : Option (Bool)) fun (b6 : Bool) =>
      if b6 = true then
        some (0)
      else
      some (1)) : Option (Int)) fun (x7 : Int) =>
  Option.bind ((
      if zI x7 = 0 then
        some (0)
      else
      some (1)) : Option (Int)) fun (x8 : Int) =>
  Option.bind ((
      if zI x7 = 0 then
        some (v2)
      else
      some (zmax v2 (v3 - ((p2 - x8) - (p1 + x5))))) : Option (Int)) fun (x9 : Int) =>
  Option.bind ((
      if zI x4 = 0 then
        some (v3 - ((p2 - x8) - (p1 + x5)))
      else
      some (zmin v2 (v3 - ((p2 - x8) - (p1 + x5))))) : Option (Int)) fun (x10 : Int) =>
  cTools_matches_162 F F u v1 (p1 + x5) (p2 - x8) x10 x9
def cTools_grep_116 (F : Nat) : Nat → ZC → Nat → Nat → Int → Int → Int → Nat → Int → Int → Int → Option (Int × ZC)
  | 0, _, _, _, _, _, _, _, _, _, _ => none
  | n + 1, u, v1, v2, v3, v4, v5, v6, v7, v8, v9 =>
    if zlT u v6 then (
    if zI (cI u 0 v6) < zI v9 then
      Option.bind ((
          if zI v5 = 0 then
            some (u)
          else
          if zlT u v1 then (
          Option.bind (cText_clear F u v1) fun (u11 : ZC) =>
          some (u11)) else none) : Option (ZC)) fun (u12 : ZC) =>
      some (v7, u12)
    else
    Option.bind ((
        if zI (cI u 0 v6) ≤ zI v9 then
          if zI v9 ≤ zI v8 then
            some (0)
          else
          some (1)
        else
        if zix v9 (cN u v6) then (
        if ¬ zI (cA u 0 v6 v9.toNat) = zI 10 then
          some (0)
        else
        some (1)) else none) : Option (Int)) fun (x13 : Int) =>
    zb2 ((
        Option.bind ((
            if zI x13 = 0 then
              some true
            else
            Option.bind (cTools_matches F u v6 v8 v9 v4) fun (p14 : Int) =>
            if zI p14 = zI v3 then
              some true
            else
            some false) : Option (Bool)) fun (b15 : Bool) =>
        if b15 = true then
          some (v7, u)
        else
        if zlT u v2 then (
        zb2 (cText_addPiece F u v2 v6 v8 v9) fun (p16 : Int) (u17 : ZC) =>
        if zlT u17 v2 then (
        Option.bind (cText_add F u17 v2 10) fun (u18 : ZC) =>
        some (0, u18)) else none) else none) : Option (Int × ZC)) fun (x19 : Int) (u20 : ZC) =>
    Option.bind ((
        if zI x13 = 0 then
          some (v8)
        else
        some (v9 + 1)) : Option (Int)) fun (x21 : Int) =>
    cTools_grep_116 F n u20 v1 v2 v3 v4 v5 v6 x19 x21 (v9 + 1)) else none
def cTools_grep (F : Nat) (u : ZC) (v1 : Nat) (v2 : Nat) : Option (Int × ZC) :=
  Option.bind (cWords_has F u 1 1) fun (p1 : Int) =>
  Option.bind ((
      if zI p1 = 0 then
        some (1)
      else
      some (2)) : Option (Int)) fun (x2 : Int) =>
  Option.bind ((
      if zI (cI u 10 0) ≤ zI x2 then
        some true
      else
      if zI (cI u 10 0) ≤ zI (x2 + 2) then
        some false
      else
      some true) : Option (Bool)) fun (b3 : Bool) =>
  if b3 = true then
    some (2, u)
  else
  Option.bind ((
      if ¬ zI (cI u 10 0) = zI (x2 + 1) then
        some (0)
      else
      some (1)) : Option (Int)) fun (x4 : Int) =>
  zb2 ((
      if zI x4 = 0 then
        zb2 (cTree_follow F u (x2 + 1)) fun (p5 : Option Nat) (u6 : ZC) =>
        Option.bind (cTools_contentOf F u6 p5) fun (p7 : Option Nat) =>
        some (p7, u6)
      else
      some ((some v1), u)) : Option (Option Nat × ZC)) fun (x8 : Option Nat) (u9 : ZC) =>
  Option.elim x8 (
      some (1, u9)) fun (n10 : Nat) =>
  cTools_grep_116 F F u9 v1 v2 p1 x2 x4 n10 1 0 0
def cTree_nextIn_9 (F : Nat) : Nat → ZC → Nat → Int64 → Option Nat → Option Nat → Option (Option Nat)
  | 0, _, _, _, _, _ => none
  | n + 1, u, v1, v2, v4, v5 =>
    Option.elim v5 (
        some v4) fun (n2 : Nat) =>
    if zlN u n2 then (
    Option.bind (some (cP u 5 n2)) fun (o3 : Option Nat) =>
    Option.bind ((
        Option.bind ((
            if zlO u o3 then (
            if zlO u (some v1) then (
            if ¬ (o3 = (some v1)) then
              some true
            else
            if (cJ u 0 n2) ≤ v2 then
              some true
            else
            Option.elim v4 (
                some false) fun (n4 : Nat) =>
            if zlN u n4 then (
            if (cJ u 0 n4) ≤ (cJ u 0 n2) then
              some true
            else
            some false) else none) else none) else none) : Option (Bool)) fun (b5 : Bool) =>
        if b5 = true then
          some (v4)
        else
        some ((some n2))) : Option (Option Nat)) fun (x6 : Option Nat) =>
    Option.bind (some (cP u 7 n2)) fun (o7 : Option Nat) =>
    cTree_nextIn_9 F n u v1 v2 x6 o7) else none
def cTree_nextIn (F : Nat) (u : ZC) (v1 : Nat) (v2 : Int64) : Option (Option Nat) :=
  Option.bind (some (cP u 0 0)) fun (o1 : Option Nat) =>
  cTree_nextIn_9 F F u v1 v2 none o1
def cTools_ls_89 (F : Nat) : Nat → ZC → Nat → Nat → Option Nat → Int → Option (Int × ZC)
  | 0, _, _, _, _, _ => none
  | n + 1, u, v1, v2, v3, v4 =>
    Option.bind ((
        if zI (cI u 6 0) ≤ zI v4 then
          some true
        else
        Option.elim v3 (
            some true) fun (n12 : Nat) =>
        some false) : Option (Bool)) fun (b13 : Bool) =>
    if b13 = true then
      some (0, u)
    else
    Option.elim v3 none fun (n14 : Nat) =>
    if zlN u n14 then (
    if zlT u v1 then (
    Option.bind (cText_addPacked F u v1 (cJ u 0 n14)) fun (u15 : ZC) =>
    if zlN u15 n14 then (
    Option.bind (some (cP u15 6 n14)) fun (o16 : Option Nat) =>
    Option.bind ((
        Option.elim o16 (
            if zlT u15 v1 then (
            Option.bind (cText_add F u15 v1 47) fun (u18 : ZC) =>
            some (u18)) else none) fun (n17 : Nat) =>
        some (u15)) : Option (ZC)) fun (u19 : ZC) =>
    if zlT u19 v1 then (
    Option.bind (cText_add F u19 v1 10) fun (u20 : ZC) =>
    if zlN u20 n14 then (
    Option.bind (cTree_nextIn F u20 v2 (cJ u20 0 n14)) fun (p21 : Option Nat) =>
    cTools_ls_89 F n u20 v1 v2 p21 (v4 + 1)) else none) else none) else none) else none) else none
def cTools_ls (F : Nat) (u : ZC) (v1 : Nat) : Option (Int × ZC) :=
  if zI (cI u 10 0) ≤ zI 2 then
    zb2 ((
        if ¬ zI (cI u 10 0) = zI 1 then
          zb2 (cTree_follow F u 1) fun (p1 : Option Nat) (u2 : ZC) =>
          some (p1, u2)
        else
        Option.bind (some (cP u 1 0)) fun (o3 : Option Nat) =>
        some (o3, u)) : Option (Option Nat × ZC)) fun (x4 : Option Nat) (u5 : ZC) =>
    Option.elim x4 (
        some (1, u5)) fun (n6 : Nat) =>
    if zlN u5 n6 then (
    Option.bind (some (cP u5 6 n6)) fun (o7 : Option Nat) =>
    Option.elim o7 (
        Option.bind (cTree_nextIn F u5 n6 (0 : Int64)) fun (p9 : Option Nat) =>
        cTools_ls_89 F F u5 v1 n6 p9 0) fun (n8 : Nat) =>
    if zlT u5 v1 then (
    Option.bind (cText_addPacked F u5 v1 (cJ u5 0 n6)) fun (u10 : ZC) =>
    if zlT u10 v1 then (
    Option.bind (cText_add F u10 v1 10) fun (u11 : ZC) =>
    some (0, u11)) else none) else none) else none
  else
  some (2, u)
def cTools_mkdir (F : Nat) (u : ZC) : Option (Int × ZC) :=
  if zI (cI u 10 0) = zI 2 then
    zb2 (cTree_follow F u 1) fun (p1 : Option Nat) (u2 : ZC) =>
    Option.bind (some (cP u2 3 0)) fun (o3 : Option Nat) =>
    Option.elim o3 (
        some (1, u2)) fun (n4 : Nat) =>
    zb2 (cTree_make F u2 0) fun (p5 : Option Nat) (u6 : ZC) =>
    Option.bind ((
        Option.elim p5 (
            some (100)) fun (n7 : Nat) =>
        some (0)) : Option (Int)) fun (x8 : Int) =>
    some (x8, u6)
  else
  some (2, u)
def cTools_cd (F : Nat) (u : ZC) : Option (Int × ZC) :=
  if zI (cI u 10 0) ≤ zI 2 then
    zb2 ((
        if ¬ zI (cI u 10 0) = zI 1 then
          zb2 (cTree_follow F u 1) fun (p1 : Option Nat) (u2 : ZC) =>
          some (p1, u2)
        else
        some ((some 0), u)) : Option (Option Nat × ZC)) fun (x3 : Option Nat) (u4 : ZC) =>
    Option.bind ((
        Option.elim x3 (
            some true) fun (n5 : Nat) =>
        if zlN u4 n5 then (
        Option.bind (some (cP u4 6 n5)) fun (o6 : Option Nat) =>
        Option.elim o6 (
            some false) fun (n7 : Nat) =>
        some true) else none) : Option (Bool)) fun (b8 : Bool) =>
    if b8 = true then
      some (1, u4)
    else
    some (0, sP u4 1 0 x3)
  else
  some (2, u)
def cTools_run (F : Nat) (u : ZC) (v1 : Nat) (v2 : Nat) : Option (Int × ZC) :=
  Option.bind (cWords_has F u 0 2) fun (p1 : Int) =>
  if zI p1 = 0 then
    Option.bind (cWords_has F u 0 3) fun (p2 : Int) =>
    if zI p2 = 0 then
      Option.bind (cWords_has F u 0 4) fun (p3 : Int) =>
      if zI p3 = 0 then
        Option.bind (cWords_has F u 0 5) fun (p4 : Int) =>
        if zI p4 = 0 then
          Option.bind (cWords_has F u 0 6) fun (p5 : Int) =>
          if zI p5 = 0 then
            Option.bind (cWords_has F u 0 7) fun (p6 : Int) =>
            if zI p6 = 0 then
              Option.bind (cWords_has F u 0 8) fun (p7 : Int) =>
              zb2 ((
                  if zI p7 = 0 then
                    some (127, u)
                  else
                  zb2 (cTools_cd F u) fun (p8 : Int) (u9 : ZC) =>
                  some (p8, u9)) : Option (Int × ZC)) fun (x10 : Int) (u11 : ZC) =>
              some (x10, u11)
            else
            zb2 (cTools_mkdir F u) fun (p12 : Int) (u13 : ZC) =>
            some (p12, u13)
          else
          zb2 (cTools_ls F u v2) fun (p14 : Int) (u15 : ZC) =>
          some (p14, u15)
        else
        zb2 (cTools_grep F u v1 v2) fun (p16 : Int) (u17 : ZC) =>
        some (p16, u17)
      else
      zb2 (cTools_wc F u v1 v2) fun (p18 : Int) (u19 : ZC) =>
      some (p18, u19)
    else
    zb2 (cTools_cat F u v1 v2) fun (p20 : Int) (u21 : ZC) =>
    some (p20, u21)
  else
  zb2 (cTools_echo F u v2) fun (p22 : Int) (u23 : ZC) =>
  some (p22, u23)
def cTree_append (F : Nat) (u : ZC) (v1 : Nat) (v2 : Nat) : Option (Int × ZC) :=
  if zlT u v2 then (
  if zI ((cI u 5 0) - (cI u 7 0)) < zI (cI u 0 v2) then
    some (0, u)
  else
  if zlT u v1 then (
  zb2 (cText_addAll F u v1 v2) fun (p1 : Int) (u2 : ZC) =>
  if ¬ zI p1 = 0 then
    if zlT u2 v2 then (
    some (1, sI u2 7 0 ((cI u2 7 0) + (cI u2 0 v2)))) else none
  else
  some (0, u2)) else none) else none
def cRunner_runCommand (F : Nat) (rec : ZC → Int → Int → Int → Nat → Option (Int × ZC)) (u : ZC) (v1 : Int) (v2 : Int) (v3 : Int) (v4 : Nat) : Option (Int × ZC) :=
  if zix v3 5 then (
  Option.bind (cText_clear F u (4 + 4 * v3.toNat)) fun (u1 : ZC) =>
  Option.bind (cTokens_kindAt F (sP (sI u1 11 v3.toNat 0) 4 v3.toNat none) v1) fun (p2 : Int) =>
  Option.bind ((
      if ¬ zI p2 = zI 5 then
        some (0)
      else
      some (1)) : Option (Int)) fun (x3 : Int) =>
  Option.bind ((
      if zI x3 = 0 then
        some (v1)
      else
      Option.bind (cTokens_find F (sP (sI u1 11 v3.toNat 0) 4 v3.toNat none) (v1 + 1) v2 6 6) fun (p4 : Int) =>
      some (p4)) : Option (Int)) fun (x5 : Int) =>
  if zlT (sP (sI u1 11 v3.toNat 0) 4 v3.toNat none) v4 then (
  zb2 (cRunner_redirect F (sP (sI u1 11 v3.toNat 0) 4 v3.toNat none) x5 v2 v3.toNat) fun (p6 : Int) (u7 : ZC) =>
  if zI p6 = 0 then
    Option.bind ((
        if zI (cI u7 11 v3.toNat) = 0 then
          some (v4)
        else
        some ((6 + 4 * v3.toNat))) : Option (Nat)) fun (x8 : Nat) =>
    zb2 ((
        if zI x3 = 0 then
          Option.bind (cRunner_takeWords F u7 v1 v2) fun (u9 : ZC) =>
          zb2 (cTools_run F (sI u9 9 0 ((cI u9 9 0) + 1)) x8 (4 + 4 * v3.toNat)) fun (p10 : Int) (u11 : ZC) =>
          some (p10, u11)
        else
        zb2 (cRunner_runGroup F rec u7 (v1 + 1) x5 v3 x8) fun (p12 : Int) (u13 : ZC) =>
        some (p12, u13)) : Option (Int × ZC)) fun (x14 : Int) (u15 : ZC) =>
    Option.bind ((
        if zI x14 = zI 100 then
          some true
        else
        if zI (cI u15 1 (4 + 4 * v3.toNat)) = 0 then
          some false
        else
        some true) : Option (Bool)) fun (b16 : Bool) =>
    if b16 = true then
      some (100, u15)
    else
    Option.bind (some (cP u15 4 v3.toNat)) fun (o17 : Option Nat) =>
    Option.elim o17 (
        some (x14, u15)) fun (n18 : Nat) =>
    Option.bind (some (cP u15 4 v3.toNat)) fun (o19 : Option Nat) =>
    Option.elim o19 none fun (n20 : Nat) =>
    zb2 (cTree_append F u15 n20 (4 + 4 * v3.toNat)) fun (p21 : Int) (u22 : ZC) =>
    if ¬ zI p21 = 0 then
      Option.bind (cText_clear F u22 (4 + 4 * v3.toNat)) fun (u23 : ZC) =>
      some (x14, u23)
    else
    some (100, u22)
  else
  some (p6, u7)) else none) else none
def cRunner_runPipeline_71 (F : Nat) (rec : ZC → Int → Int → Int → Nat → Option (Int × ZC)) : Nat → ZC → Int → Int → Nat → Int → Int → Int → Nat → Int → Option (Int × ZC)
  | 0, _, _, _, _, _, _, _, _, _ => none
  | n + 1, u, v2, v3, v5, v6, v7, v8, v9, v10 =>
    if zI v2 ≤ zI v7 then
      Option.bind ((
          if zI v6 = 0 then
            some (v10)
          else
          Option.bind ((
              if ¬ zI v10 = 0 then
                some (0)
              else
              some (1)) : Option (Int)) fun (x6 : Int) =>
          some (x6)) : Option (Int)) fun (x7 : Int) =>
      if v5 < 5 then (
      zb2 (cText_addAll F (sI u 8 0 x7) (3 + 4 * v5) (4 + 4 * v5)) fun (p8 : Int) (u9 : ZC) =>
      if zbl p8 then (
      some (p8, u9)) else none) else none
    else
    Option.bind (cTokens_find F u v7 v2 3 3) fun (p10 : Int) =>
    Option.bind (some (cP u 1 0)) fun (o11 : Option Nat) =>
    if v5 < 5 then (
    if zlT u v9 then (
    if zlO u o11 then (
    zb2 (cRunner_runCommand F rec u v7 (zmax v7 p10) v3 v9) fun (p12 : Int) (u13 : ZC) =>
    Option.bind ((
        if zI v8 = 0 then
          some (u13)
        else
        some (sP u13 1 0 o11)) : Option (ZC)) fun (u14 : ZC) =>
    if ¬ zI p12 = zI 100 then
      zb2 ((
          if zI v2 ≤ zI (zmax v7 p10) then
            some (v9, u14)
          else
          Option.bind (cText_clear F u14 (5 + 4 * v5)) fun (u15 : ZC) =>
          zb2 (cText_addAll F u15 (5 + 4 * v5) (4 + 4 * v5)) fun (p16 : Int) (u17 : ZC) =>
          some ((5 + 4 * v5), u17)) : Option (Nat × ZC)) fun (x18 : Nat) (u19 : ZC) =>
      cRunner_runPipeline_71 F rec n u19 v2 v3 v5 v6 ((zmax v7 p10) + 1) v8 x18 p12
    else
    some (0, u14)) else none) else none) else none
def cRunner_runPipeline (F : Nat) (rec : ZC → Int → Int → Int → Nat → Option (Int × ZC)) (u : ZC) (v1 : Int) (v2 : Int) (v3 : Int) (v4 : Nat) : Option (Int × ZC) :=
  if zix v3 5 then (
  Option.bind (cTokens_kindAt F u v1) fun (p1 : Int) =>
  Option.bind ((
      if ¬ zI p1 = zI 4 then
        some (0)
      else
      some (1)) : Option (Int)) fun (x2 : Int) =>
  Option.bind ((
      if zI x2 = 0 then
        some (v1)
      else
      some (v1 + 1)) : Option (Int)) fun (x3 : Int) =>
  Option.bind (cTokens_find F u x3 v2 3 3) fun (p4 : Int) =>
  Option.bind ((
      if zI v2 ≤ zI p4 then
        some (0)
      else
      some (1)) : Option (Int)) fun (x5 : Int) =>
  cRunner_runPipeline_71 F rec F u v2 v3 v3.toNat x2 x3 x5 v4 0) else none
def cRunner_runList_75 (F : Nat) (rec : ZC → Int → Int → Int → Nat → Option (Int × ZC)) (k25 : ZC → Int → Int → Nat → Int → Int → Option (Int × ZC)) (u : ZC) (v2 : Int) (v3 : Int) (v4 : Nat) (v7 : Int) : Option (Int × ZC) :=
  Option.bind (cTokens_kindAt F u v7) fun (p6 : Int) =>
  k25 u v2 v3 v4 p6 (v7 + 1)
def cRunner_runList_25 (F : Nat) (rec : ZC → Int → Int → Int → Nat → Option (Int × ZC)) : Nat → ZC → Int → Int → Nat → Int → Int → Option (Int × ZC)
  | 0, _, _, _, _, _, _ => none
  | n + 1, u, v2, v3, v4, v5, v6 =>
    if zI v2 ≤ zI v6 then
      some (1, u)
    else
    Option.bind (cTokens_find F u v6 v2 0 2) fun (p2 : Int) =>
    Option.bind (cRunner_isDue F u v5) fun (p3 : Int) =>
    if zI p3 = 0 then
      cRunner_runList_75 F rec (cRunner_runList_25 F rec n) u v2 v3 v4 (zmax v6 p2)
    else
    if zlT u v4 then (
    zb2 (cRunner_runPipeline F rec u v6 (zmax v6 p2) v3 v4) fun (p4 : Int) (u5 : ZC) =>
    if ¬ zI p4 = 0 then
      cRunner_runList_75 F rec (cRunner_runList_25 F rec n) u5 v2 v3 v4 (zmax v6 p2)
    else
    some (0, u5)) else none
def cRunner_runList (F : Nat) : Nat → ZC → Int → Int → Int → Nat → Option (Int × ZC)
  | 0, _, _, _, _, _ => none
  | d + 1, u, v1, v2, v3, v4 =>
    if zI v3 ≤ zI 4 then
      if zix v3 5 then (
      Option.bind (cText_clear F u (3 + 4 * v3.toNat)) fun (u1 : ZC) =>
      cRunner_runList_25 F (cRunner_runList F d) F u1 v2 v3 v4 0 v1) else none
    else
    some (0, u)
def cShell_enter (F : Nat) (u : ZC) : Option (Int × ZC) :=
  zb2 (cGrammar_accepts F u) fun (p1 : Int) (u2 : ZC) =>
  Option.bind (cRunner_forget F u2) fun (u3 : ZC) =>
  Option.bind ((
      if zI p1 = 0 then
        some (u3)
      else
      zb2 (cRunner_runList F 6 u3 0 (cI u3 2 0) 0 2) fun (p4 : Int) (u5 : ZC) =>
      if ¬ zI p4 = 0 then
        some (u5)
      else
      some (sI u5 8 0 100)) : Option (ZC)) fun (u6 : ZC) =>
  Option.bind (cText_clear F u6 0) fun (u7 : ZC) =>
  Option.bind ((
      if zI p1 = 0 then
        some ((-1))
      else
      some (cI u7 8 0)) : Option (Int)) fun (x8 : Int) =>
  some (x8, u7)
def cShell_status (F : Nat) (u : ZC) : Option (Int) :=
  some (cI u 8 0)
def cRunner_output (F : Nat) (u : ZC) : Option (Option Nat) :=
  if zix 0 5 then (
  some (some (3 + 4 * 0))) else none
def cShell_length (F : Nat) (u : ZC) : Option (Int) :=
  Option.bind (cRunner_output F u) fun (p1 : Option Nat) =>
  Option.elim p1 none fun (n2 : Nat) =>
  if zlT u n2 then (
  some (cI u 0 n2)) else none
def cShell_out_33 (F : Nat) : Nat → ZC → Int → Option Nat → Int64 → Int → Option (Int64)
  | 0, _, _, _, _, _ => none
  | n + 1, u, v1, v2, v3, v5 =>
    if zI ((8 * v1) + 8) ≤ zI v5 then
      some v3
    else
    Option.elim v2 none fun (n4 : Nat) =>
    if zlT u n4 then (
    Option.bind ((
        if zI (cI u 0 n4) ≤ zI v5 then
          some (0)
        else
        if zix v5 (cN u n4) then (
        some (cA u 0 n4 v5.toNat)) else none) : Option (Int)) fun (x5 : Int) =>
    cShell_out_33 F n u v1 (some n4) ((zlshl v3 8) ||| (zi2l x5)) (v5 + 1)) else none
def cShell_out (F : Nat) (u : ZC) (v1 : Int) : Option (Int64) :=
  Option.bind (cRunner_output F u) fun (p1 : Option Nat) =>
  Option.bind ((
      if zI v1 < 0 then
        some true
      else
      Option.elim p1 none fun (n2 : Nat) =>
      if zlT u n2 then (
      if zI v1 ≤ zI (zdiv (cI u 0 n2) 8) then
        some false
      else
      some true) else none) : Option (Bool)) fun (b3 : Bool) =>
  if b3 = true then
    some (0 : Int64)
  else
  cShell_out_33 F F u v1 p1 (0 : Int64) (8 * v1)
def cShell_ran (F : Nat) (u : ZC) : Option (Int) :=
  some (cI u 9 0)
def cShell_nodes (F : Nat) (u : ZC) : Option (Int) :=
  some (cI u 6 0)
def cShell_chars (F : Nat) (u : ZC) : Option (Int) :=
  some (cI u 7 0)
def cShell_depth_10 (F : Nat) : Nat → ZC → Int → Option Nat → Option (Int)
  | 0, _, _, _ => none
  | n + 1, u, v1, v2 =>
    Option.elim v2 none fun (n2 : Nat) =>
    if zlN u n2 then (
    Option.bind (some (cP u 5 n2)) fun (o3 : Option Nat) =>
    Option.elim o3 (
        some v1) fun (n4 : Nat) =>
    Option.bind (some (cP u 5 n2)) fun (o5 : Option Nat) =>
    cShell_depth_10 F n u (v1 + 1) o5) else none
def cShell_depth (F : Nat) (u : ZC) : Option (Int) :=
  Option.bind (some (cP u 1 0)) fun (o1 : Option Nat) =>
  cShell_depth_10 F F u 0 o1
