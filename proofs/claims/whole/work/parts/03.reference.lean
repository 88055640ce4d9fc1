/-! The methods of the reference as pure functions, by wip/gen out of the bytecode. -/
def r_type_8 (F : Nat) : Nat → ZR → Int64 → Int → Int → Option (Int × ZR)
  | 0, _, _, _, _ => none
  | n + 1, u, v1, v3, v4 =>
    if zI 8 ≤ zI v4 then
      some (1, tI u 10 v3)
    else
    Option.bind ((
        if zI (zand (zl2i (zlushr v1 (56 - (8 * v4)))) 255) = 0 then
          some true
        else
        if zI (zand (zl2i (zlushr v1 (56 - (8 * v4)))) 255) < zI 32 then
          some false
        else
        if zI 126 < zI (zand (zl2i (zlushr v1 (56 - (8 * v4)))) 255) then
          some false
        else
        if ¬ zI v3 = zI 64 then
          some true
        else
        some false) : Option (Bool)) fun (b1 : Bool) =>
    if b1 = true then
      zb2 ((
          if zI (zand (zl2i (zlushr v1 (56 - (8 * v4)))) 255) = 0 then
            some (v3, u)
          else
          if zix v3 64 then (
          Option.bind (some (tA u 11 v3.toNat (zand (zl2i (zlushr v1 (56 - (8 * v4)))) 255))) fun (u2 : ZR) =>
          some (v3 + 1, u2)) else none) : Option (Int × ZR)) fun (x3 : Int) (u4 : ZR) =>
      r_type_8 F n u4 v1 x3 (v4 + 1)
    else
    some (0, u)
def r_type (F : Nat) (u : ZR) (v1 : Int64) : Option (Int × ZR) :=
  r_type_8 F F u v1 (rI u 10) 0
def r_wipe (F : Nat) (u : ZR) : Option (ZR) :=
  some (tI u 10 0)
def r_typed (F : Nat) (u : ZR) : Option (Int) :=
  some (rI u 10)
def r_at (F : Nat) (u : ZR) (v1 : Int) : Option (Int) :=
  Option.bind ((
      if zI (rI u 10) ≤ zI v1 then
        some (0)
      else
      if zix v1 64 then (
      some (rA u 11 v1.toNat)) else none) : Option (Int)) fun (x1 : Int) =>
  some x1
def r_operator (F : Nat) (u : ZR) (v1 : Int) : Option (Int) :=
  Option.bind (r_at F u v1) fun (p1 : Int) =>
  Option.bind (r_at F u (v1 + 1)) fun (p2 : Int) =>
  if zI p1 = 33 then
    some 10
  else
  if zI p1 = 38 then
    Option.bind ((
        if ¬ zI p2 = zI 38 then
          some ((-1))
        else
        some (2)) : Option (Int)) fun (x3 : Int) =>
    some x3
  else
  if zI p1 = 40 then
    some 8
  else
  if zI p1 = 41 then
    some 9
  else
  if zI p1 = 59 then
    some 1
  else
  if zI p1 = 60 then
    some 5
  else
  if zI p1 = 62 then
    Option.bind ((
        if ¬ zI p2 = zI 62 then
          some (7)
        else
        some (6)) : Option (Int)) fun (x4 : Int) =>
    some x4
  else
  if zI p1 = 124 then
    Option.bind ((
        if ¬ zI p2 = zI 124 then
          some (4)
        else
        some (3)) : Option (Int)) fun (x5 : Int) =>
    some x5
  else
  some 0
def r_token (F : Nat) (u : ZR) (v1 : Int) (v2 : Int) : Option (ZR) :=
  if zix (rI u 12) 64 then (
  if zix (rI (tA u 13 (rI u 12).toNat v1) 12) 64 then (
  Option.bind (some (tA (tA u 13 (rI u 12).toNat v1) 14 (rI (tA u 13 (rI u 12).toNat v1) 12).toNat v2)) fun (u1 : ZR) =>
  if zix (rI u1 12) 64 then (
  Option.bind (some (tI (tA u1 15 (rI u1 12).toNat v2) 12 ((rI (tA u1 15 (rI u1 12).toNat v2) 12) + 1))) fun (u2 : ZR) =>
  some u2) else none) else none) else none
def r_cut_178 (F : Nat) (k11 : ZR → Int → Int → Int → Option (Int × ZR)) (u : ZR) (v1 : Int) (v2 : Int) (v3 : Int) : Option (Int × ZR) :=
  k11 u v1 v2 (v3 + 1)
def r_cut_11 (F : Nat) : Nat → ZR → Int → Int → Int → Option (Int × ZR)
  | 0, _, _, _, _ => none
  | n + 1, u, v1, v2, v3 =>
    if zI (rI u 10) ≤ zI v3 then
      Option.bind ((
          if ¬ zI v2 = 0 then
            some (0)
          else
          some (1)) : Option (Int)) fun (x1 : Int) =>
      if zbl x1 then (
      some (x1, u)) else none
    else
    if zix v3 64 then (
    Option.bind ((
        if zI v2 = 0 then
          Option.bind (r_operator F u v3) fun (p2 : Int) =>
          some (p2)
        else
        some (0)) : Option (Int)) fun (x3 : Int) =>
    if zI v2 = 0 then
      if ¬ zI (rA u 11 v3.toNat) = zI 32 then
        if 0 ≤ zI x3 then
          zb4 ((
              if zI x3 = 0 then
                zb2 ((
                    if ¬ zI v1 = 0 then
                      some (v1, u)
                    else
                    Option.bind (r_token F u 0 v3) fun (u4 : ZR) =>
                    some (1, u4)) : Option (Int × ZR)) fun (x5 : Int) (u6 : ZR) =>
                Option.bind ((
                    if ¬ zI (rA u 11 v3.toNat) = zI 39 then
                      some (0)
                    else
                    some (1)) : Option (Int)) fun (x7 : Int) =>
                if zix ((rI u6 12) - 1) 64 then (
                some (x5, x7, v3, tA u6 15 ((rI u6 12) - 1).toNat (v3 + 1))) else none
              else
              Option.bind (r_token F u x3 v3) fun (u8 : ZR) =>
              Option.bind ((
                  Option.bind ((
                      if zI x3 = zI 2 then
                        some true
                      else
                      if zI x3 = zI 3 then
                        some true
                      else
                      if ¬ zI x3 = zI 6 then
                        some false
                      else
                      some true) : Option (Bool)) fun (b9 : Bool) =>
                  if b9 = true then
                    some (v3 + 1)
                  else
                  some (v3)) : Option (Int)) fun (x10 : Int) =>
              some (0, v2, x10, u8)) : Option (Int × Int × Int × ZR)) fun (x11 : Int) (x12 : Int) (x13 : Int) (u14 : ZR) =>
          r_cut_178 F (r_cut_11 F n) u14 x11 x12 x13
        else
        some (0, u)
      else
      r_cut_178 F (r_cut_11 F n) u 0 v2 v3
    else
    Option.bind ((
        if zI (rA u 11 v3.toNat) = zI 39 then
          some (0)
        else
        some (1)) : Option (Int)) fun (x15 : Int) =>
    if zix ((rI u 12) - 1) 64 then (
    r_cut_178 F (r_cut_11 F n) (tA u 15 ((rI u 12) - 1).toNat (v3 + 1)) v1 x15 v3) else none) else none
def r_cut (F : Nat) (u : ZR) : Option (Int × ZR) :=
  r_cut_11 F F (tI u 12 0) 0 0 0
def r_redirects (F : Nat) (u : ZR) (v0 : Int) : Option (Int) :=
  Option.bind ((
      Option.bind ((
          if zI v0 = zI 5 then
            some true
          else
          if zI v0 = zI 6 then
            some true
          else
          if ¬ zI v0 = zI 7 then
            some false
          else
          some true) : Option (Bool)) fun (b1 : Bool) =>
      if b1 = true then
        some (1)
      else
      some (0)) : Option (Int)) fun (x2 : Int) =>
  if zbl x2 then (
  some x2) else none
def r_next (F : Nat) (u : ZR) (v0 : Int) (v1 : Int) (v2 : Int) : Option (Int) :=
  if zI v0 < zI 7 then
    Option.bind (r_redirects F u v1) fun (p1 : Int) =>
    if zI p1 = 0 then
      if ¬ zI v1 = 0 then
        if ¬ zI v1 = zI 8 then
          if ¬ zI v1 = zI 10 then
            if ¬ zI v1 = zI 9 then
              Option.bind ((
                  if zI 5 ≤ zI v0 then
                    if ¬ zI v1 = zI 1 then
                      if ¬ zI v1 = zI 4 then
                        some (2)
                      else
                      some (3)
                    else
                    some (1)
                  else
                  some ((-1))) : Option (Int)) fun (x2 : Int) =>
              some x2
            else
            Option.bind ((
                Option.bind ((
                    if zI v2 ≤ 0 then
                      some true
                    else
                    if zI v0 = zI 1 then
                      some false
                    else
                    if zI v0 < zI 5 then
                      some true
                    else
                    some false) : Option (Bool)) fun (b3 : Bool) =>
                if b3 = true then
                  some ((-1))
                else
                some (6)) : Option (Int)) fun (x4 : Int) =>
            some x4
          else
          Option.bind ((
              if zI 3 ≤ zI v0 then
                some ((-1))
              else
              some (3)) : Option (Int)) fun (x5 : Int) =>
          some x5
        else
        Option.bind ((
            Option.bind ((
                if zI 4 ≤ zI v0 then
                  some true
                else
                if zI 4 ≤ zI v2 then
                  some true
                else
                some false) : Option (Bool)) fun (b6 : Bool) =>
            if b6 = true then
              some ((-1))
            else
            some (0)) : Option (Int)) fun (x7 : Int) =>
        some x7
      else
      Option.bind ((
          if ¬ zI v0 = zI 6 then
            some (5)
          else
          some ((-1))) : Option (Int)) fun (x8 : Int) =>
      some x8
    else
    Option.bind ((
        if zI 4 ≤ zI v0 then
          some (v0 + 3)
        else
        some (7)) : Option (Int)) fun (x9 : Int) =>
    some x9
  else
  Option.bind ((
      if ¬ zI v1 = 0 then
        some ((-1))
      else
      some (v0 - 3)) : Option (Int)) fun (x10 : Int) =>
  some x10
def r_grammar_15 (F : Nat) : Nat → ZR → Int → Int → Int → Option (Int × ZR)
  | 0, _, _, _, _ => none
  | n + 1, u, v1, v2, v3 =>
    if zI (rI u 12) ≤ zI v3 then
      Option.bind ((
          Option.bind ((
              if zI (rI u 12) = 0 then
                some true
              else
              if ¬ zI v2 = 0 then
                some false
              else
              if zI v1 = zI 1 then
                some true
              else
              if zI v1 = zI 5 then
                some true
              else
              if ¬ zI v1 = zI 6 then
                some false
              else
              some true) : Option (Bool)) fun (b3 : Bool) =>
          if b3 = true then
            some (1)
          else
          some (0)) : Option (Int)) fun (x4 : Int) =>
      if zbl x4 then (
      some (x4, u)) else none
    else
    if zix v3 64 then (
    Option.bind (r_next F u v1 (rA u 13 v3.toNat) v2) fun (p5 : Int) =>
    if 0 ≤ zI p5 then
      Option.bind ((
          if ¬ zI (rA u 13 v3.toNat) = zI 8 then
            if ¬ zI (rA u 13 v3.toNat) = zI 9 then
              some (v2)
            else
            some (v2 - 1)
          else
          some (v2 + 1)) : Option (Int)) fun (x6 : Int) =>
      r_grammar_15 F n u p5 x6 (v3 + 1)
    else
    some (0, u)) else none
def r_grammar (F : Nat) (u : ZR) : Option (Int × ZR) :=
  zb2 (r_cut F u) fun (p1 : Int) (u2 : ZR) =>
  if ¬ zI p1 = 0 then
    r_grammar_15 F F u2 0 0 0
  else
  some (0, u2)
def r_check_13 (F : Nat) : Nat → ZR → Int → Int → Option (Int × ZR)
  | 0, _, _, _ => none
  | n + 1, u, v1, v2 =>
    if zI (rI u 12) ≤ zI v2 then
      some (v1, u)
    else
    if zix v2 64 then (
    Option.bind ((
        if ¬ zI (rA u 13 v2.toNat) = 0 then
          some (v1)
        else
        some (v1 + 1)) : Option (Int)) fun (x3 : Int) =>
    r_check_13 F n u x3 (v2 + 1)) else none
def r_check (F : Nat) (u : ZR) : Option (Int × ZR) :=
  zb2 (r_grammar F u) fun (p1 : Int) (u2 : ZR) =>
  if ¬ zI p1 = 0 then
    r_check_13 F F u2 0 0
  else
  some ((-1), u2)
def r_kindAt (F : Nat) (u : ZR) (v1 : Int) : Option (Int) :=
  Option.bind ((
      if zI (rI u 12) ≤ zI v1 then
        some ((-1))
      else
      if zix v1 64 then (
      some (rA u 13 v1.toNat)) else none) : Option (Int)) fun (x1 : Int) =>
  some x1
def r_pipelineEnd_5 (F : Nat) : Nat → ZR → Int → Int → Int → Option (Int)
  | 0, _, _, _, _ => none
  | n + 1, u, v2, v3, v4 =>
    if zI (rI u 12) ≤ zI v4 then
      some (rI u 12)
    else
    if zix v4 64 then (
    Option.bind ((
        if ¬ zI v3 = 0 then
          some true
        else
        if zI (rA u 13 v4.toNat) = zI 1 then
          some false
        else
        if zI (rA u 13 v4.toNat) = zI 2 then
          some false
        else
        if zI (rA u 13 v4.toNat) = zI 3 then
          some false
        else
        if zI (rA u 13 v4.toNat) = zI 9 then
          some false
        else
        if zI v2 = 0 then
          some true
        else
        if ¬ zI (rA u 13 v4.toNat) = zI 4 then
          some true
        else
        some false) : Option (Bool)) fun (b1 : Bool) =>
    if b1 = true then
      Option.bind ((
          if ¬ zI (rA u 13 v4.toNat) = zI 8 then
            if ¬ zI (rA u 13 v4.toNat) = zI 9 then
              some (v3)
            else
            some (v3 - 1)
          else
          some (v3 + 1)) : Option (Int)) fun (x2 : Int) =>
      r_pipelineEnd_5 F n u v2 x2 (v4 + 1)
    else
    some v4) else none
def r_pipelineEnd (F : Nat) (u : ZR) (v1 : Int) (v2 : Int) : Option (Int) :=
  r_pipelineEnd_5 F F u v2 0 v1
def r_startPipeline (F : Nat) (u : ZR) : Option (ZR) :=
  Option.bind (r_kindAt F u (rI u 22)) fun (p1 : Int) =>
  Option.bind ((
      if ¬ zI p1 = zI 10 then
        some (0)
      else
      some (1)) : Option (Int)) fun (x2 : Int) =>
  if zix (rI u 21) 5 then (
  if zbl x2 then (
  if zix (rI (tA u 29 (rI u 21).toNat x2) 21) 5 then (
  Option.bind ((
      if zI (rA (tA u 29 (rI u 21).toNat x2) 29 (rI (tA u 29 (rI u 21).toNat x2) 21).toNat) = 0 then
        some (rI (tA u 29 (rI u 21).toNat x2) 22)
      else
      some ((rI (tA u 29 (rI u 21).toNat x2) 22) + 1)) : Option (Int)) fun (x3 : Int) =>
  Option.bind (r_pipelineEnd F (tI (tA u 29 (rI u 21).toNat x2) 22 x3) (rI (tI (tA u 29 (rI u 21).toNat x2) 22 x3) 22) 1) fun (p4 : Int) =>
  Option.bind (r_kindAt F (tI (tA u 29 (rI u 21).toNat x2) 22 x3) p4) fun (p5 : Int) =>
  Option.bind ((
      if ¬ zI p5 = zI 4 then
        some (0)
      else
      some (1)) : Option (Int)) fun (x6 : Int) =>
  if zix (rI (tI (tA u 29 (rI u 21).toNat x2) 22 x3) 21) 5 then (
  if zbl x6 then (
  Option.bind (some (tA (tI (tA u 29 (rI u 21).toNat x2) 22 x3) 28 (rI (tI (tA u 29 (rI u 21).toNat x2) 22 x3) 21).toNat x6)) fun (u7 : ZR) =>
  if zix (rI u7 21) 5 then (
  Option.bind (some (tA u7 25 (rI u7 21).toNat (rA u7 23 (rI u7 21).toNat))) fun (u8 : ZR) =>
  some u8) else none) else none) else none) else none) else none) else none
def r_letterOf (F : Nat) (u : ZR) (v1 : Int) : Option (ZR) :=
  if zix (rI u 19) 200 then (
  Option.bind (some (tI (tA u 20 (rI u 19).toNat v1) 19 ((rI (tA u 20 (rI u 19).toNat v1) 19) + 1))) fun (u1 : ZR) =>
  some u1) else none
def r_scale (F : Nat) (u : ZR) (v0 : Int) : Option (Int) :=
  Option.bind ((
      if zI v0 < zI 100 then
        if zI v0 < zI 10 then
          some (1)
        else
        some (10)
      else
      some (100)) : Option (Int)) fun (x1 : Int) =>
  some x1
def r_expand_166 (F : Nat) (k22 : ZR → Int → Int → Int → Option (ZR)) (u : ZR) (v1 : Int) (v2 : Int) (v3 : Int) : Option (ZR) :=
  k22 u v1 v2 (v3 + 1)
def r_expand_130 (F : Nat) (k22 : ZR → Int → Int → Int → Option (ZR)) : Nat → ZR → Int → Int → Int → Int → Option (ZR)
  | 0, _, _, _, _, _ => none
  | n + 1, u, v1, v2, v3, v5 =>
    if zI v5 ≤ 0 then
      r_expand_166 F k22 u v1 v2 (v3 + 1)
    else
    if ¬ zI v5 = 0 then (
    Option.bind (r_letterOf F u (48 + (zrem (zdiv (rI u 45) v5) 10))) fun (u7 : ZR) =>
    r_expand_130 F k22 n u7 v1 v2 v3 (zdiv v5 10)) else none
def r_expand_22 (F : Nat) : Nat → ZR → Int → Int → Int → Option (ZR)
  | 0, _, _, _, _ => none
  | n + 1, u, v1, v2, v3 =>
    if zix v1 64 then (
    if zI (rA u 15 v1.toNat) ≤ zI v3 then
      if zix (rI u 16) 65 then (
      Option.bind (some (tI (tA u 18 (rI u 16).toNat (rI u 19)) 16 ((rI (tA u 18 (rI u 16).toNat (rI u 19)) 16) + 1))) fun (u1 : ZR) =>
      some u1) else none
    else
    if zix v3 64 then (
    Option.bind ((
        Option.bind ((
            if ¬ zI (rA u 11 v3.toNat) = zI 36 then
              some true
            else
            if ¬ zI v2 = 0 then
              some true
            else
            if zI (rA u 15 v1.toNat) ≤ zI (v3 + 1) then
              some true
            else
            if zix (v3 + 1) 64 then (
            if ¬ zI (rA u 11 (v3 + 1).toNat) = zI 63 then
              some true
            else
            some false) else none) : Option (Bool)) fun (b2 : Bool) =>
        if b2 = true then
          some (0)
        else
        some (1)) : Option (Int)) fun (x3 : Int) =>
    if ¬ zI (rA u 11 v3.toNat) = zI 39 then
      if ¬ zI x3 = 0 then
        Option.bind (r_scale F u (rI u 45)) fun (p4 : Int) =>
        r_expand_130 F (r_expand_22 F n) F u v1 v2 v3 p4
      else
      Option.bind (r_letterOf F u (rA u 11 v3.toNat)) fun (u5 : ZR) =>
      r_expand_166 F (r_expand_22 F n) u5 v1 v2 v3
    else
    Option.bind ((
        if ¬ zI v2 = 0 then
          some (0)
        else
        some (1)) : Option (Int)) fun (x6 : Int) =>
    r_expand_166 F (r_expand_22 F n) u v1 x6 v3) else none) else none
def r_expand (F : Nat) (u : ZR) (v1 : Int) : Option (ZR) :=
  if zix (rI u 16) 65 then (
  if zix v1 64 then (
  r_expand_22 F F (tA u 17 (rI u 16).toNat (rI u 19)) v1 0 (rA (tA u 17 (rI u 16).toNat (rI u 19)) 14 v1.toNat)) else none) else none
def r_packed_17 (F : Nat) : Nat → ZR → Int → Int → Int64 → Int → Option (Int64)
  | 0, _, _, _, _, _ => none
  | n + 1, u, v1, v2, v3, v5 =>
    if zI 7 ≤ zI v5 then
      some v3
    else
    Option.bind ((
        if zI v2 ≤ zI (v1 + v5) then
          some (0)
        else
        if zix (v1 + v5) 200 then (
        some (rA u 20 (v1 + v5).toNat)) else none) : Option (Int)) fun (x1 : Int) =>
    r_packed_17 F n u v1 v2 ((zlshl v3 8) ||| (zi2l x1)) (v5 + 1)
def r_packed (F : Nat) (u : ZR) (v1 : Int) (v2 : Int) : Option (Int64) :=
  if zI (v2 - v1) ≤ zI 7 then
    r_packed_17 F F u v1 v2 (0 : Int64) 0
  else
  some (-1 : Int64)
def r_isDots (F : Nat) (u : ZR) (v1 : Int) (v2 : Int) : Option (Int) :=
  Option.bind ((
      Option.bind ((
          if ¬ zI (v2 - v1) = zI 1 then
            if ¬ zI (v2 - v1) = zI 2 then
              some false
            else
            if zix v1 200 then (
            if ¬ zI (rA u 20 v1.toNat) = zI 46 then
              some false
            else
            if zix (v1 + 1) 200 then (
            if ¬ zI (rA u 20 (v1 + 1).toNat) = zI 46 then
              some false
            else
            some true) else none) else none
          else
          if zix v1 200 then (
          if zI (rA u 20 v1.toNat) = zI 46 then
            some true
          else
          if ¬ zI (v2 - v1) = zI 2 then
            some false
          else
          if ¬ zI (rA u 20 v1.toNat) = zI 46 then
            some false
          else
          if zix (v1 + 1) 200 then (
          if ¬ zI (rA u 20 (v1 + 1).toNat) = zI 46 then
            some false
          else
          some true) else none) else none) : Option (Bool)) fun (b1 : Bool) =>
      if b1 = true then
        some (1)
      else
      some (0)) : Option (Int)) fun (x2 : Int) =>
  if zbl x2 then (
  some x2) else none
def r_child_3 (F : Nat) : Nat → ZR → Int → Int64 → Int → Option (Int)
  | 0, _, _, _, _ => none
  | n + 1, u, v1, v2, v4 =>
    if zI 13 ≤ zI v4 then
      some (-1)
    else
    if zix v4 13 then (
    Option.bind ((
        if zI (rA u 3 v4.toNat) = 0 then
          some true
        else
        if ¬ zI (rA u 5 v4.toNat) = zI v1 then
          some true
        else
        if ¬ (rL u 6 v4.toNat) = v2 then
          some true
        else
        some false) : Option (Bool)) fun (b1 : Bool) =>
    if b1 = true then
      r_child_3 F n u v1 v2 (v4 + 1)
    else
    some v4) else none
def r_child (F : Nat) (u : ZR) (v1 : Int) (v2 : Int64) : Option (Int) :=
  r_child_3 F F u v1 v2 1
def r_isName_28 (F : Nat) : Nat → ZR → Int → Int → Option (Int)
  | 0, _, _, _ => none
  | n + 1, u, v2, v3 =>
    if zI v2 ≤ zI v3 then
      some 1
    else
    if zix v3 200 then (
    Option.bind ((
        if zI (rA u 20 v3.toNat) < zI 97 then
          if zI (rA u 20 v3.toNat) < zI 48 then
            if zI (rA u 20 v3.toNat) = zI 95 then
              some true
            else
            if zI (rA u 20 v3.toNat) = zI 46 then
              some true
            else
            some false
          else
          if zI (rA u 20 v3.toNat) ≤ zI 57 then
            some true
          else
          if zI (rA u 20 v3.toNat) = zI 95 then
            some true
          else
          if zI (rA u 20 v3.toNat) = zI 46 then
            some true
          else
          some false
        else
        if zI (rA u 20 v3.toNat) ≤ zI 122 then
          some true
        else
        if zI (rA u 20 v3.toNat) < zI 48 then
          if zI (rA u 20 v3.toNat) = zI 95 then
            some true
          else
          if zI (rA u 20 v3.toNat) = zI 46 then
            some true
          else
          some false
        else
        if zI (rA u 20 v3.toNat) ≤ zI 57 then
          some true
        else
        if zI (rA u 20 v3.toNat) = zI 95 then
          some true
        else
        if zI (rA u 20 v3.toNat) = zI 46 then
          some true
        else
        some false) : Option (Bool)) fun (b3 : Bool) =>
    if b3 = true then
      r_isName_28 F n u v2 (v3 + 1)
    else
    some 0) else none
def r_isName (F : Nat) (u : ZR) (v1 : Int) (v2 : Int) : Option (Int) :=
  Option.bind ((
      if zI (v2 - v1) < zI 1 then
        some true
      else
      if zI 7 < zI (v2 - v1) then
        some true
      else
      Option.bind (r_isDots F u v1 v2) fun (p1 : Int) =>
      if zI p1 = 0 then
        some false
      else
      some true) : Option (Bool)) fun (b2 : Bool) =>
  if b2 = true then
    some 0
  else
  r_isName_28 F F u v2 v1
def r_follow_55 (F : Nat) (k47 : ZR → Int → Int → Option (ZR)) : Nat → ZR → Int → Int → Int → Option (ZR)
  | 0, _, _, _, _ => none
  | n + 1, u, v2, v3, v4 =>
    Option.bind ((
        if zI v2 ≤ zI v4 then
          some true
        else
        if zix v4 200 then (
        if zI (rA u 20 v4.toNat) = zI 47 then
          some true
        else
        some false) else none) : Option (Bool)) fun (b3 : Bool) =>
    if b3 = true then
      Option.bind ((
          Option.bind ((
              if zI v4 = zI v3 then
                some true
              else
              if ¬ zI (v4 - v3) = zI 1 then
                some false
              else
              if zix v3 200 then (
              if ¬ zI (rA u 20 v3.toNat) = zI 46 then
                some false
              else
              some true) else none) : Option (Bool)) fun (b4 : Bool) =>
          if b4 = true then
            some (1)
          else
          some (0)) : Option (Int)) fun (x5 : Int) =>
      Option.bind ((
          if ¬ zI x5 = 0 then
            some (u)
          else
          Option.bind ((
              Option.bind ((
                  if zI (rI u 42) < 0 then
                    some true
                  else
                  if zix (rI u 42) 13 then (
                  if zI (rA u 4 (rI u 42).toNat) = 0 then
                    some true
                  else
                  some false) else none) : Option (Bool)) fun (b6 : Bool) =>
              if b6 = true then
                some (0)
              else
              some (1)) : Option (Int)) fun (x7 : Int) =>
          Option.bind (r_packed F u v3 v4) fun (p8 : Int64) =>
          Option.bind ((
              if ¬ zI x7 = 0 then
                Option.bind (r_isDots F (tJ u 44 p8) v3 v4) fun (p9 : Int) =>
                if zI p9 = 0 then
                  Option.bind (r_child F (tJ u 44 p8) (rI u 42) (rJ (tJ u 44 p8) 44)) fun (p10 : Int) =>
                  some (p10)
                else
                if zix (rI u 42) 13 then (
                some (rA (tJ u 44 p8) 5 (rI u 42).toNat)) else none
              else
              some ((-1))) : Option (Int)) fun (x11 : Int) =>
          Option.bind ((
              Option.bind ((
                  if zI x7 = 0 then
                    some true
                  else
                  if 0 ≤ zI (rI (tI (tJ u 44 p8) 42 x11) 42) then
                    some true
                  else
                  Option.bind (r_isName F (tI (tJ u 44 p8) 42 x11) v3 v4) fun (p12 : Int) =>
                  if zI p12 = 0 then
                    some true
                  else
                  some false) : Option (Bool)) fun (b13 : Bool) =>
              if b13 = true then
                some ((-1))
              else
              some (rI u 42)) : Option (Int)) fun (x14 : Int) =>
          some (tI (tI (tJ u 44 p8) 42 x11) 43 x14)) : Option (ZR)) fun (u15 : ZR) =>
      k47 u15 v2 (v4 + 1)
    else
    r_follow_55 F k47 n u v2 v3 (v4 + 1)
def r_follow_47 (F : Nat) : Nat → ZR → Int → Int → Option (ZR)
  | 0, _, _, _ => none
  | n + 1, u, v2, v3 =>
    if zI v2 ≤ zI v3 then
      some u
    else
    r_follow_55 F (r_follow_47 F n) F u v2 v3 v3
def r_follow (F : Nat) (u : ZR) (v1 : Int) : Option (ZR) :=
  if zix v1 65 then (
  Option.bind ((
      Option.bind ((
          if zI (rA u 18 v1.toNat) ≤ zI (rA u 17 v1.toNat) then
            some true
          else
          if zix (rA u 17 v1.toNat) 200 then (
          if ¬ zI (rA u 20 (rA u 17 v1.toNat).toNat) = zI 47 then
            some true
          else
          some false) else none) : Option (Bool)) fun (b1 : Bool) =>
      if b1 = true then
        some (rI u 9)
      else
      some (0)) : Option (Int)) fun (x2 : Int) =>
  r_follow_47 F F (tI (tI u 42 x2) 43 (-1)) (rA u 18 v1.toNat) (rA u 17 v1.toNat)) else none
def r_made_8 (F : Nat) : Nat → ZR → Int → Int → Int → Int → Option (Int × ZR)
  | 0, _, _, _, _, _ => none
  | n + 1, u, v1, v2, v3, v4 =>
    if zI v4 < zI 1 then
      if zI v2 < zI (rI u 0) then
        if zix v3 13 then (
        if zbl v1 then (
        Option.bind (some (tA (tA (tA u 3 v3.toNat 1) 4 v3.toNat v1) 5 v3.toNat (rI (tA (tA u 3 v3.toNat 1) 4 v3.toNat v1) 43))) fun (u1 : ZR) =>
        if zix v3 13 then (
        Option.bind (some (tA (tL u1 6 v3.toNat (rJ u1 44)) 7 v3.toNat 0)) fun (u2 : ZR) =>
        some (v3, u2)) else none) else none) else none
      else
      some ((-1), u)
    else
    if zix v4 13 then (
    Option.bind ((
        if zI (rA u 3 v4.toNat) = 0 then
          some (v2)
        else
        some (v2 + 1)) : Option (Int)) fun (x3 : Int) =>
    Option.bind ((
        if zI (rA u 3 v4.toNat) = 0 then
          some (v4)
        else
        some (v3)) : Option (Int)) fun (x4 : Int) =>
    r_made_8 F n u v1 x3 x4 (v4 + (-1))) else none
def r_made (F : Nat) (u : ZR) (v1 : Int) : Option (Int × ZR) :=
  r_made_8 F F u v1 0 0 12
def r_redirect_73 (F : Nat) : Nat → ZR → Int → Int → Option (Int × ZR)
  | 0, _, _, _ => none
  | n + 1, u, v3, v4 =>
    if zix (rI u 42) 13 then (
    if zI (rA u 7 (rI u 42).toNat) ≤ zI v4 then
      if zix (rI u 21) 5 then (
      some (0, tA u 24 (rI u 21).toNat v3)) else none
    else
    if zix ((160 * (rI u 42)) + v4) 2080 then (
    if zix ((160 * v3) + v4) 1600 then (
    Option.bind (some (tA u 32 ((160 * v3) + v4).toNat (rA u 8 ((160 * (rI u 42)) + v4).toNat))) fun (u12 : ZR) =>
    r_redirect_73 F n u12 v3 (v4 + 1)) else none) else none) else none
def r_redirect (F : Nat) (u : ZR) (v1 : Int) (v2 : Int) : Option (Int × ZR) :=
  Option.bind (r_expand F (tI (tI u 16 0) 19 0) v2) fun (u1 : ZR) =>
  Option.bind (r_follow F u1 0) fun (u2 : ZR) =>
  if ¬ zI v1 = zI 5 then
    Option.bind ((
        if zI (rI u2 42) < 0 then
          if 0 ≤ zI (rI u2 42) then
            some false
          else
          if 0 ≤ zI (rI u2 43) then
            some false
          else
          some true
        else
        if zix (rI u2 42) 13 then (
        if ¬ zI (rA u2 4 (rI u2 42).toNat) = 0 then
          some true
        else
        if 0 ≤ zI (rI u2 42) then
          some false
        else
        if 0 ≤ zI (rI u2 43) then
          some false
        else
        some true) else none) : Option (Bool)) fun (b3 : Bool) =>
    if b3 = true then
      some (1, u2)
    else
    zb2 ((
        if 0 ≤ zI (rI u2 42) then
          some (rI u2 42, u2)
        else
        zb2 (r_made F u2 0) fun (p4 : Int) (u5 : ZR) =>
        some (p4, u5)) : Option (Int × ZR)) fun (x6 : Int) (u7 : ZR) =>
    if 0 ≤ zI x6 then
      Option.bind ((
          if ¬ zI v1 = zI 7 then
            if zix x6 13 then (
            some (rA u7 7 x6.toNat)) else none
          else
          some (0)) : Option (Int)) fun (x8 : Int) =>
      if zix x6 13 then (
      if zix (rI (tA u7 7 x6.toNat x8) 21) 5 then (
      Option.bind (some (tA (tA u7 7 x6.toNat x8) 26 (rI (tA u7 7 x6.toNat x8) 21).toNat x6)) fun (u9 : ZR) =>
      some (0, u9)) else none) else none
    else
    some ((-9), u7)
  else
  Option.bind ((
      if zI (rI u2 42) < 0 then
        some true
      else
      if zix (rI u2 42) 13 then (
      if zI (rA u2 4 (rI u2 42).toNat) = 0 then
        some false
      else
      some true) else none) : Option (Bool)) fun (b10 : Bool) =>
  if b10 = true then
    some (1, u2)
  else
  if zix (rI u2 42) 13 then (
  if zix ((2 * (rI u2 21)) + 1) 10 then (
  Option.bind (some (tA u2 33 ((2 * (rI u2 21)) + 1).toNat (rA u2 7 (rI u2 42).toNat))) fun (u11 : ZR) =>
  r_redirect_73 F F u11 ((2 * (rI u2 21)) + 1) 0) else none) else none
def r_wordAs (F : Nat) (u : ZR) (v1 : Int) : Option (Int64) :=
  if zix v1 65 then (
  Option.bind (r_packed F u (rA u 17 v1.toNat) (rA u 18 v1.toNat)) fun (p1 : Int64) =>
  some p1) else none
def r_emit (F : Nat) (u : ZR) (v1 : Int) : Option (ZR) :=
  Option.bind ((
      if zI (rI u 35) < zI (rI u 2) then
        if zix (rI u 35) 96 then (
        Option.bind (some (tI (tA u 34 (rI u 35).toNat v1) 35 ((rI (tA u 34 (rI u 35).toNat v1) 35) + 1))) fun (u1 : ZR) =>
        some (u1)) else none
      else
      some (tI u 36 1)) : Option (ZR)) fun (u2 : ZR) =>
  some u2
def r_echo_65 (F : Nat) (k38 : ZR → Int → Int → Int → Option (Int × ZR)) : Nat → ZR → Int → Int → Int → Int → Option (Int × ZR)
  | 0, _, _, _, _, _ => none
  | n + 1, u, v1, v2, v3, v4 =>
    if zix v3 65 then (
    if zI (rA u 18 v3.toNat) ≤ zI v4 then
      k38 u v1 v2 (v3 + 1)
    else
    if zix v4 200 then (
    Option.bind (r_emit F u (rA u 20 v4.toNat)) fun (u9 : ZR) =>
    r_echo_65 F k38 n u9 v1 v2 v3 (v4 + 1)) else none) else none
def r_echo_38 (F : Nat) : Nat → ZR → Int → Int → Int → Option (Int × ZR)
  | 0, _, _, _, _ => none
  | n + 1, u, v1, v2, v3 =>
    if zI (rI u 16) ≤ zI v3 then
      Option.bind ((
          if ¬ zI v1 = 0 then
            some (u)
          else
          Option.bind (r_emit F u 10) fun (u5 : ZR) =>
          some (u5)) : Option (ZR)) fun (u6 : ZR) =>
      some (0, u6)
    else
    Option.bind ((
        if zI v3 ≤ zI v2 then
          some (u)
        else
        Option.bind (r_emit F u 32) fun (u7 : ZR) =>
        some (u7)) : Option (ZR)) fun (u8 : ZR) =>
    if zix v3 65 then (
    r_echo_65 F (r_echo_38 F n) F u8 v1 v2 v3 (rA u8 17 v3.toNat)) else none
def r_echo (F : Nat) (u : ZR) : Option (Int × ZR) :=
  Option.bind ((
      Option.bind ((
          if zI (rI u 16) ≤ zI 1 then
            some true
          else
          Option.bind (r_wordAs F u 1) fun (p1 : Int64) =>
          if ¬ p1 = (12787320231034880 : Int64) then
            some true
          else
          some false) : Option (Bool)) fun (b2 : Bool) =>
      if b2 = true then
        some (0)
      else
      some (1)) : Option (Int)) fun (x3 : Int) =>
  Option.bind ((
      if zI x3 = 0 then
        some (1)
      else
      some (2)) : Option (Int)) fun (x4 : Int) =>
  r_echo_38 F F u x3 x4 x4
def r_reads_174 (F : Nat) : Nat → ZR → Int → Int → Option (Int × ZR)
  | 0, _, _, _ => none
  | n + 1, u, v2, v3 =>
    if zI (rI u 38) < zI v3 then
      some (1, u)
    else
    Option.bind ((
        if zI (rI u 38) ≤ zI v3 then
          if zI v3 ≤ zI v2 then
            some (0)
          else
          some (1)
        else
        if zix v3 160 then (
        if ¬ zI (rA u 37 v3.toNat) = zI 10 then
          some (0)
        else
        some (1)) else none) : Option (Int)) fun (x4 : Int) =>
    zb2 ((
        if zI x4 = 0 then
          some (v2, u)
        else
        if zix (rI u 39) 161 then (
        if zix (rI (tA u 40 (rI u 39).toNat v2) 39) 161 then (
        Option.bind (some (tA (tA u 40 (rI u 39).toNat v2) 41 (rI (tA u 40 (rI u 39).toNat v2) 39).toNat v3)) fun (u5 : ZR) =>
        some (v3 + 1, tI u5 39 ((rI u5 39) + 1))) else none) else none) : Option (Int × ZR)) fun (x6 : Int) (u7 : ZR) =>
    r_reads_174 F n u7 x6 (v3 + 1)
def r_reads_126 (F : Nat) : Nat → ZR → Int → Int → Option (Int × ZR)
  | 0, _, _, _ => none
  | n + 1, u, v2, v3 =>
    if zI (rI u 38) ≤ zI v3 then
      if zix v2 10 then (
      r_reads_174 F F (tI (tA u 33 v2.toNat 0) 39 0) 0 0) else none
    else
    if zix ((160 * v2) + v3) 1600 then (
    if zix v3 160 then (
    Option.bind (some (tA u 37 v3.toNat (rA u 32 ((160 * v2) + v3).toNat))) fun (u8 : ZR) =>
    r_reads_126 F n u8 v2 (v3 + 1)) else none) else none
def r_reads_54 (F : Nat) : Nat → ZR → Int → Option (Int × ZR)
  | 0, _, _ => none
  | n + 1, u, v2 =>
    if zI (rI u 38) ≤ zI v2 then
      r_reads_174 F F (tI u 39 0) 0 0
    else
    if zix ((160 * (rI u 42)) + v2) 2080 then (
    if zix v2 160 then (
    Option.bind (some (tA u 37 v2.toNat (rA u 8 ((160 * (rI u 42)) + v2).toNat))) fun (u9 : ZR) =>
    r_reads_54 F n u9 (v2 + 1)) else none) else none
def r_reads (F : Nat) (u : ZR) (v1 : Int) : Option (Int × ZR) :=
  if zI (rI (tI u 38 0) 16) ≤ zI v1 then
    if zix (rI (tI u 38 0) 21) 5 then (
    if zI (rA (tI u 38 0) 24 (rI (tI u 38 0) 21).toNat) < 0 then
      r_reads_174 F F (tI (tI u 38 0) 39 0) 0 0
    else
    if zix (rA (tI u 38 0) 24 (rI (tI u 38 0) 21).toNat) 10 then (
    Option.bind (some (tI (tI u 38 0) 38 (rA (tI u 38 0) 33 (rA (tI u 38 0) 24 (rI (tI u 38 0) 21).toNat).toNat))) fun (u1 : ZR) =>
    r_reads_126 F F u1 (rA (tI u 38 0) 24 (rI (tI u 38 0) 21).toNat) 0) else none) else none
  else
  Option.bind (r_follow F (tI u 38 0) v1) fun (u2 : ZR) =>
  Option.bind ((
      if zI (rI u2 42) < 0 then
        some true
      else
      if zix (rI u2 42) 13 then (
      if zI (rA u2 4 (rI u2 42).toNat) = 0 then
        some false
      else
      some true) else none) : Option (Bool)) fun (b3 : Bool) =>
  if b3 = true then
    some (0, u2)
  else
  if zix (rI u2 42) 13 then (
  r_reads_54 F F (tI u2 38 (rA u2 7 (rI u2 42).toNat)) 0) else none
def r_cat_75 (F : Nat) (k61 : ZR → Int → Int → Option (Int × ZR)) : Nat → ZR → Int → Int → Int → Int → Option (Int × ZR)
  | 0, _, _, _, _, _ => none
  | n + 1, u, v1, v2, v3, v4 =>
    Option.bind ((
        if zI (rI u 38) ≤ zI v4 then
          some true
        else
        if zI v3 = 0 then
          some true
        else
        some false) : Option (Bool)) fun (b6 : Bool) =>
    if b6 = true then
      k61 u v1 (v2 + 1)
    else
    if zix v4 160 then (
    Option.bind (r_emit F u (rA u 37 v4.toNat)) fun (u7 : ZR) =>
    r_cat_75 F k61 n u7 v1 v2 v3 (v4 + 1)) else none
def r_cat_61 (F : Nat) : Nat → ZR → Int → Int → Option (Int × ZR)
  | 0, _, _, _ => none
  | n + 1, u, v1, v2 =>
    if zI v1 ≤ zI v2 then
      some (0, u)
    else
    zb2 (r_reads F u v2) fun (p4 : Int) (u5 : ZR) =>
    r_cat_75 F (r_cat_61 F n) F u5 v1 v2 p4 0
def r_cat_2 (F : Nat) : Nat → ZR → Int → Option (Int × ZR)
  | 0, _, _ => none
  | n + 1, u, v1 =>
    if zI (rI u 16) ≤ zI v1 then
      Option.bind ((
          if ¬ zI (rI u 16) = zI 1 then
            some (rI u 16)
          else
          some (2)) : Option (Int)) fun (x1 : Int) =>
      r_cat_61 F F u x1 1
    else
    Option.bind (r_follow F u v1) fun (u2 : ZR) =>
    Option.bind ((
        if zI (rI u2 42) < 0 then
          some true
        else
        if zix (rI u2 42) 13 then (
        if zI (rA u2 4 (rI u2 42).toNat) = 0 then
          some false
        else
        some true) else none) : Option (Bool)) fun (b3 : Bool) =>
    if b3 = true then
      some (1, u2)
    else
    r_cat_2 F n u2 (v1 + 1)
def r_cat (F : Nat) (u : ZR) : Option (Int × ZR) :=
  r_cat_2 F F u 1
def r_emitNumber_5 (F : Nat) : Nat → ZR → Int → Int → Option (ZR)
  | 0, _, _, _ => none
  | n + 1, u, v1, v2 =>
    if zI v2 ≤ 0 then
      some u
    else
    if ¬ zI v2 = 0 then (
    Option.bind (r_emit F u (48 + (zrem (zdiv v1 v2) 10))) fun (u2 : ZR) =>
    r_emitNumber_5 F n u2 v1 (zdiv v2 10)) else none
def r_emitNumber (F : Nat) (u : ZR) (v1 : Int) : Option (ZR) :=
  Option.bind (r_scale F u v1) fun (p1 : Int) =>
  r_emitNumber_5 F F u v1 p1
def r_wc_26 (F : Nat) : Nat → ZR → Int → Int → Int → Option (Int × ZR)
  | 0, _, _, _, _ => none
  | n + 1, u, v1, v2, v3 =>
    if zI (rI u 38) ≤ zI v3 then
      Option.bind (r_emitNumber F u v1) fun (u3 : ZR) =>
      Option.bind (r_emit F u3 32) fun (u4 : ZR) =>
      Option.bind (r_emitNumber F u4 v2) fun (u5 : ZR) =>
      Option.bind (r_emit F u5 32) fun (u6 : ZR) =>
      Option.bind (r_emitNumber F u6 (rI u6 38)) fun (u7 : ZR) =>
      Option.bind (r_emit F u7 10) fun (u8 : ZR) =>
      some (0, u8)
    else
    if zix v3 160 then (
    Option.bind ((
        if ¬ zI (rA u 37 v3.toNat) = zI 10 then
          some (v1)
        else
        some (v1 + 1)) : Option (Int)) fun (x9 : Int) =>
    Option.bind ((
        Option.bind ((
            if zI v3 = 0 then
              some true
            else
            if zix (v3 - 1) 160 then (
            if zI (rA u 37 (v3 - 1).toNat) = zI 10 then
              some true
            else
            if ¬ zI (rA u 37 (v3 - 1).toNat) = zI 32 then
              some false
            else
            some true) else none) : Option (Bool)) fun (b10 : Bool) =>
        if b10 = true then
          some (1)
        else
        some (0)) : Option (Int)) fun (x11 : Int) =>
    Option.bind ((
        Option.bind ((
            if zI x11 = 0 then
              some true
            else
            if zI (rA u 37 v3.toNat) = zI 10 then
              some true
            else
            if zI (rA u 37 v3.toNat) = zI 32 then
              some true
            else
            some false) : Option (Bool)) fun (b12 : Bool) =>
        if b12 = true then
          some (v2)
        else
        some (v2 + 1)) : Option (Int)) fun (x13 : Int) =>
    r_wc_26 F n u x9 x13 (v3 + 1)) else none
def r_wc (F : Nat) (u : ZR) : Option (Int × ZR) :=
  if zI (rI u 16) ≤ zI 2 then
    zb2 (r_reads F u 1) fun (p1 : Int) (u2 : ZR) =>
    if ¬ zI p1 = 0 then
      r_wc_26 F F u2 0 0 0
    else
    some (1, u2)
  else
  some (2, u)
def r_stands_3 (F : Nat) : Nat → ZR → Int → Int → Int → Int → Option (Int)
  | 0, _, _, _, _, _ => none
  | n + 1, u, v1, v2, v3, v4 =>
    if zI v2 ≤ zI v4 then
      some 1
    else
    if zix v4 200 then (
    Option.bind ((
        if zI (rA u 20 v4.toNat) = zI 46 then
          some true
        else
        if zix ((v3 + v4) - v1) 160 then (
        if zI (rA u 20 v4.toNat) = zI (rA u 37 ((v3 + v4) - v1).toNat) then
          some true
        else
        some false) else none) : Option (Bool)) fun (b1 : Bool) =>
    if b1 = true then
      r_stands_3 F n u v1 v2 v3 (v4 + 1)
    else
    some 0) else none
def r_stands (F : Nat) (u : ZR) (v1 : Int) (v2 : Int) (v3 : Int) : Option (Int) :=
  r_stands_3 F F u v1 v2 v3 v1
def r_emitLine_7 (F : Nat) : Nat → ZR → Int → Int → Option (ZR)
  | 0, _, _, _ => none
  | n + 1, u, v1, v2 =>
    if zix v1 161 then (
    if zI (rA u 41 v1.toNat) ≤ zI v2 then
      Option.bind (r_emit F u 10) fun (u1 : ZR) =>
      some u1
    else
    if zix v2 160 then (
    Option.bind (r_emit F u (rA u 37 v2.toNat)) fun (u2 : ZR) =>
    r_emitLine_7 F n u2 v1 (v2 + 1)) else none) else none
def r_emitLine (F : Nat) (u : ZR) (v1 : Int) : Option (ZR) :=
  if zix v1 161 then (
  r_emitLine_7 F F u v1 (rA u 40 v1.toNat)) else none
def r_grep_204 (F : Nat) (k169 : ZR → Int → Int → Int → Int → Int → Int → Int → Option (Int × ZR)) : Nat → ZR → Int → Int → Int → Int → Int → Int → Int → Int → Int → Int → Option (Int × ZR)
  | 0, _, _, _, _, _, _, _, _, _, _, _ => none
  | n + 1, u, v1, v3, v4, v5, v6, v7, v8, v9, v10, v11 =>
    if zI v10 < zI v11 then
      zb2 ((
          if zI v9 = zI v1 then
            some (v7, u)
          else
          Option.bind (r_emitLine F u v8) fun (u15 : ZR) =>
          some (v7 + 1, u15)) : Option (Int × ZR)) fun (x16 : Int) (u17 : ZR) =>
      k169 u17 v1 v3 v4 v5 v6 x16 (v8 + 1)
    else
    Option.bind ((
        Option.bind ((
            if zI v5 = 0 then
              if zI v6 = 0 then
                some false
              else
              if ¬ zI v11 = zI v10 then
                some true
              else
              some false
            else
            if zix v8 161 then (
            if ¬ zI v11 = zI (rA u 40 v8.toNat) then
              some true
            else
            if zI v6 = 0 then
              some false
            else
            if ¬ zI v11 = zI v10 then
              some true
            else
            some false) else none) : Option (Bool)) fun (b18 : Bool) =>
        if b18 = true then
          some (0)
        else
        some (1)) : Option (Int)) fun (x19 : Int) =>
    Option.bind ((
        Option.bind ((
            if ¬ zI v9 = 0 then
              some true
            else
            if zI x19 = 0 then
              some false
            else
            Option.bind (r_stands F u v3 v4 v11) fun (p20 : Int) =>
            if zI p20 = 0 then
              some false
            else
            some true) : Option (Bool)) fun (b21 : Bool) =>
        if b21 = true then
          some (1)
        else
        some (0)) : Option (Int)) fun (x22 : Int) =>
    r_grep_204 F k169 n u v1 v3 v4 v5 v6 v7 v8 x22 v10 (v11 + 1)
def r_grep_169 (F : Nat) : Nat → ZR → Int → Int → Int → Int → Int → Int → Int → Option (Int × ZR)
  | 0, _, _, _, _, _, _, _, _ => none
  | n + 1, u, v1, v3, v4, v5, v6, v7, v8 =>
    if zI (rI u 39) ≤ zI v8 then
      Option.bind ((
          if zI v7 ≤ 0 then
            some (1)
          else
          some (0)) : Option (Int)) fun (x14 : Int) =>
      some (x14, u)
    else
    if zix v8 161 then (
    r_grep_204 F (r_grep_169 F n) F u v1 v3 v4 v5 v6 v7 v8 0 ((rA u 41 v8.toNat) - (v4 - v3)) (rA u 40 v8.toNat)) else none
def r_grep (F : Nat) (u : ZR) : Option (Int × ZR) :=
  Option.bind ((
      Option.bind ((
          if zI (rI u 16) ≤ zI 1 then
            some true
          else
          Option.bind (r_wordAs F u 1) fun (p1 : Int64) =>
          if ¬ p1 = (12796116324057088 : Int64) then
            some true
          else
          some false) : Option (Bool)) fun (b2 : Bool) =>
      if b2 = true then
        some (0)
      else
      some (1)) : Option (Int)) fun (x3 : Int) =>
  Option.bind ((
      if zI x3 = 0 then
        some (1)
      else
      some (2)) : Option (Int)) fun (x4 : Int) =>
  Option.bind ((
      if zI (rI u 16) ≤ zI x4 then
        some true
      else
      if zI (rI u 16) ≤ zI (x4 + 2) then
        some false
      else
      some true) : Option (Bool)) fun (b5 : Bool) =>
  if b5 = true then
    some (2, u)
  else
  zb2 (r_reads F u (x4 + 1)) fun (p6 : Int) (u7 : ZR) =>
  if ¬ zI p6 = 0 then
    if zix x4 65 then (
    Option.bind ((
        Option.bind ((
            if zI (rA u7 18 x4.toNat) ≤ zI (rA u7 17 x4.toNat) then
              some true
            else
            if zix (rA u7 17 x4.toNat) 200 then (
            if ¬ zI (rA u7 20 (rA u7 17 x4.toNat).toNat) = zI 94 then
              some true
            else
            some false) else none) : Option (Bool)) fun (b8 : Bool) =>
        if b8 = true then
          some (0)
        else
        some (1)) : Option (Int)) fun (x9 : Int) =>
    Option.bind ((
        if zI x9 = 0 then
          some (rA u7 17 x4.toNat)
        else
        some ((rA u7 17 x4.toNat) + 1)) : Option (Int)) fun (x10 : Int) =>
    Option.bind ((
        Option.bind ((
            if zI (rA u7 18 x4.toNat) ≤ zI x10 then
              some true
            else
            if zix ((rA u7 18 x4.toNat) - 1) 200 then (
            if ¬ zI (rA u7 20 ((rA u7 18 x4.toNat) - 1).toNat) = zI 36 then
              some true
            else
            some false) else none) : Option (Bool)) fun (b11 : Bool) =>
        if b11 = true then
          some (0)
        else
        some (1)) : Option (Int)) fun (x12 : Int) =>
    Option.bind ((
        if zI x12 = 0 then
          some (rA u7 18 x4.toNat)
        else
        some ((rA u7 18 x4.toNat) - 1)) : Option (Int)) fun (x13 : Int) =>
    r_grep_169 F F u7 x3 x10 x13 x9 x12 0 0) else none
  else
  some (1, u7)
def r_emitName_3 (F : Nat) : Nat → ZR → Int64 → Int → Option (ZR)
  | 0, _, _, _ => none
  | n + 1, u, v1, v3 =>
    if zI v3 < 0 then
      some u
    else
    Option.bind ((
        if zI (zand (zl2i (zlshr v1 (8 * v3))) 255) = 0 then
          some (u)
        else
        Option.bind (r_emit F u (zand (zl2i (zlshr v1 (8 * v3))) 255)) fun (u1 : ZR) =>
        some (u1)) : Option (ZR)) fun (u2 : ZR) =>
    r_emitName_3 F n u2 v1 (v3 + (-1))
def r_emitName (F : Nat) (u : ZR) (v1 : Int64) : Option (ZR) :=
  r_emitName_3 F F u v1 6
def r_ls_89 (F : Nat) (k77 : ZR → Int64 → Int → Option (Int × ZR)) : Nat → ZR → Int64 → Int → Int → Int → Option (Int × ZR)
  | 0, _, _, _, _, _ => none
  | n + 1, u, v1, v3, v4, v5 =>
    if zI 13 ≤ zI v5 then
      zb2 ((
          if zI v4 < 0 then
            some (v1, u)
          else
          if zix v4 13 then (
          Option.bind (r_emitName F u (rL u 6 v4.toNat)) fun (u5 : ZR) =>
          Option.bind ((
              if zI (rA u5 4 v4.toNat) = 0 then
                some (u5)
              else
              Option.bind (r_emit F u5 47) fun (u6 : ZR) =>
              some (u6)) : Option (ZR)) fun (u7 : ZR) =>
          Option.bind (r_emit F u7 10) fun (u8 : ZR) =>
          some (rL u 6 v4.toNat, u8)) else none) : Option (Int64 × ZR)) fun (x9 : Int64) (u10 : ZR) =>
      k77 u10 x9 (v3 + 1)
    else
    if zix v5 13 then (
    Option.bind ((
        Option.bind ((
            if zI (rA u 3 v5.toNat) = 0 then
              some true
            else
            if ¬ zI (rA u 5 v5.toNat) = zI (rI u 42) then
              some true
            else
            if (rL u 6 v5.toNat) ≤ v1 then
              some true
            else
            some false) : Option (Bool)) fun (b11 : Bool) =>
        if b11 = true then
          some (0)
        else
        some (1)) : Option (Int)) fun (x12 : Int) =>
    Option.bind ((
        Option.bind ((
            if zI x12 = 0 then
              some true
            else
            if zI v4 < 0 then
              some false
            else
            if zix v4 13 then (
            if (rL u 6 v4.toNat) ≤ (rL u 6 v5.toNat) then
              some true
            else
            some false) else none) : Option (Bool)) fun (b13 : Bool) =>
        if b13 = true then
          some (v4)
        else
        some (v5)) : Option (Int)) fun (x14 : Int) =>
    r_ls_89 F k77 n u v1 v3 x14 (v5 + 1)) else none
def r_ls_77 (F : Nat) : Nat → ZR → Int64 → Int → Option (Int × ZR)
  | 0, _, _, _ => none
  | n + 1, u, v1, v3 =>
    if zI 12 ≤ zI v3 then
      some (0, u)
    else
    r_ls_89 F (r_ls_77 F n) F u v1 v3 (-1) 1
def r_ls (F : Nat) (u : ZR) : Option (Int × ZR) :=
  if zI (rI u 16) ≤ zI 2 then
    Option.bind ((
        if ¬ zI (rI (tI u 42 (rI u 9)) 16) = zI 2 then
          some (tI u 42 (rI u 9))
        else
        Option.bind (r_follow F (tI u 42 (rI u 9)) 1) fun (u1 : ZR) =>
        some (u1)) : Option (ZR)) fun (u2 : ZR) =>
    if 0 ≤ zI (rI u2 42) then
      if zix (rI u2 42) 13 then (
      if ¬ zI (rA u2 4 (rI u2 42).toNat) = 0 then
        r_ls_77 F F u2 (0 : Int64) 0
      else
      Option.bind (r_emitName F u2 (rL u2 6 (rI u2 42).toNat)) fun (u3 : ZR) =>
      Option.bind (r_emit F u3 10) fun (u4 : ZR) =>
      some (0, u4)) else none
    else
    some (1, u2)
  else
  some (2, u)
def r_mkdir (F : Nat) (u : ZR) : Option (Int × ZR) :=
  if zI (rI u 16) = zI 2 then
    Option.bind (r_follow F u 1) fun (u1 : ZR) =>
    if 0 ≤ zI (rI u1 43) then
      zb2 (r_made F u1 1) fun (p2 : Int) (u3 : ZR) =>
      Option.bind ((
          if 0 ≤ zI p2 then
            some (0)
          else
          some ((-9))) : Option (Int)) fun (x4 : Int) =>
      some (x4, u3)
    else
    some (1, u1)
  else
  some (2, u)
def r_cd (F : Nat) (u : ZR) : Option (Int × ZR) :=
  if zI (rI u 16) ≤ zI 2 then
    Option.bind ((
        if ¬ zI (rI (tI u 42 0) 16) = zI 2 then
          some (tI u 42 0)
        else
        Option.bind (r_follow F (tI u 42 0) 1) fun (u1 : ZR) =>
        some (u1)) : Option (ZR)) fun (u2 : ZR) =>
    Option.bind ((
        if zI (rI u2 42) < 0 then
          some true
        else
        if zix (rI u2 42) 13 then (
        if ¬ zI (rA u2 4 (rI u2 42).toNat) = 0 then
          some false
        else
        some true) else none) : Option (Bool)) fun (b3 : Bool) =>
    if b3 = true then
      some (1, u2)
    else
    some (0, tI u2 9 (rI u2 42))
  else
  some (2, u)
def r_tool (F : Nat) (u : ZR) : Option (Int × ZR) :=
  Option.bind (r_wordAs F u 0) fun (p1 : Int64) =>
  zb2 ((
      if ¬ p1 = (28538272837795840 : Int64) then
        if ¬ p1 = (27973173538455552 : Int64) then
          if ¬ p1 = (33604373879717888 : Int64) then
            if ¬ p1 = (29117702597509120 : Int64) then
              if ¬ p1 = (30525741321945088 : Int64) then
                if ¬ p1 = (30798851471441920 : Int64) then
                  if ¬ p1 = (27975973857132544 : Int64) then
                    some (127, u)
                  else
                  zb2 (r_cd F u) fun (p2 : Int) (u3 : ZR) =>
                  some (p2, u3)
                else
                zb2 (r_mkdir F u) fun (p4 : Int) (u5 : ZR) =>
                some (p4, u5)
              else
              zb2 (r_ls F u) fun (p6 : Int) (u7 : ZR) =>
              some (p6, u7)
            else
            zb2 (r_grep F u) fun (p8 : Int) (u9 : ZR) =>
            some (p8, u9)
          else
          zb2 (r_wc F u) fun (p10 : Int) (u11 : ZR) =>
          some (p10, u11)
        else
        zb2 (r_cat F u) fun (p12 : Int) (u13 : ZR) =>
        some (p12, u13)
      else
      zb2 (r_echo F u) fun (p14 : Int) (u15 : ZR) =>
      some (p14, u15)) : Option (Int × ZR)) fun (x16 : Int) (u17 : ZR) =>
  some (x16, u17)
def r_startCommand_274 (F : Nat) : Nat → ZR → Int → Int → Option (Int × ZR)
  | 0, _, _, _ => none
  | n + 1, u, v2, v4 =>
    if zI v2 ≤ zI v4 then
      Option.bind (some (tI (tI u 22 v2) 48 ((rI (tI u 22 v2) 48) + 1))) fun (u14 : ZR) =>
      zb2 (r_tool F u14) fun (p15 : Int) (u16 : ZR) =>
      Option.bind ((
          if zI p15 ≤ 0 then
            some (u16)
          else
          some (tI (tI u16 35 0) 36 0)) : Option (ZR)) fun (u17 : ZR) =>
      Option.bind ((
          if zI (rI u17 36) = 0 then
            some (p15)
          else
          some ((-9))) : Option (Int)) fun (x18 : Int) =>
      some (x18, u17)
    else
    if zix v4 64 then (
    Option.bind ((
        Option.bind ((
            if ¬ zI (rA u 13 v4.toNat) = 0 then
              some true
            else
            if zI v4 = zI (rI u 22) then
              some false
            else
            if zix (v4 - 1) 64 then (
            Option.bind (r_redirects F u (rA u 13 (v4 - 1).toNat)) fun (p19 : Int) =>
            if ¬ zI p19 = 0 then
              some true
            else
            some false) else none) : Option (Bool)) fun (b20 : Bool) =>
        if b20 = true then
          some (u)
        else
        Option.bind (r_expand F u v4) fun (u21 : ZR) =>
        some (u21)) : Option (ZR)) fun (u22 : ZR) =>
    r_startCommand_274 F n u22 v2 (v4 + 1)) else none
def r_startCommand_89 (F : Nat) : Nat → ZR → Int → Int → Int → Int → Option (Int × ZR)
  | 0, _, _, _, _, _ => none
  | n + 1, u, v1, v2, v3, v4 =>
    if zI v2 ≤ zI v4 then
      if zI v1 = 0 then
        r_startCommand_274 F F (tI (tI u 16 0) 19 0) v2 (rI (tI (tI u 16 0) 19 0) 22)
      else
      Option.bind (some (tI (tI u 22 ((rI u 22) + 1)) 21 ((rI (tI u 22 ((rI u 22) + 1)) 21) + 1))) fun (u5 : ZR) =>
      if zix ((rI u5 21) - 1) 5 then (
      if zix (rI u5 21) 5 then (
      Option.bind (some (tA u5 23 (rI u5 21).toNat (rA u5 24 ((rI u5 21) - 1).toNat))) fun (u6 : ZR) =>
      if zix (rI u6 21) 5 then (
      Option.bind (r_startPipeline F (tA u6 31 (rI u6 21).toNat 0)) fun (u7 : ZR) =>
      some ((-1), u7)) else none) else none) else none
    else
    if zix v4 64 then (
    Option.bind ((
        if ¬ zI (rA u 13 v4.toNat) = zI 8 then
          if ¬ zI (rA u 13 v4.toNat) = zI 9 then
            some (v3)
          else
          some (v3 - 1)
        else
        some (v3 + 1)) : Option (Int)) fun (x8 : Int) =>
    Option.bind ((
        if ¬ zI x8 = 0 then
          some true
        else
        Option.bind (r_redirects F u (rA u 13 v4.toNat)) fun (p9 : Int) =>
        if zI p9 = 0 then
          some true
        else
        some false) : Option (Bool)) fun (b10 : Bool) =>
    if b10 = true then
      r_startCommand_89 F n u v1 v2 x8 (v4 + 1)
    else
    zb2 (r_redirect F u (rA u 13 v4.toNat) (v4 + 1)) fun (p11 : Int) (u12 : ZR) =>
    if zI p11 = 0 then
      r_startCommand_89 F n u12 v1 v2 x8 (v4 + 1)
    else
    Option.bind ((
        if zI p11 ≤ 0 then
          some (rI u12 22)
        else
        some (v2)) : Option (Int)) fun (x13 : Int) =>
    some (p11, tI u12 22 x13)) else none
def r_startCommand (F : Nat) (u : ZR) : Option (Int × ZR) :=
  if zix (rI u 21) 5 then (
  if zix (rI (tA u 27 (rI u 21).toNat (rI u 9)) 21) 5 then (
  Option.bind (some (tA (tA u 27 (rI u 21).toNat (rI u 9)) 24 (rI (tA u 27 (rI u 21).toNat (rI u 9)) 21).toNat (rA (tA u 27 (rI u 21).toNat (rI u 9)) 25 (rI (tA u 27 (rI u 21).toNat (rI u 9)) 21).toNat))) fun (u1 : ZR) =>
  if zix (rI u1 21) 5 then (
  Option.bind (some (tI (tI (tA u1 26 (rI u1 21).toNat (-1)) 35 0) 36 0)) fun (u2 : ZR) =>
  if zix (rI u2 22) 64 then (
  Option.bind ((
      if ¬ zI (rA u2 13 (rI u2 22).toNat) = zI 8 then
        some (0)
      else
      some (1)) : Option (Int)) fun (x3 : Int) =>
  Option.bind (r_pipelineEnd F u2 (rI u2 22) 1) fun (p4 : Int) =>
  r_startCommand_89 F F u2 x3 p4 0 (rI u2 22)) else none) else none) else none) else none
def r_chars_4 (F : Nat) : Nat → ZR → Int → Int → Option (Int)
  | 0, _, _, _ => none
  | n + 1, u, v1, v2 =>
    if zI 13 ≤ zI v2 then
      some v1
    else
    if zix v2 13 then (
    Option.bind ((
        if zI (rA u 3 v2.toNat) = 0 then
          some (v1)
        else
        some (v1 + (rA u 7 v2.toNat))) : Option (Int)) fun (x1 : Int) =>
    r_chars_4 F n u x1 (v2 + 1)) else none
def r_chars (F : Nat) (u : ZR) : Option (Int) :=
  r_chars_4 F F u 0 0
def r_addTo_22 (F : Nat) : Nat → ZR → Int → Int → Option (Int × ZR)
  | 0, _, _, _ => none
  | n + 1, u, v1, v3 =>
    if zI (rI u 35) ≤ zI v3 then
      if zix v1 13 then (
      Option.bind (some (tA u 7 v1.toNat ((rA u 7 v1.toNat) + (rI u 35)))) fun (u2 : ZR) =>
      some (1, u2)) else none
    else
    if zix v1 13 then (
    if zix v3 96 then (
    if zix (((160 * v1) + (rA u 7 v1.toNat)) + v3) 2080 then (
    Option.bind (some (tA u 8 (((160 * v1) + (rA u 7 v1.toNat)) + v3).toNat (rA u 34 v3.toNat))) fun (u3 : ZR) =>
    r_addTo_22 F n u3 v1 (v3 + 1)) else none) else none) else none
def r_addTo (F : Nat) (u : ZR) (v1 : Int) : Option (Int × ZR) :=
  Option.bind (r_chars F u) fun (p1 : Int) =>
  if zI (p1 + (rI u 35)) ≤ zI (rI u 1) then
    r_addTo_22 F F u v1 0
  else
  some (0, u)
def r_fill_12 (F : Nat) : Nat → ZR → Int → Int → Option (ZR)
  | 0, _, _, _ => none
  | n + 1, u, v1, v2 =>
    if zI (rI u 35) ≤ zI v2 then
      some u
    else
    if zix v2 96 then (
    if zix ((160 * v1) + v2) 1600 then (
    Option.bind (some (tA u 32 ((160 * v1) + v2).toNat (rA u 34 v2.toNat))) fun (u1 : ZR) =>
    r_fill_12 F n u1 v1 (v2 + 1)) else none) else none
def r_fill (F : Nat) (u : ZR) (v1 : Int) : Option (ZR) :=
  if zix v1 10 then (
  r_fill_12 F F (tA u 33 v1.toNat (rI u 35)) v1 0) else none
def r_goOn_0 (F : Nat) : Nat → ZR → Option (ZR)
  | 0, _ => none
  | n + 1, u =>
    Option.bind (r_kindAt F u (rI u 22)) fun (p1 : Int) =>
    Option.bind ((
        if ¬ zI p1 = zI 2 then
          Option.bind (r_kindAt F u (rI u 22)) fun (p2 : Int) =>
          if ¬ zI p2 = zI 3 then
            some false
          else
          if ¬ zI (rI u 45) = 0 then
            some false
          else
          some true
        else
        if ¬ zI (rI u 45) = 0 then
          some true
        else
        Option.bind (r_kindAt F u (rI u 22)) fun (p3 : Int) =>
        if ¬ zI p3 = zI 3 then
          some false
        else
        if ¬ zI (rI u 45) = 0 then
          some false
        else
        some true) : Option (Bool)) fun (b4 : Bool) =>
    if b4 = true then
      Option.bind (r_pipelineEnd F u ((rI u 22) + 1) 0) fun (p5 : Int) =>
      r_goOn_0 F n (tI u 22 p5)
    else
    Option.bind (r_kindAt F u (rI u 22)) fun (p6 : Int) =>
    Option.bind ((
        if ¬ zI p6 = zI 1 then
          some (u)
        else
        some (tI u 22 ((rI u 22) + 1))) : Option (ZR)) fun (u7 : ZR) =>
    Option.bind ((
        Option.bind ((
            if zI p6 = zI 2 then
              some true
            else
            if zI p6 = zI 3 then
              some true
            else
            if ¬ zI p6 = zI 1 then
              some false
            else
            if zI (rI u7 12) ≤ zI (rI u7 22) then
              some false
            else
            if zix (rI u7 22) 64 then (
            if zI (rA u7 13 (rI u7 22).toNat) = zI 9 then
              some false
            else
            some true) else none) : Option (Bool)) fun (b8 : Bool) =>
        if b8 = true then
          some (1)
        else
        some (0)) : Option (Int)) fun (x9 : Int) =>
    Option.bind ((
        if zI x9 = 0 then
          some (u7)
        else
        Option.bind ((
            if ¬ zI p6 = zI 1 then
              some ((rI u7 22) + 1)
            else
            some (rI u7 22)) : Option (Int)) fun (x10 : Int) =>
        Option.bind (r_startPipeline F (tI u7 22 x10)) fun (u11 : ZR) =>
        some (u11)) : Option (ZR)) fun (u12 : ZR) =>
    some u12
def r_goOn (F : Nat) (u : ZR) : Option (ZR) :=
  r_goOn_0 F F u
def r_endCommand_138 (F : Nat) : Nat → ZR → Int → Int → Option (Int × ZR)
  | 0, _, _, _ => none
  | n + 1, u, v1, v3 =>
    if zI (rI u 35) ≤ zI v3 then
      if zix (rI u 21) 5 then (
      Option.bind (some (tA u 31 (rI u 21).toNat ((rA u 31 (rI u 21).toNat) + (rI u 35)))) fun (u8 : ZR) =>
      if zix (rI u8 21) 5 then (
      Option.bind ((
          if ¬ zI (rA u8 29 (rI u8 21).toNat) = 0 then
            if ¬ zI v1 = 0 then
              some (0)
            else
            some (1)
          else
          some (v1)) : Option (Int)) fun (x9 : Int) =>
      Option.bind (r_goOn F (tI u8 45 x9)) fun (u10 : ZR) =>
      some (1, u10)) else none) else none
    else
    if zix (rI u 21) 5 then (
    if zix v3 96 then (
    if zix (((96 * (rI u 21)) + (rA u 31 (rI u 21).toNat)) + v3) 480 then (
    Option.bind (some (tA u 30 (((96 * (rI u 21)) + (rA u 31 (rI u 21).toNat)) + v3).toNat (rA u 34 v3.toNat))) fun (u11 : ZR) =>
    r_endCommand_138 F n u11 v1 (v3 + 1)) else none) else none) else none
def r_endCommand_64 (F : Nat) (u : ZR) (v1 : Int) : Option (Int × ZR) :=
  Option.bind (r_kindAt F u (rI u 22)) fun (p5 : Int) =>
  if ¬ zI p5 = zI 4 then
    if zix (rI u 21) 5 then (
    if zI ((rA u 31 (rI u 21).toNat) + (rI u 35)) ≤ zI (rI u 2) then
      r_endCommand_138 F F u v1 0
    else
    some (0, u)) else none
  else
  Option.bind (r_fill F u (2 * (rI u 21))) fun (u6 : ZR) =>
  if zix (rI u6 21) 5 then (
  Option.bind (some (tA u6 25 (rI u6 21).toNat (2 * (rI u6 21)))) fun (u7 : ZR) =>
  some (1, tI u7 22 ((rI u7 22) + 1))) else none
def r_endCommand (F : Nat) (u : ZR) (v1 : Int) (v2 : Int) : Option (Int × ZR) :=
  Option.bind ((
      Option.bind ((
          if ¬ zI v2 = 0 then
            some true
          else
          if zix (rI u 21) 5 then (
          if zI (rA u 28 (rI u 21).toNat) = 0 then
            some false
          else
          some true) else none) : Option (Bool)) fun (b1 : Bool) =>
      if b1 = true then
        if zix (rI u 21) 5 then (
        some (tI u 9 (rA u 27 (rI u 21).toNat))) else none
      else
      some (u)) : Option (ZR)) fun (u2 : ZR) =>
  if zix (rI u2 21) 5 then (
  if zI (rA u2 26 (rI u2 21).toNat) < 0 then
    r_endCommand_64 F u2 v1
  else
  zb2 (r_addTo F u2 (rA u2 26 (rI u2 21).toNat)) fun (p3 : Int) (u4 : ZR) =>
  if ¬ zI p3 = 0 then
    r_endCommand_64 F (tI u4 35 0) v1
  else
  some (0, u4)) else none
def r_closeGroup_15 (F : Nat) : Nat → ZR → Int → Option (Int × ZR)
  | 0, _, _ => none
  | n + 1, u, v1 =>
    if zI (rI u 35) ≤ zI v1 then
      Option.bind (r_pipelineEnd F (tI u 21 ((rI u 21) - 1)) ((rI (tI u 21 ((rI u 21) - 1)) 22) + 1) 1) fun (p1 : Int) =>
      zb2 (r_endCommand F (tI (tI u 21 ((rI u 21) - 1)) 22 p1) (rI (tI (tI u 21 ((rI u 21) - 1)) 22 p1) 45) 1) fun (p2 : Int) (u3 : ZR) =>
      if zbl p2 then (
      some (p2, u3)) else none
    else
    if zix ((96 * (rI u 21)) + v1) 480 then (
    if zix v1 96 then (
    Option.bind (some (tA u 34 v1.toNat (rA u 30 ((96 * (rI u 21)) + v1).toNat))) fun (u4 : ZR) =>
    r_closeGroup_15 F n u4 (v1 + 1)) else none) else none
def r_closeGroup (F : Nat) (u : ZR) : Option (Int × ZR) :=
  if zix (rI u 21) 5 then (
  r_closeGroup_15 F F (tI u 35 (rA u 31 (rI u 21).toNat)) 0) else none
def r_execute_41 (F : Nat) (k6 : ZR → Int → Option (Int × ZR)) : Nat → ZR → Int → Int → Option (Int × ZR)
  | 0, _, _, _ => none
  | n + 1, u, v1, v2 =>
    Option.bind ((
        if zI v2 < 0 then
          some true
        else
        Option.bind (r_kindAt F u (rI u 22)) fun (p6 : Int) =>
        if ¬ zI p6 = zI 9 then
          some true
        else
        some false) : Option (Bool)) fun (b7 : Bool) =>
    if b7 = true then
      Option.bind ((
          if zI v2 < 0 then
            some true
          else
          if zI (rI u 22) < zI (rI u 12) then
            some true
          else
          some false) : Option (Bool)) fun (b8 : Bool) =>
      if b8 = true then
        k6 u (v1 + 1)
      else
      some (1, u)
    else
    zb2 (r_closeGroup F u) fun (p9 : Int) (u10 : ZR) =>
    if ¬ zI p9 = 0 then
      r_execute_41 F k6 n u10 v1 v2
    else
    some (0, u10)
def r_execute_6 (F : Nat) : Nat → ZR → Int → Option (Int × ZR)
  | 0, _, _ => none
  | n + 1, u, v1 =>
    if zI 300 ≤ zI v1 then
      some (1, u)
    else
    zb2 (r_startCommand F u) fun (p2 : Int) (u3 : ZR) =>
    if ¬ zI p2 = zI (-9) then
      if zI p2 < 0 then
        r_execute_41 F (r_execute_6 F n) F u3 v1 p2
      else
      zb2 (r_endCommand F u3 p2 0) fun (p4 : Int) (u5 : ZR) =>
      if ¬ zI p4 = 0 then
        r_execute_41 F (r_execute_6 F n) F u5 v1 p2
      else
      some (0, u5)
    else
    some (0, u3)
def r_execute (F : Nat) (u : ZR) : Option (Int × ZR) :=
  Option.bind (r_startPipeline F u) fun (u1 : ZR) =>
  r_execute_6 F F u1 0
def r_giveUp_5 (F : Nat) : Nat → ZR → Int → Option (ZR)
  | 0, _, _ => none
  | n + 1, u, v1 =>
    if zI v1 < 0 then
      some (tI u 45 100)
    else
    Option.bind ((
        Option.bind ((
            if zI v1 < zI (rI u 21) then
              some true
            else
            if zix v1 5 then (
            if zI (rA u 28 v1.toNat) = 0 then
              some false
            else
            some true) else none) : Option (Bool)) fun (b1 : Bool) =>
        if b1 = true then
          if zix v1 5 then (
          some (tI u 9 (rA u 27 v1.toNat))) else none
        else
        some (u)) : Option (ZR)) fun (u2 : ZR) =>
    r_giveUp_5 F n u2 (v1 + (-1))
def r_giveUp (F : Nat) (u : ZR) : Option (ZR) :=
  r_giveUp_5 F F u (rI u 21)
def r_enter_80 (F : Nat) : Nat → ZR → Int → Option (Int × ZR)
  | 0, _, _ => none
  | n + 1, u, v2 =>
    if zI (rI u 46) ≤ zI v2 then
      some (rI u 45, u)
    else
    if zix v2 480 then (
    if zix v2 96 then (
    r_enter_80 F n (tA u 47 v2.toNat (rA u 30 v2.toNat)) (v2 + 1)) else none) else none
def r_enter (F : Nat) (u : ZR) : Option (Int × ZR) :=
  zb2 (r_grammar F u) fun (p1 : Int) (u2 : ZR) =>
  if ¬ zI p1 = 0 then
    Option.bind (some (tI (tI (tI (tI (tI u2 10 0) 46 0) 48 0) 21 0) 22 0)) fun (u3 : ZR) =>
    if zix 0 5 then (
    Option.bind ((
        if zI (rI (tA (tA u3 23 0 (-1)) 31 0 0) 12) ≤ 0 then
          some (tA (tA u3 23 0 (-1)) 31 0 0)
        else
        zb2 (r_execute F (tA (tA u3 23 0 (-1)) 31 0 0)) fun (p4 : Int) (u5 : ZR) =>
        if ¬ zI p4 = 0 then
          some (u5)
        else
        Option.bind (r_giveUp F u5) fun (u6 : ZR) =>
        some (u6)) : Option (ZR)) fun (u7 : ZR) =>
    r_enter_80 F F (tI u7 46 (rA u7 31 0)) 0) else none
  else
  some ((-1), tI (tI (tI u2 10 0) 46 0) 48 0)
def r_status (F : Nat) (u : ZR) : Option (Int) :=
  some (rI u 45)
def r_length (F : Nat) (u : ZR) : Option (Int) :=
  some (rI u 46)
def r_out_20 (F : Nat) : Nat → ZR → Int → Int64 → Int → Option (Int64)
  | 0, _, _, _, _ => none
  | n + 1, u, v1, v2, v4 =>
    if zI ((8 * v1) + 8) ≤ zI v4 then
      some v2
    else
    Option.bind ((
        if zI (rI u 46) ≤ zI v4 then
          some (0)
        else
        if zix v4 96 then (
        some (rA u 47 v4.toNat)) else none) : Option (Int)) fun (x2 : Int) =>
    r_out_20 F n u v1 ((zlshl v2 8) ||| (zi2l x2)) (v4 + 1)
def r_out (F : Nat) (u : ZR) (v1 : Int) : Option (Int64) :=
  Option.bind ((
      if zI v1 < 0 then
        some true
      else
      if zI v1 ≤ zI 11 then
        some false
      else
      some true) : Option (Bool)) fun (b1 : Bool) =>
  if b1 = true then
    some (0 : Int64)
  else
  r_out_20 F F u v1 (0 : Int64) (8 * v1)
def r_ran (F : Nat) (u : ZR) : Option (Int) :=
  some (rI u 48)
def r_nodes_4 (F : Nat) : Nat → ZR → Int → Int → Option (Int)
  | 0, _, _, _ => none
  | n + 1, u, v1, v2 =>
    if zI 13 ≤ zI v2 then
      some v1
    else
    if zix v2 13 then (
    Option.bind ((
        if zI (rA u 3 v2.toNat) = 0 then
          some (v1)
        else
        some (v1 + 1)) : Option (Int)) fun (x1 : Int) =>
    r_nodes_4 F n u x1 (v2 + 1)) else none
def r_nodes (F : Nat) (u : ZR) : Option (Int) :=
  r_nodes_4 F F u 0 1
def r_depth_7 (F : Nat) : Nat → ZR → Int → Int → Option (Int)
  | 0, _, _, _ => none
  | n + 1, u, v1, v2 =>
    Option.bind ((
        if zI v2 = 0 then
          some true
        else
        if zI 13 ≤ zI v1 then
          some true
        else
        some false) : Option (Bool)) fun (b1 : Bool) =>
    if b1 = true then
      some v1
    else
    if zix v2 13 then (
    r_depth_7 F n u (v1 + 1) (rA u 5 v2.toNat)) else none
def r_depth (F : Nat) (u : ZR) : Option (Int) :=
  r_depth_7 F F u 0 (rI u 9)
