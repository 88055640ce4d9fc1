/-! reading a state over a setting -/
theorem cI_sI (u : ZC) (f o : Nat) (v : Int) (g b : Nat) : cI (sI u f o v) g b = if g = f ∧ b = o then v else cI u g b := rfl
theorem cJ_sI (u : ZC) (f o : Nat) (v : Int) (g b : Nat) : cJ (sI u f o v) g b = cJ u g b := rfl
theorem cP_sI (u : ZC) (f o : Nat) (v : Int) (g b : Nat) : cP (sI u f o v) g b = cP u g b := rfl
theorem cA_sI (u : ZC) (f o : Nat) (v : Int) (g b j : Nat) : cA (sI u f o v) g b j = cA u g b j := rfl
theorem cN_sI (u : ZC) (f o : Nat) (v : Int) (t : Nat) : cN (sI u f o v) t = cN u t := rfl
theorem cL_sI (u : ZC) (f o : Nat) (v : Int) : cL (sI u f o v) = cL u := rfl
theorem cI_sJ (u : ZC) (f o : Nat) (v : Int64) (g b : Nat) : cI (sJ u f o v) g b = cI u g b := rfl
theorem cJ_sJ (u : ZC) (f o : Nat) (v : Int64) (g b : Nat) : cJ (sJ u f o v) g b = if g = f ∧ b = o then v else cJ u g b := rfl
theorem cP_sJ (u : ZC) (f o : Nat) (v : Int64) (g b : Nat) : cP (sJ u f o v) g b = cP u g b := rfl
theorem cA_sJ (u : ZC) (f o : Nat) (v : Int64) (g b j : Nat) : cA (sJ u f o v) g b j = cA u g b j := rfl
theorem cN_sJ (u : ZC) (f o : Nat) (v : Int64) (t : Nat) : cN (sJ u f o v) t = cN u t := rfl
theorem cL_sJ (u : ZC) (f o : Nat) (v : Int64) : cL (sJ u f o v) = cL u := rfl
theorem cI_sP (u : ZC) (f o : Nat) (v : Option Nat) (g b : Nat) : cI (sP u f o v) g b = cI u g b := rfl
theorem cJ_sP (u : ZC) (f o : Nat) (v : Option Nat) (g b : Nat) : cJ (sP u f o v) g b = cJ u g b := rfl
theorem cP_sP (u : ZC) (f o : Nat) (v : Option Nat) (g b : Nat) : cP (sP u f o v) g b = if g = f ∧ b = o then v else cP u g b := rfl
theorem cA_sP (u : ZC) (f o : Nat) (v : Option Nat) (g b j : Nat) : cA (sP u f o v) g b j = cA u g b j := rfl
theorem cN_sP (u : ZC) (f o : Nat) (v : Option Nat) (t : Nat) : cN (sP u f o v) t = cN u t := rfl
theorem cL_sP (u : ZC) (f o : Nat) (v : Option Nat) : cL (sP u f o v) = cL u := rfl
theorem cI_sA (u : ZC) (f o i : Nat) (v : Int) (g b : Nat) : cI (sA u f o i v) g b = cI u g b := rfl
theorem cJ_sA (u : ZC) (f o i : Nat) (v : Int) (g b : Nat) : cJ (sA u f o i v) g b = cJ u g b := rfl
theorem cP_sA (u : ZC) (f o i : Nat) (v : Int) (g b : Nat) : cP (sA u f o i v) g b = cP u g b := rfl
theorem cA_sA (u : ZC) (f o i : Nat) (v : Int) (g b j : Nat) : cA (sA u f o i v) g b j = if g = f ∧ b = o ∧ j = i then v else cA u g b j := rfl
theorem cN_sA (u : ZC) (f o i : Nat) (v : Int) (t : Nat) : cN (sA u f o i v) t = cN u t := rfl
theorem cL_sA (u : ZC) (f o i : Nat) (v : Int) : cL (sA u f o i v) = cL u := rfl
theorem rI_tI (u : ZR) (k : Nat) (v : Int) (a : Nat) : rI (tI u k v) a = if a = k then v else rI u a := rfl
theorem rJ_tI (u : ZR) (k : Nat) (v : Int) (a : Nat) : rJ (tI u k v) a = rJ u a := rfl
theorem rA_tI (u : ZR) (k : Nat) (v : Int) (a j : Nat) : rA (tI u k v) a j = rA u a j := rfl
theorem rL_tI (u : ZR) (k : Nat) (v : Int) (a j : Nat) : rL (tI u k v) a j = rL u a j := rfl
theorem rI_tJ (u : ZR) (k : Nat) (v : Int64) (a : Nat) : rI (tJ u k v) a = rI u a := rfl
theorem rJ_tJ (u : ZR) (k : Nat) (v : Int64) (a : Nat) : rJ (tJ u k v) a = if a = k then v else rJ u a := rfl
theorem rA_tJ (u : ZR) (k : Nat) (v : Int64) (a j : Nat) : rA (tJ u k v) a j = rA u a j := rfl
theorem rL_tJ (u : ZR) (k : Nat) (v : Int64) (a j : Nat) : rL (tJ u k v) a j = rL u a j := rfl
theorem rI_tA (u : ZR) (k i : Nat) (v : Int) (a : Nat) : rI (tA u k i v) a = rI u a := rfl
theorem rJ_tA (u : ZR) (k i : Nat) (v : Int) (a : Nat) : rJ (tA u k i v) a = rJ u a := rfl
theorem rA_tA (u : ZR) (k i : Nat) (v : Int) (a j : Nat) : rA (tA u k i v) a j = if a = k ∧ j = i then v else rA u a j := rfl
theorem rL_tA (u : ZR) (k i : Nat) (v : Int) (a j : Nat) : rL (tA u k i v) a j = rL u a j := rfl
theorem rI_tL (u : ZR) (k i : Nat) (v : Int64) (a : Nat) : rI (tL u k i v) a = rI u a := rfl
theorem rJ_tL (u : ZR) (k i : Nat) (v : Int64) (a : Nat) : rJ (tL u k i v) a = rJ u a := rfl
theorem rA_tL (u : ZR) (k i : Nat) (v : Int64) (a j : Nat) : rA (tL u k i v) a j = rA u a j := rfl
theorem rL_tL (u : ZR) (k i : Nat) (v : Int64) (a j : Nat) : rL (tL u k i v) a j = if a = k ∧ j = i then v else rL u a j := rfl
