/-! The typed state of the class (ZC) and of the reference (ZR), its readings and settings; the numbers: an int is an Int here, zI of it on the machine. -/
abbrev ZC : Type := (Nat → Nat → Int) × (Nat → Nat → Int64) × (Nat → Nat → Option Nat) × (Nat → Nat → Nat → Int) × (Nat → Nat) × List (Nat × Nat)
abbrev ZR : Type := (Nat → Int) × (Nat → Int64) × (Nat → Nat → Int) × (Nat → Nat → Int64)
def cI (u : ZC) (f o : Nat) : Int := u.1 f o
def cJ (u : ZC) (f o : Nat) : Int64 := u.2.1 f o
def cP (u : ZC) (f o : Nat) : Option Nat := u.2.2.1 f o
def cA (u : ZC) (f o i : Nat) : Int := u.2.2.2.1 f o i
def cN (u : ZC) (t : Nat) : Nat := u.2.2.2.2.1 t
def cL (u : ZC) : List (Nat × Nat) := u.2.2.2.2.2
def sI (u : ZC) (f o : Nat) (v : Int) : ZC := (fun a b => if a = f ∧ b = o then v else u.1 a b, u.2)
def sJ (u : ZC) (f o : Nat) (v : Int64) : ZC := (u.1, fun a b => if a = f ∧ b = o then v else u.2.1 a b, u.2.2)
def sP (u : ZC) (f o : Nat) (v : Option Nat) : ZC := (u.1, u.2.1, fun a b => if a = f ∧ b = o then v else u.2.2.1 a b, u.2.2.2)
def sA (u : ZC) (f o i : Nat) (v : Int) : ZC := (u.1, u.2.1, u.2.2.1, fun a b j => if a = f ∧ b = o ∧ j = i then v else u.2.2.2.1 a b j, u.2.2.2.2)
/-- n letters of Text t from place p on go to Text w, place q on -/
def sCopy (u : ZC) (t p w q n : Nat) : ZC := (u.1, u.2.1, u.2.2.1, fun a b j => if a = 0 ∧ b = w ∧ q ≤ j ∧ j < q + n then u.2.2.2.1 0 t (p + (j - q)) else u.2.2.2.1 a b j, u.2.2.2.2)
def rI (u : ZR) (k : Nat) : Int := u.1 k
def rJ (u : ZR) (k : Nat) : Int64 := u.2.1 k
def rA (u : ZR) (k i : Nat) : Int := u.2.2.1 k i
def rL (u : ZR) (k i : Nat) : Int64 := u.2.2.2 k i
def tI (u : ZR) (k : Nat) (v : Int) : ZR := (fun a => if a = k then v else u.1 a, u.2)
def tJ (u : ZR) (k : Nat) (v : Int64) : ZR := (u.1, fun a => if a = k then v else u.2.1 a, u.2.2)
def tA (u : ZR) (k i : Nat) (v : Int) : ZR := (u.1, u.2.1, fun a j => if a = k ∧ j = i then v else u.2.2.1 a j, u.2.2.2)
def tL (u : ZR) (k i : Nat) (v : Int64) : ZR := (u.1, u.2.1, u.2.2.1, fun a j => if a = k ∧ j = i then v else u.2.2.2 a j)
def zI (x : Int) : Int32 := Int32.ofInt x
def zdiv (a b : Int) : Int := (zI a / zI b).toInt
def zrem (a b : Int) : Int := (zI a - zI a / zI b * zI b).toInt
def zand (a b : Int) : Int := (zI a &&& zI b).toInt
def zchr (a : Int) : Int := ((zI a).toUInt32 % 65536).toInt32.toInt
def zl2i (x : Int64) : Int := x.toInt32.toInt
def zi2l (a : Int) : Int64 := (zI a).toInt64
def zlshl (x : Int64) (b : Int) : Int64 := x <<< ((zI b).toInt64 &&& 63)
def zlshr (x : Int64) (b : Int) : Int64 := x >>> ((zI b).toInt64 &&& 63)
def zlushr (x : Int64) (b : Int) : Int64 := (x.toUInt64 >>> ((zI b).toInt64.toUInt64 &&& Int64.toUInt64 63)).toInt64
def zmax (a b : Int) : Int := if zI a < zI b then b else a
def zmin (a b : Int) : Int := if zI b < zI a then b else a
/-- a place of an array of n -/
abbrev zix (i : Int) (n : Nat) : Prop := 0 ≤ i ∧ i < n ∧ i < 2147483648
abbrev zch (x : Int) : Prop := 0 ≤ x ∧ x < 65536
abbrev zbl (x : Int) : Prop := x = 0 ∨ x = 1
/-- Text t, Node n stand in the world -/
abbrev zlT (u : ZC) (t : Nat) : Prop := t < 23 ∨ ((1, t) ∈ cL u ∧ (2, t) ∈ cL u)
abbrev zlN (u : ZC) (n : Nat) : Prop := n = 0 ∨ (3, n) ∈ cL u
abbrev zlO (u : ZC) (o : Option Nat) : Prop := o.all (fun n => decide (zlN u n)) = true
abbrev zcp (u : ZC) (t : Nat) (p : Int) (w : Nat) (q n : Int) : Prop := (0 ≤ p ∧ 0 ≤ q ∧ 0 ≤ n) ∧ (p + n ≤ cN u t ∧ q + n ≤ cN u w ∧ p + n < 2147483648 ∧ q + n < 2147483648) ∧ ∀ i, i < n.toNat → zch (cA u 0 t (p.toNat + i))
/-- a new Text t for len letters; a new Node n -/
def sNT (u : ZC) (t len : Nat) : ZC := (fun a b => if b = t ∧ (a = 0 ∨ a = 1) then 0 else u.1 a b, u.2.1, u.2.2.1, fun a b j => if a = 0 ∧ b = t then 0 else u.2.2.2.1 a b j, fun x => if x = t then len else u.2.2.2.2.1 x, u.2.2.2.2.2 ++ [(1, t), (2, t)])
def sNN (u : ZC) (n : Nat) (p : Option Nat) (nm : Int64) (ct w : Option Nat) : ZC := (u.1, fun a b => if a = 0 ∧ b = n then nm else u.2.1 a b, fun a b => if a = 5 ∧ b = n then p else if a = 6 ∧ b = n then ct else if a = 7 ∧ b = n then w else u.2.2.1 a b, u.2.2.2.1, u.2.2.2.2.1, u.2.2.2.2.2 ++ [(3, n)])
/-- nothing that lives names the node n (or its Text) -/
abbrev zfr (u : ZC) (n : Nat) : Prop := (∀ f ∈ [0, 1, 2, 3], cP u f 0 ≠ some n) ∧ (∀ k ∈ [0, 1, 2, 3, 4], cP u 4 k ≠ some (n + 23)) ∧ ∀ i ∈ (3, 0) :: cL u, cP u 5 i.2 ≠ some n ∧ cP u 6 i.2 ≠ some (n + 23) ∧ cP u 7 i.2 ≠ some n
/-- Tree.make: the one maker behind the constructors; the new node's number is the count of nodes -/
def cTree_make (F : Nat) (u : ZC) (v1 : Int) : Option (Option Nat × ZC) :=
  Option.elim (cP u 3 0) (some (none, u)) fun (p : Nat) =>
  if zI (cI u 4 0) ≤ zI (cI u 6 0) then
    some (none, u)
  else
  if (0 ≤ cI u 6 0 ∧ cI u 6 0 < 1000) ∧ (0 ≤ cI u 5 0 ∧ cI u 5 0 ≤ 160) ∧ zlN u p ∧ zlO u (cP u 0 0) ∧ zfr u ((cI u 6 0).toNat + 1) ∧ (3, (cI u 6 0).toNat + 1) ∉ cL u ∧ (1, (cI u 6 0).toNat + 24) ∉ cL u ∧ (2, (cI u 6 0).toNat + 24) ∉ cL u ∧ (∀ i ∈ cL u, i.1 ≠ 4) then (
  if zI v1 = 0 then
    some (some ((cI u 6 0).toNat + 1), sI (sP (sNN u ((cI u 6 0).toNat + 1) (some p) (cJ u 1 0) none (cP u 0 0)) 0 0 (some ((cI u 6 0).toNat + 1))) 6 0 (cI u 6 0 + 1))
  else
  some (some ((cI u 6 0).toNat + 1), sI (sP (sNN (sNT u ((cI u 6 0).toNat + 24) (cI u 5 0).toNat) ((cI u 6 0).toNat + 1) (some p) (cJ u 1 0) (some ((cI u 6 0).toNat + 24)) (cP u 0 0)) 0 0 (some ((cI u 6 0).toNat + 1))) 6 0 (cI u 6 0 + 1))) else none
/-- the new object and the new reference: nodes, chars, pipe as they are kept -/
def zu0 (mn mc pp : Int) : ZC := (fun f o => if o = 0 then (if f = 4 then mn else if f = 5 then mc else 0) else 0, fun _ _ => 0, fun f o => if o = 0 then (if f = 0 then some 0 else if f = 1 then some 0 else none) else none, fun _ _ _ => 0, fun t => if t = 0 then 64 else if t = 1 then 96 else if t = 2 then 0 else if (t - 3) % 4 = 3 then mc.toNat else pp.toNat, [])
def zr0 (mn mc pp : Int) : ZR := (fun k => if k = 0 then mn else if k = 1 then mc else if k = 2 then pp else 0, fun _ => 0, fun k i => if k = 3 then (if i = 0 then 1 else 0) else if k = 4 then (if i = 0 then 1 else 0) else 0, fun _ _ => 0)
/-- the literals -/
def zstr : List (List Int) := [[45, 110], [45, 118], [101, 99, 104, 111], [99, 97, 116], [119, 99], [103, 114, 101, 112], [108, 115], [109, 107, 100, 105, 114], [99, 100]]
def strN (k : Nat) : Nat := (zstr.getD k []).length
def strC (k i : Nat) : Int := (zstr.getD k []).getD i 0
def zb2 {α β γ : Type} (a : Option (α × β)) (f : α → β → Option γ) : Option γ := a.bind fun x => f x.1 x.2
def zb3 {α β γ δ : Type} (a : Option (α × β × γ)) (f : α → β → γ → Option δ) : Option δ := a.bind fun x => f x.1 x.2.1 x.2.2
def zb4 {α β γ δ ε : Type} (a : Option (α × β × γ × δ)) (f : α → β → γ → δ → Option ε) : Option ε := a.bind fun x => f x.1 x.2.1 x.2.2.1 x.2.2.2
theorem zb2_some {α β γ : Type} (x : α) (w : β) (f : α → β → Option γ) : zb2 (some (x, w)) f = f x w := rfl
theorem zb3_some {α β γ δ : Type} (x : α) (w : β) (z : γ) (f : α → β → γ → Option δ) : zb3 (some (x, w, z)) f = f x w z := rfl
theorem zb4_some {α β γ δ ε : Type} (x : α) (w : β) (z : γ) (t : δ) (f : α → β → γ → δ → Option ε) : zb4 (some (x, w, z, t)) f = f x w z t := rfl
/-- what a 'some' says of its parts -/
theorem zg {c : Prop} [Decidable c] {α : Type} {a : Option α} {o : α} (h : (if c then a else none) = some o) : c ∧ a = some o := by
  by_cases hc : c
  · rw [if_pos hc] at h
    exact ⟨hc, h⟩
  · rw [if_neg hc] at h
    cases h
theorem ze1 {α β : Type} {a : Option α} {f : α → Option β} {o : β} (h : Option.bind a f = some o) : ∃ x, a = some x ∧ f x = some o := by
  cases a with
  | none => cases h
  | some x => exact ⟨x, rfl, h⟩
theorem ze2 {α β γ : Type} {a : Option (α × β)} {f : α → β → Option γ} {o : γ} (h : zb2 a f = some o) : ∃ x w, a = some (x, w) ∧ f x w = some o := by
  cases a with
  | none => cases h
  | some x => exact ⟨x.1, x.2, rfl, h⟩
theorem ze3 {α β γ δ : Type} {a : Option (α × β × γ)} {f : α → β → γ → Option δ} {o : δ} (h : zb3 a f = some o) : ∃ x w z, a = some (x, w, z) ∧ f x w z = some o := by
  cases a with
  | none => cases h
  | some x => exact ⟨x.1, x.2.1, x.2.2, rfl, h⟩
theorem ze4 {α β γ δ ε : Type} {a : Option (α × β × γ × δ)} {f : α → β → γ → δ → Option ε} {o : ε} (h : zb4 a f = some o) : ∃ x w z t, a = some (x, w, z, t) ∧ f x w z t = some o := by
  cases a with
  | none => cases h
  | some x => exact ⟨x.1, x.2.1, x.2.2.1, x.2.2.2, rfl, h⟩
theorem zes {α : Type} {a : Option Nat} {f : Nat → Option α} {o : α} (h : Option.elim a none f = some o) : ∃ n, a = some n ∧ f n = some o := by
  cases a with
  | none => cases h
  | some x => exact ⟨x, rfl, h⟩
theorem zI_add (a b : Int) : zI a + zI b = zI (a + b) := (Int32.ofInt_add a b).symm
theorem zI_sub (a b : Int) : zI a - zI b = zI (a - b) := (Int32.ofInt_sub a b).symm
theorem zI_mul (a b : Int) : zI a * zI b = zI (a * b) := (Int32.ofInt_mul a b).symm
theorem zI_toInt {a : Int} (h : -2147483648 ≤ a) (h2 : a < 2147483648) : (zI a).toInt = a := Int32.toInt_ofInt_of_le (by omega) (by omega)
theorem zI_of (x : Int32) : zI x.toInt = x := Int32.ofInt_toInt x
theorem zI_cl {i : Int} {n : Nat} (h : zix i n) : (zI i).toNatClampNeg = i.toNat := Int32.toNatClampNeg_ofInt_of_le (by omega) (by omega)
theorem zI_in {i : Int} {n : Nat} (h : zix i n) : vp_in (zI i) n := by
  rw [vp_in_iff, zI_toInt (by omega) (by omega)]
  omega
theorem zI_lt {a b : Int} (h : -2147483648 ≤ a) (h2 : a < 2147483648) (h3 : -2147483648 ≤ b) (h4 : b < 2147483648) : zI a < zI b ↔ a < b := by
  rw [Int32.lt_iff_toInt_lt, zI_toInt h h2, zI_toInt h3 h4]
theorem zI_le {a b : Int} (h : -2147483648 ≤ a) (h2 : a < 2147483648) (h3 : -2147483648 ≤ b) (h4 : b < 2147483648) : zI a ≤ zI b ↔ a ≤ b := by
  rw [Int32.le_iff_toInt_le, zI_toInt h h2, zI_toInt h3 h4]
theorem zI_eq {a b : Int} (h : -2147483648 ≤ a) (h2 : a < 2147483648) (h3 : -2147483648 ≤ b) (h4 : b < 2147483648) : zI a = zI b ↔ a = b := by
  rw [← Int32.toInt_inj, zI_toInt h h2, zI_toInt h3 h4]
