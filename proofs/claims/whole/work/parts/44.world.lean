def zrf (ad : Nat × Nat → Nat) (k : Nat) (w : Option Nat) : Value := va_rf (w.map fun n => ad (k, n))
def zcell (ad : Nat × Nat → Nat) (y : Nat → ClassId) (u : ZC) (r : ZR) (i : Nat × Nat) : va_E := match i with
  | (0, 0) => .inr (0, [.ref (ad (1, 0)), .ref (ad (0, 1)), .ref (ad (0, 2)), .ref (ad (0, 3)), .ref (ad (0, 4))])
  | (0, 1) => .inr (1, [.ref (ad (1, 0)), .ref (ad (0, 8)), .ref (ad (0, 9)), .ref (ad (0, 10)), .int (zI (cI u 2 0))])
  | (0, 2) => .inr (2, [.ref (ad (0, 1)), .int (zI (cI u 3 0))])
  | (0, 3) => .inr (3, [.int (zI (cI u 4 0)), .int (zI (cI u 5 0)), .ref (ad (3, 0)), zrf ad 3 (cP u 0 0), zrf ad 3 (cP u 1 0), .int (zI (cI u 6 0)), .int (zI (cI u 7 0)), zrf ad 3 (cP u 2 0), zrf ad 3 (cP u 3 0), .long (cJ u 1 0)])
  | (0, 4) => .inr (4, [.ref (ad (1, 2)), .ref (ad (0, 1)), .ref (ad (0, 3)), .ref (ad (0, 5)), .ref (ad (0, 6)), .ref (ad (0, 7)), .int (zI (cI u 8 0)), .int (zI (cI u 9 0))])
  | (0, 5) => .inr (5, [.ref (ad (1, 1)), .ref (ad (0, 11)), .int (zI (cI u 10 0))])
  | (0, 6) => .inr (6, [.ref (ad (0, 5)), .ref (ad (0, 3))])
  | (0, 7) => .inl (y 4, 5, .inr (.inr (.inr (.inr (fun k => some (ad (4, k)))))))
  | (0, 8) => .inl (y 0, 64, .inl (fun i => zI (cA u 1 0 i)))
  | (0, 9) => .inl (y 0, 64, .inl (fun i => zI (cA u 2 0 i)))
  | (0, 10) => .inl (y 0, 64, .inl (fun i => zI (cA u 3 0 i)))
  | (0, 11) => .inl (y 0, 64, .inl (fun i => zI (cA u 4 0 i)))
  | (1, t) => .inr (7, [.ref (ad (2, t)), .int (zI (cI u 0 t)), .int (zI (cI u 1 t))])
  | (2, t) => .inl (y 1, cN u t, .inl (fun i => zI (cA u 0 t i)))
  | (3, t) => .inr (8, [zrf ad 3 (cP u 5 t), .long (cJ u 0 t), zrf ad 1 (cP u 6 t), zrf ad 3 (cP u 7 t)])
  | (4, t) => .inr (9, [.ref (ad (1, (3 + 4 * t))), .ref (ad (1, (4 + 4 * t))), .ref (ad (1, (5 + 4 * t))), .ref (ad (1, (6 + 4 * t))), .int (zI (cI u 11 t)), zrf ad 1 (cP u 4 t)])
  | (10, 0) => .inr (10, [.int (zI (rI r 0)), .int (zI (rI r 1)), .int (zI (rI r 2)), .ref (ad (11, 3)), .ref (ad (11, 4)), .ref (ad (11, 5)), .ref (ad (11, 6)), .ref (ad (11, 7)), .ref (ad (11, 8)), .int (zI (rI r 9)), .int (zI (rI r 10)), .ref (ad (11, 11)), .int (zI (rI r 12)), .ref (ad (11, 13)), .ref (ad (11, 14)), .ref (ad (11, 15)), .int (zI (rI r 16)), .ref (ad (11, 17)), .ref (ad (11, 18)), .int (zI (rI r 19)), .ref (ad (11, 20)), .int (zI (rI r 21)), .int (zI (rI r 22)), .ref (ad (11, 23)), .ref (ad (11, 24)), .ref (ad (11, 25)), .ref (ad (11, 26)), .ref (ad (11, 27)), .ref (ad (11, 28)), .ref (ad (11, 29)), .ref (ad (11, 30)), .ref (ad (11, 31)), .ref (ad (11, 32)), .ref (ad (11, 33)), .ref (ad (11, 34)), .int (zI (rI r 35)), .int (zI (rI r 36)), .ref (ad (11, 37)), .int (zI (rI r 38)), .int (zI (rI r 39)), .ref (ad (11, 40)), .ref (ad (11, 41)), .int (zI (rI r 42)), .int (zI (rI r 43)), .long (rJ r 44), .int (zI (rI r 45)), .int (zI (rI r 46)), .ref (ad (11, 47)), .int (zI (rI r 48))])
  | (11, 3) => .inl (y 2, 13, .inl (fun i => zI (rA r 3 i)))
  | (11, 4) => .inl (y 2, 13, .inl (fun i => zI (rA r 4 i)))
  | (11, 5) => .inl (y 0, 13, .inl (fun i => zI (rA r 5 i)))
  | (11, 6) => .inl (y 3, 13, .inr (.inl (fun i => rL r 6 i)))
  | (11, 7) => .inl (y 0, 13, .inl (fun i => zI (rA r 7 i)))
  | (11, 8) => .inl (y 0, 2080, .inl (fun i => zI (rA r 8 i)))
  | (11, 11) => .inl (y 0, 64, .inl (fun i => zI (rA r 11 i)))
  | (11, 13) => .inl (y 0, 64, .inl (fun i => zI (rA r 13 i)))
  | (11, 14) => .inl (y 0, 64, .inl (fun i => zI (rA r 14 i)))
  | (11, 15) => .inl (y 0, 64, .inl (fun i => zI (rA r 15 i)))
  | (11, 17) => .inl (y 0, 65, .inl (fun i => zI (rA r 17 i)))
  | (11, 18) => .inl (y 0, 65, .inl (fun i => zI (rA r 18 i)))
  | (11, 20) => .inl (y 0, 200, .inl (fun i => zI (rA r 20 i)))
  | (11, 23) => .inl (y 0, 5, .inl (fun i => zI (rA r 23 i)))
  | (11, 24) => .inl (y 0, 5, .inl (fun i => zI (rA r 24 i)))
  | (11, 25) => .inl (y 0, 5, .inl (fun i => zI (rA r 25 i)))
  | (11, 26) => .inl (y 0, 5, .inl (fun i => zI (rA r 26 i)))
  | (11, 27) => .inl (y 0, 5, .inl (fun i => zI (rA r 27 i)))
  | (11, 28) => .inl (y 2, 5, .inl (fun i => zI (rA r 28 i)))
  | (11, 29) => .inl (y 2, 5, .inl (fun i => zI (rA r 29 i)))
  | (11, 30) => .inl (y 0, 480, .inl (fun i => zI (rA r 30 i)))
  | (11, 31) => .inl (y 0, 5, .inl (fun i => zI (rA r 31 i)))
  | (11, 32) => .inl (y 0, 1600, .inl (fun i => zI (rA r 32 i)))
  | (11, 33) => .inl (y 0, 10, .inl (fun i => zI (rA r 33 i)))
  | (11, 34) => .inl (y 0, 96, .inl (fun i => zI (rA r 34 i)))
  | (11, 37) => .inl (y 0, 160, .inl (fun i => zI (rA r 37 i)))
  | (11, 40) => .inl (y 0, 161, .inl (fun i => zI (rA r 40 i)))
  | (11, 41) => .inl (y 0, 161, .inl (fun i => zI (rA r 41 i)))
  | (11, 47) => .inl (y 0, 96, .inl (fun i => zI (rA r 47 i)))
  | _ => .inl (y 0, 0, .inl (fun _ => 0))
def zids : List (Nat × Nat) := [(0, 0), (0, 1), (0, 2), (0, 3), (0, 4), (0, 5), (0, 6), (0, 7), (0, 8), (0, 9), (0, 10), (0, 11), (1, 0), (2, 0), (1, 1), (2, 1), (1, 2), (2, 2), (1, 3), (2, 3), (1, 4), (2, 4), (1, 5), (2, 5), (1, 6), (2, 6), (1, 7), (2, 7), (1, 8), (2, 8), (1, 9), (2, 9), (1, 10), (2, 10), (1, 11), (2, 11), (1, 12), (2, 12), (1, 13), (2, 13), (1, 14), (2, 14), (1, 15), (2, 15), (1, 16), (2, 16), (1, 17), (2, 17), (1, 18), (2, 18), (1, 19), (2, 19), (1, 20), (2, 20), (1, 21), (2, 21), (1, 22), (2, 22), (3, 0), (4, 0), (4, 1), (4, 2), (4, 3), (4, 4)]
def zrids : List (Nat × Nat) := [(10, 0), (11, 3), (11, 4), (11, 5), (11, 6), (11, 7), (11, 8), (11, 11), (11, 13), (11, 14), (11, 15), (11, 17), (11, 18), (11, 20), (11, 23), (11, 24), (11, 25), (11, 26), (11, 27), (11, 28), (11, 29), (11, 30), (11, 31), (11, 32), (11, 33), (11, 34), (11, 37), (11, 40), (11, 41), (11, 47)]
def zid (q : Bool) (u : ZC) : List (Nat × Nat) := zids ++ cL u ++ (if q = true then zrids else [])
def zws (q : Bool) (ad : Nat × Nat → Nat) (y : Nat → ClassId) (u : ZC) (r : ZR) : va_W := (zid q u).map fun i => (ad i, zcell ad y u r i)
abbrev ztys (y : Nat → ClassId) : List (ClassId × FieldType) := [(y 0, .int), (y 1, .char), (y 2, .boolean), (y 3, .long), (y 4, .object "TreeShell$Level")]
/-- the world: every id that lives holds its cell; the addresses are apart and lie from B on -/
def ZW (D : va_G) (B : Nat) (y : Nat → ClassId) (ad : Nat × Nat → Nat) (q : Bool) (u : ZC) (r : ZR) (H : Heap) : Prop := va_P D ZCL (zws q ad y u r) H ∧ va_D (fun x => B ≤ x) (zws q ad y u r)
def ZP (D : va_G) (B : Nat) (y : Nat → ClassId) (ad : Nat × Nat → Nat) (q : Bool) (u : ZC) (r : ZR) (U : State) : Prop := B ≤ U.heap.size ∧ ZW D B y ad q u r U.heap ∧ va_K D ZCL (ztys y) U
theorem zw_at {q : Bool} {ad : Nat × Nat → Nat} {y : Nat → ClassId} {u : ZC} {r : ZR} {i : Nat × Nat} (hi : i ∈ zid q u) : ∃ k : Nat, (zws q ad y u r)[k]? = some (ad i, zcell ad y u r i) := by
  obtain ⟨k, hk⟩ := List.getElem?_of_mem hi
  exact ⟨k, by rw [zws, List.getElem?_map, hk]; rfl⟩
theorem zw_set {q : Bool} {ad : Nat × Nat → Nat} {y : Nat → ClassId} {u v : ZC} {r w : ZR} {i : Nat × Nat} {A : Nat → Prop} {k : Nat} {e : va_E} (hD : va_D A (zws q ad y u r)) (hk : (zws q ad y u r)[k]? = some (ad i, zcell ad y u r i)) (hi : i ∈ zid q u) (hL : zid q v = zid q u) (he : zcell ad y v w i = e) (ho : ∀ j, j ∈ zid q u → j ≠ i → zcell ad y v w j = zcell ad y u r j) : (zws q ad y u r).set k (ad i, e) = zws q ad y v w := by
  subst he
  obtain ⟨k2, hk2⟩ := List.getElem?_of_mem hi
  have h2 : (zws q ad y u r)[k2]? = some (ad i, zcell ad y u r i) := by rw [zws, List.getElem?_map, hk2]; rfl
  have e2 : k2 = k := hD.1 k2 k _ _ h2 hk rfl
  subst e2
  apply List.ext_getElem?
  intro j
  by_cases hj : j = k2
  · subst hj
    rw [List.getElem?_set_self (List.getElem?_eq_some_iff.mp hk).1, zws, hL, List.getElem?_map, hk2]
    rfl
  · rw [List.getElem?_set_ne (Ne.symm hj), zws, zws, hL, List.getElem?_map, List.getElem?_map]
    cases hq : (zid q u)[j]? with
    | none => rfl
    | some a =>
      have hne : a ≠ i := by
        intro ha
        subst ha
        have h3 : (zws q ad y u r)[j]? = some (ad a, zcell ad y u r a) := by rw [zws, List.getElem?_map, hq]; rfl
        exact hj (hD.1 j k2 _ _ h3 h2 rfl)
      show some (ad a, zcell ad y u r a) = some (ad a, zcell ad y v w a)
      rw [ho a (List.mem_of_getElem? hq) hne]
theorem zw_inj {D : va_G} {B : Nat} {y : Nat → ClassId} {ad : Nat × Nat → Nat} {q : Bool} {u : ZC} {r : ZR} {H : Heap} (h : ZW D B y ad q u r H) {i j : Nat × Nat} (hi : i ∈ zid q u) (hj : j ∈ zid q u) (e : ad i = ad j) : i = j := by
  obtain ⟨k, hk⟩ := List.getElem?_of_mem hi
  obtain ⟨k2, hk2⟩ := List.getElem?_of_mem hj
  have h1 : (zws q ad y u r)[k]? = some (ad i, zcell ad y u r i) := by rw [zws, List.getElem?_map, hk]; rfl
  have h2 : (zws q ad y u r)[k2]? = some (ad j, zcell ad y u r j) := by rw [zws, List.getElem?_map, hk2]; rfl
  have e2 : k = k2 := h.2.1 k k2 _ _ h1 h2 e
  subst e2
  exact Option.some.inj (hk.symm.trans hk2)
theorem zid_f {q : Bool} {u : ZC} {i : Nat × Nat} (h : i ∈ zids) : i ∈ zid q u := List.mem_append_left _ (List.mem_append_left _ h)
theorem zid_d {q : Bool} {u : ZC} {i : Nat × Nat} (h : i ∈ cL u) : i ∈ zid q u := List.mem_append_left _ (List.mem_append_right _ h)
theorem zid_r {u : ZC} {i : Nat × Nat} (h : i ∈ zrids) : i ∈ zid true u := List.mem_append_right _ h
theorem zid_t0 : ∀ t, t < 23 → (1, t) ∈ zids ∧ (2, t) ∈ zids := by decide +kernel
theorem zid_l0 : ∀ k, k < 5 → (4, k) ∈ zids := by decide +kernel
theorem zid_T {q : Bool} {u : ZC} {t : Nat} (h : zlT u t) : (1, t) ∈ zid q u := h.elim (fun h => zid_f (zid_t0 t h).1) (fun h => zid_d h.1)
theorem zid_C {q : Bool} {u : ZC} {t : Nat} (h : zlT u t) : (2, t) ∈ zid q u := h.elim (fun h => zid_f (zid_t0 t h).2) (fun h => zid_d h.2)
theorem zid_N {q : Bool} {u : ZC} {n : Nat} (h : zlN u n) : (3, n) ∈ zid q u := h.elim (fun h => by rw [h]; exact zid_f (by decide +kernel)) (fun h => zid_d h)
theorem zid_L {q : Bool} {u : ZC} {k : Nat} (h : k < 5) : (4, k) ∈ zid q u := zid_f (zid_l0 k h)
theorem znb {x : Int} (h : zbl x) : narrow .boolean (.int (zI x)) = .int (zI x) := by rcases h with rfl | rfl <;> decide
theorem zfb {x : Int} (h : zbl x) : fits .boolean (.int (zI x)) = true := by rcases h with rfl | rfl <;> decide
theorem znq {C : String} {ad : Nat × Nat → Nat} {k : Nat} (w : Option Nat) : narrow (.object C) (zrf ad k w) = zrf ad k w := by cases w <;> rfl
theorem zfq {C : String} {ad : Nat × Nat → Nat} {k : Nat} (w : Option Nat) : fits (.object C) (zrf ad k w) = true := by cases w <;> rfl
theorem zp {c : Prop} [Decidable c] {α : Type} {a b : Option α} {o : α} (h : c) (hf : (if c then a else b) = some o) : a = some o := by rw [if_pos h] at hf; exact hf
theorem zn {c : Prop} [Decidable c] {α : Type} {a b : Option α} {o : α} (h : ¬ c) (hf : (if c then a else b) = some o) : b = some o := by rw [if_neg h] at hf; exact hf
