/-! tokens on both sides: one cutting of a line of letters -/
/-- the class's kind of the token that begins at place i (10: a word, 11: none) -/
def zkd (L : Nat → Int) (n i : Nat) : Int :=
  if L i = 33 then 4 else if L i = 38 then (if i + 1 < n ∧ L (i + 1) = L i then 1 else 11) else if L i = 40 then 5 else if L i = 41 then 6 else if L i = 59 then 0 else if L i = 60 then 7
  else if L i = 62 then (if i + 1 < n ∧ L (i + 1) = L i then 9 else 8) else if L i = 124 then (if i + 1 < n ∧ L (i + 1) = L i then 2 else 3) else 10
/-- a kind of the class as the reference counts it -/
def zrk (k : Int) : Int := if k = 0 then 1 else if k = 1 then 2 else if k = 2 then 3 else if k = 3 then 4 else if k = 4 then 10 else if k = 5 then 8 else if k = 6 then 9 else if k = 7 then 5 else if k = 8 then 7 else if k = 9 then 6 else if k = 10 then 0 else -1
def zwd (k : Int) : Nat := if k = 1 ∨ k = 2 ∨ k = 9 then 2 else 1
/-- the line of the class: n letters -/
def zLn (u : ZC) (n : Nat) : Prop := cI u 0 0 = (n : Int) ∧ cN u 0 = 64 ∧ n ≤ 64 ∧ ∀ i : Nat, i < n → 32 ≤ cA u 0 0 i ∧ cA u 0 0 i ≤ 126
/-- the line of the reference -/
def zLr (r : ZR) (L : Nat → Int) (n : Nat) : Prop := rI r 10 = (n : Int) ∧ n ≤ 64 ∧ ∀ i : Nat, i < n → rA r 11 i = L i ∧ 32 ≤ L i ∧ L i ≤ 126
theorem zkd_in (L : Nat → Int) (n i : Nat) : 0 ≤ zkd L n i ∧ zkd L n i ≤ 11 := by
  unfold zkd
  repeat' split
  all_goals omega
theorem z10 : ¬ (zI 1 = 0) := by decide
theorem z00 : zI 0 = 0 := by decide
theorem kindOf_is (F : Nat) {u : ZC} {n : Nat} (H : zLn u n) (i : Nat) (hi : i < n) : cTokens_kindOf F u (i : Int) = some (zkd (cA u 0 0) n i) := by
  obtain ⟨h1, h2, h3, h4⟩ := H
  have hL := h4 i hi
  have e1 : ((i : Int) + 1).toNat = i + 1 := by omega
  have hz : zix (i : Int) (cN u 0) := ⟨by omega, by omega, by omega⟩
  unfold cTokens_kindOf zkd
  rw [if_pos hz]
  by_cases hl : i + 1 < n
  · have hL2 := h4 (i + 1) hl
    have hz2 : zix ((i : Int) + 1) (cN u 0) := ⟨by omega, by omega, by omega⟩
    have e2 : ¬ zI (cI u 0 0) ≤ zI ((i : Int) + 1) := by rw [h1, zI_le (by omega) (by omega) (by omega) (by omega)]; omega
    simp only [if_pos hz2, if_neg e2, e1, Int.toNat_natCast, zI_eq (a := cA u 0 0 (i + 1)) (b := cA u 0 0 i) (by omega) (by omega) (by omega) (by omega)]
    by_cases ht : cA u 0 0 (i + 1) = cA u 0 0 i
    · simp only [ht, hl, if_false, if_true, not_true, Option.bind_some, reduceCtorEq, and_self, z10]
      simp (disch := omega) only [zI_lt, zI_le, zI_eq, zI_eq0, zI_lt0, zI_0lt, zI_le0, zI_0le, zI_eq33, zI_eq38, zI_eq40, zI_eq41, zI_eq59, zI_eq60, zI_eq62, zI_eq124]
      by_cases k33 : cA u 0 0 i = 33
      · simp only [k33, Int.reduceEq, Int.reduceNeg, reduceIte, if_true, if_false, not_true, not_false_iff, Option.bind_some, reduceCtorEq]
      by_cases k38 : cA u 0 0 i = 38
      · simp only [k38, Int.reduceEq, Int.reduceNeg, reduceIte, if_true, if_false, not_true, not_false_iff, Option.bind_some, reduceCtorEq]
      by_cases k40 : cA u 0 0 i = 40
      · simp only [k40, Int.reduceEq, Int.reduceNeg, reduceIte, if_true, if_false, not_true, not_false_iff, Option.bind_some, reduceCtorEq]
      by_cases k41 : cA u 0 0 i = 41
      · simp only [k41, Int.reduceEq, Int.reduceNeg, reduceIte, if_true, if_false, not_true, not_false_iff, Option.bind_some, reduceCtorEq]
      by_cases k59 : cA u 0 0 i = 59
      · simp only [k59, Int.reduceEq, Int.reduceNeg, reduceIte, if_true, if_false, not_true, not_false_iff, Option.bind_some, reduceCtorEq]
      by_cases k60 : cA u 0 0 i = 60
      · simp only [k60, Int.reduceEq, Int.reduceNeg, reduceIte, if_true, if_false, not_true, not_false_iff, Option.bind_some, reduceCtorEq]
      by_cases k62 : cA u 0 0 i = 62
      · simp only [k62, Int.reduceEq, Int.reduceNeg, reduceIte, if_true, if_false, not_true, not_false_iff, Option.bind_some, reduceCtorEq]
      by_cases k124 : cA u 0 0 i = 124
      · simp only [k124, Int.reduceEq, Int.reduceNeg, reduceIte, if_true, if_false, not_true, not_false_iff, Option.bind_some, reduceCtorEq]
      simp only [k33, k38, k40, k41, k59, k60, k62, k124, if_false, reduceIte, Option.bind_some, reduceCtorEq]
    · simp only [ht, hl, if_false, if_true, not_false_iff, Option.bind_some, and_false, z00]
      simp (disch := omega) only [zI_lt, zI_le, zI_eq, zI_eq0, zI_lt0, zI_0lt, zI_le0, zI_0le, zI_eq33, zI_eq38, zI_eq40, zI_eq41, zI_eq59, zI_eq60, zI_eq62, zI_eq124]
      by_cases k33 : cA u 0 0 i = 33
      · simp only [k33, Int.reduceEq, Int.reduceNeg, reduceIte, if_true, if_false, not_true, not_false_iff, Option.bind_some, reduceCtorEq]
      by_cases k38 : cA u 0 0 i = 38
      · simp only [k38, Int.reduceEq, Int.reduceNeg, reduceIte, if_true, if_false, not_true, not_false_iff, Option.bind_some, reduceCtorEq]
      by_cases k40 : cA u 0 0 i = 40
      · simp only [k40, Int.reduceEq, Int.reduceNeg, reduceIte, if_true, if_false, not_true, not_false_iff, Option.bind_some, reduceCtorEq]
      by_cases k41 : cA u 0 0 i = 41
      · simp only [k41, Int.reduceEq, Int.reduceNeg, reduceIte, if_true, if_false, not_true, not_false_iff, Option.bind_some, reduceCtorEq]
      by_cases k59 : cA u 0 0 i = 59
      · simp only [k59, Int.reduceEq, Int.reduceNeg, reduceIte, if_true, if_false, not_true, not_false_iff, Option.bind_some, reduceCtorEq]
      by_cases k60 : cA u 0 0 i = 60
      · simp only [k60, Int.reduceEq, Int.reduceNeg, reduceIte, if_true, if_false, not_true, not_false_iff, Option.bind_some, reduceCtorEq]
      by_cases k62 : cA u 0 0 i = 62
      · simp only [k62, Int.reduceEq, Int.reduceNeg, reduceIte, if_true, if_false, not_true, not_false_iff, Option.bind_some, reduceCtorEq]
      by_cases k124 : cA u 0 0 i = 124
      · simp only [k124, Int.reduceEq, Int.reduceNeg, reduceIte, if_true, if_false, not_true, not_false_iff, Option.bind_some, reduceCtorEq]
      simp only [k33, k38, k40, k41, k59, k60, k62, k124, if_false, reduceIte, Option.bind_some, reduceCtorEq]
  · have e2 : zI (cI u 0 0) ≤ zI ((i : Int) + 1) := by rw [h1, zI_le (by omega) (by omega) (by omega) (by omega)]; omega
    simp only [if_pos e2, Int.toNat_natCast, hl, if_true, Option.bind_some, false_and, if_false, z00]
    simp (disch := omega) only [zI_lt, zI_le, zI_eq, zI_eq0, zI_lt0, zI_0lt, zI_le0, zI_0le, zI_eq33, zI_eq38, zI_eq40, zI_eq41, zI_eq59, zI_eq60, zI_eq62, zI_eq124]
    by_cases k33 : cA u 0 0 i = 33
    · simp only [k33, Int.reduceEq, Int.reduceNeg, reduceIte, if_true, if_false, not_true, not_false_iff, Option.bind_some, reduceCtorEq]
    by_cases k38 : cA u 0 0 i = 38
    · simp only [k38, Int.reduceEq, Int.reduceNeg, reduceIte, if_true, if_false, not_true, not_false_iff, Option.bind_some, reduceCtorEq]
    by_cases k40 : cA u 0 0 i = 40
    · simp only [k40, Int.reduceEq, Int.reduceNeg, reduceIte, if_true, if_false, not_true, not_false_iff, Option.bind_some, reduceCtorEq]
    by_cases k41 : cA u 0 0 i = 41
    · simp only [k41, Int.reduceEq, Int.reduceNeg, reduceIte, if_true, if_false, not_true, not_false_iff, Option.bind_some, reduceCtorEq]
    by_cases k59 : cA u 0 0 i = 59
    · simp only [k59, Int.reduceEq, Int.reduceNeg, reduceIte, if_true, if_false, not_true, not_false_iff, Option.bind_some, reduceCtorEq]
    by_cases k60 : cA u 0 0 i = 60
    · simp only [k60, Int.reduceEq, Int.reduceNeg, reduceIte, if_true, if_false, not_true, not_false_iff, Option.bind_some, reduceCtorEq]
    by_cases k62 : cA u 0 0 i = 62
    · simp only [k62, Int.reduceEq, Int.reduceNeg, reduceIte, if_true, if_false, not_true, not_false_iff, Option.bind_some, reduceCtorEq]
    by_cases k124 : cA u 0 0 i = 124
    · simp only [k124, Int.reduceEq, Int.reduceNeg, reduceIte, if_true, if_false, not_true, not_false_iff, Option.bind_some, reduceCtorEq]
    simp only [k33, k38, k40, k41, k59, k60, k62, k124, if_false, reduceIte, Option.bind_some, reduceCtorEq]
theorem at_is (F : Nat) {r : ZR} {L : Nat → Int} {n : Nat} (H : zLr r L n) (i : Nat) (hi : i ≤ 64) : r_at F r (i : Int) = some (if i < n then L i else 0) := by
  obtain ⟨h1, h2, h3⟩ := H
  unfold r_at
  simp only [h1]
  simp (disch := omega) only [zI_lt, zI_le, zI_eq, zI_eq0, zI_lt0, zI_0lt, zI_le0, zI_0le, zI_eq33, zI_eq38, zI_eq40, zI_eq41, zI_eq59, zI_eq60, zI_eq62, zI_eq124]
  by_cases h : i < n
  · have hz : zix (i : Int) 64 := ⟨by omega, by omega, by omega⟩
    rw [if_neg (by omega), if_pos hz, if_pos h]
    simp only [Option.bind_some, Int.toNat_natCast, (h3 i h).1]
  · rw [if_pos (by omega), if_neg h]
    rfl
theorem operator_is (F : Nat) {r : ZR} {L : Nat → Int} {n : Nat} (H : zLr r L n) (i : Nat) (hi : i < n) : r_operator F r (i : Int) = some (zrk (zkd L n i)) := by
  have hn := H.2.1
  have hL := (H.2.2 i hi).2
  have a1 := at_is F H i (by omega)
  have a2 := at_is F H (i + 1) (by omega)
  rw [if_pos hi] at a1
  have e1 : (((i + 1 : Nat)) : Int) = (i : Int) + 1 := by omega
  rw [e1] at a2
  unfold r_operator
  rw [a1, a2]
  simp only [Option.bind_some]
  by_cases hl : i + 1 < n
  · have hL2 := (H.2.2 (i + 1) hl).2
    simp only [hl, if_true]
    simp (disch := omega) only [zI_lt, zI_le, zI_eq, zI_eq0, zI_lt0, zI_0lt, zI_le0, zI_0le, zI_eq33, zI_eq38, zI_eq40, zI_eq41, zI_eq59, zI_eq60, zI_eq62, zI_eq124]
    unfold zkd
    simp only [hl, true_and]
    by_cases ht : L (i + 1) = L i
    · simp only [ht, if_true]
      by_cases k33 : L i = 33
      · simp only [k33, Int.reduceEq, Int.reduceNeg, reduceIte, if_true, if_false, not_true, not_false_iff, Option.bind_some, zrk]
      by_cases k38 : L i = 38
      · simp only [k38, Int.reduceEq, Int.reduceNeg, reduceIte, if_true, if_false, not_true, not_false_iff, Option.bind_some, zrk]
      by_cases k40 : L i = 40
      · simp only [k40, Int.reduceEq, Int.reduceNeg, reduceIte, if_true, if_false, not_true, not_false_iff, Option.bind_some, zrk]
      by_cases k41 : L i = 41
      · simp only [k41, Int.reduceEq, Int.reduceNeg, reduceIte, if_true, if_false, not_true, not_false_iff, Option.bind_some, zrk]
      by_cases k59 : L i = 59
      · simp only [k59, Int.reduceEq, Int.reduceNeg, reduceIte, if_true, if_false, not_true, not_false_iff, Option.bind_some, zrk]
      by_cases k60 : L i = 60
      · simp only [k60, Int.reduceEq, Int.reduceNeg, reduceIte, if_true, if_false, not_true, not_false_iff, Option.bind_some, zrk]
      by_cases k62 : L i = 62
      · simp only [k62, Int.reduceEq, Int.reduceNeg, reduceIte, if_true, if_false, not_true, not_false_iff, Option.bind_some, zrk]
      by_cases k124 : L i = 124
      · simp only [k124, Int.reduceEq, Int.reduceNeg, reduceIte, if_true, if_false, not_true, not_false_iff, Option.bind_some, zrk]
      simp only [k33, k38, k40, k41, k59, k60, k62, k124, if_false, reduceIte, Int.reduceEq, Option.bind_some, zrk]
    · simp only [ht, if_false]
      by_cases k33 : L i = 33
      · simp only [k33, Int.reduceEq, Int.reduceNeg, reduceIte, if_true, if_false, not_true, not_false_iff, Option.bind_some, zrk]
      by_cases k38 : L i = 38
      · simp only [k38, show ¬ L (i + 1) = 38 from by omega, Int.reduceEq, Int.reduceNeg, reduceIte, if_true, if_false, not_true, not_false_iff, Option.bind_some, zrk]
      by_cases k40 : L i = 40
      · simp only [k40, Int.reduceEq, Int.reduceNeg, reduceIte, if_true, if_false, not_true, not_false_iff, Option.bind_some, zrk]
      by_cases k41 : L i = 41
      · simp only [k41, Int.reduceEq, Int.reduceNeg, reduceIte, if_true, if_false, not_true, not_false_iff, Option.bind_some, zrk]
      by_cases k59 : L i = 59
      · simp only [k59, Int.reduceEq, Int.reduceNeg, reduceIte, if_true, if_false, not_true, not_false_iff, Option.bind_some, zrk]
      by_cases k60 : L i = 60
      · simp only [k60, Int.reduceEq, Int.reduceNeg, reduceIte, if_true, if_false, not_true, not_false_iff, Option.bind_some, zrk]
      by_cases k62 : L i = 62
      · simp only [k62, show ¬ L (i + 1) = 62 from by omega, Int.reduceEq, Int.reduceNeg, reduceIte, if_true, if_false, not_true, not_false_iff, Option.bind_some, zrk]
      by_cases k124 : L i = 124
      · simp only [k124, show ¬ L (i + 1) = 124 from by omega, Int.reduceEq, Int.reduceNeg, reduceIte, if_true, if_false, not_true, not_false_iff, Option.bind_some, zrk]
      simp only [k33, k38, k40, k41, k59, k60, k62, k124, if_false, reduceIte, Int.reduceEq, Option.bind_some, zrk]
  · simp only [hl, if_false]
    simp (disch := omega) only [zI_lt, zI_le, zI_eq, zI_eq0, zI_lt0, zI_0lt, zI_le0, zI_0le, zI_eq33, zI_eq38, zI_eq40, zI_eq41, zI_eq59, zI_eq60, zI_eq62, zI_eq124]
    unfold zkd
    simp only [hl, false_and, if_false]
    by_cases k33 : L i = 33
    · simp only [k33, Int.reduceEq, Int.reduceNeg, reduceIte, if_true, if_false, not_true, not_false_iff, Option.bind_some, zrk]
    by_cases k38 : L i = 38
    · simp only [k38, Int.reduceEq, Int.reduceNeg, reduceIte, if_true, if_false, not_true, not_false_iff, Option.bind_some, zrk]
    by_cases k40 : L i = 40
    · simp only [k40, Int.reduceEq, Int.reduceNeg, reduceIte, if_true, if_false, not_true, not_false_iff, Option.bind_some, zrk]
    by_cases k41 : L i = 41
    · simp only [k41, Int.reduceEq, Int.reduceNeg, reduceIte, if_true, if_false, not_true, not_false_iff, Option.bind_some, zrk]
    by_cases k59 : L i = 59
    · simp only [k59, Int.reduceEq, Int.reduceNeg, reduceIte, if_true, if_false, not_true, not_false_iff, Option.bind_some, zrk]
    by_cases k60 : L i = 60
    · simp only [k60, Int.reduceEq, Int.reduceNeg, reduceIte, if_true, if_false, not_true, not_false_iff, Option.bind_some, zrk]
    by_cases k62 : L i = 62
    · simp only [k62, Int.reduceEq, Int.reduceNeg, reduceIte, if_true, if_false, not_true, not_false_iff, Option.bind_some, zrk]
    by_cases k124 : L i = 124
    · simp only [k124, Int.reduceEq, Int.reduceNeg, reduceIte, if_true, if_false, not_true, not_false_iff, Option.bind_some, zrk]
    simp only [k33, k38, k40, k41, k59, k60, k62, k124, if_false, reduceIte, Int.reduceEq, Option.bind_some, zrk]
/-- from place p on in a word (q: between quotes): where it ends, and whether a quote stays open -/
def zwe (L : Nat → Int) (n : Nat) : Nat → Nat → Bool → Nat × Bool
  | 0, p, q => (p, q)
  | f + 1, p, q => if n ≤ p then (p, q) else if L p = 39 then zwe L n f (p + 1) (!q) else if q = true then zwe L n f (p + 1) true else if L p = 32 ∨ zkd L n p ≠ 10 then (p, false) else zwe L n f (p + 1) false
theorem zwe_in (L : Nat → Int) (n : Nat) : ∀ (f p : Nat) (q : Bool), p ≤ n → n ≤ p + f → (p ≤ (zwe L n f p q).1 ∧ (zwe L n f p q).1 ≤ n) ∧ ((zwe L n f p q).2 = true → (zwe L n f p q).1 = n) ∧ ((zwe L n f p q).1 < n → L (zwe L n f p q).1 = 32 ∨ zkd L n (zwe L n f p q).1 ≠ 10) := by
  intro f
  induction f with
  | zero =>
    intro p q h1 h2
    refine ⟨⟨Nat.le_refl _, h1⟩, fun _ => by show p = n; omega, fun h => ?_⟩
    have h : p < n := h
    omega
  | succ f ih =>
    intro p q h1 h2
    by_cases hn : n ≤ p
    · simp only [zwe, hn, if_true]
      exact ⟨⟨Nat.le_refl _, h1⟩, fun _ => by omega, fun h => by omega⟩
    · have i1 := ih (p + 1) (!q) (by omega) (by omega)
      have i2 := ih (p + 1) true (by omega) (by omega)
      have i3 := ih (p + 1) false (by omega) (by omega)
      simp only [zwe, hn, if_false]
      split
      · exact ⟨⟨by omega, i1.1.2⟩, i1.2⟩
      · split
        · exact ⟨⟨by omega, i2.1.2⟩, i2.2⟩
        · split
          · rename_i h
            exact ⟨⟨Nat.le_refl _, h1⟩, (fun hh => by cases hh), fun _ => h⟩
          · exact ⟨⟨by omega, i3.1.2⟩, i3.2⟩
def zB (q : Bool) : Int := if q = true then 1 else 0
theorem zB_t : zB true = 1 := rfl
theorem zB_f : zB false = 0 := rfl
theorem zI39 : zI 39 = 39 := rfl
theorem wordEnd_is (F : Nat) {u : ZC} {n : Nat} (H : zLn u n) : ∀ (f p : Nat) (q : Bool) (m : Nat), p ≤ n → n ≤ p + f → f < m →
    cTokens_wordEnd_4 F m u (zB q) (p : Int) = some (if (zwe (cA u 0 0) n f p q).2 = true then (n : Int) + 1 else ((zwe (cA u 0 0) n f p q).1 : Int)) := by
  have h1 := H.1
  have h2 := H.2.1
  have h3 := H.2.2.1
  intro f
  induction f with
  | zero =>
    intro p q m hp hf hm
    obtain ⟨m, rfl⟩ : ∃ m', m = m' + 1 := ⟨m - 1, by omega⟩
    have hpn : p = n := by omega
    rw [cTokens_wordEnd_4, h1, if_pos (by rw [zI_le (by omega) (by omega) (by omega) (by omega)]; omega)]
    cases q
    · simp only [zB_f, z00, if_true, Option.bind_some, zwe, reduceCtorEq, if_false, hpn]
    · simp only [zB_t, z10, if_true, Option.bind_some, zwe, if_false]
  | succ f ih =>
    intro p q m hp hf hm
    obtain ⟨m, rfl⟩ : ∃ m', m = m' + 1 := ⟨m - 1, by omega⟩
    rw [cTokens_wordEnd_4, h1]
    by_cases hpn : n ≤ p
    · have hpn' : p = n := by omega
      rw [if_pos (by rw [zI_le (by omega) (by omega) (by omega) (by omega)]; omega)]
      cases q
      · simp only [zB_f, z00, if_true, Option.bind_some, zwe, reduceCtorEq, if_false, hpn', Nat.le_refl]
      · simp only [zB_t, z10, if_true, Option.bind_some, zwe, hpn, if_false]
    · have hL := H.2.2.2 p (by omega)
      have hz : zix (p : Int) (cN u 0) := ⟨by omega, by omega, by omega⟩
      have e1 : (p : Int) + 1 = ((p + 1 : Nat) : Int) := by omega
      have i1 := ih (p + 1) (!q) m (by omega) (by omega) (by omega)
      have i2 := ih (p + 1) q m (by omega) (by omega) (by omega)
      rw [if_neg (by rw [zI_le (by omega) (by omega) (by omega) (by omega)]; omega), if_pos hz, kindOf_is F H p (by omega)]
      have hk := zkd_in (cA u 0 0) n p
      simp only [Int.toNat_natCast, Option.bind_some]
      simp only [zI_eq (a := cA u 0 0 p) (b := 39) (by omega) (by omega) (by omega) (by omega), zI_eq (a := cA u 0 0 p) (b := 32) (by omega) (by omega) (by omega) (by omega), zI_eq (a := zkd (cA u 0 0) n p) (b := 10) (by omega) (by omega) (by omega) (by omega)]
      simp only [zwe, hpn, if_false, cTokens_wordEnd_69, e1]
      by_cases c39 : cA u 0 0 p = 39
      · cases q
        · simp only [c39, not_true, if_false, if_true, zB_f, z00, not_true, Option.bind_some]
          exact i1
        · simp only [c39, not_true, if_false, if_true, zB_t, z10, not_false_iff, Option.bind_some]
          exact i1
      · cases q
        · simp only [c39, not_false_iff, if_false, if_true, zB_f, z00, not_true, reduceCtorEq]
          by_cases c32 : cA u 0 0 p = 32
          · simp only [c32, if_true, Option.bind_some, reduceCtorEq, if_false, true_or]
          · by_cases ck : zkd (cA u 0 0) n p = 10
            · simp only [c32, ck, if_false, if_true, Option.bind_some, ne_eq, not_true, or_self]
              exact i2
            · simp only [c32, ck, if_false, if_true, Option.bind_some, ne_eq, not_false_iff, false_or, reduceCtorEq]
        · simp only [c39, not_false_iff, if_false, if_true, zB_t, z10, Option.bind_some]
          exact i2
/-- one token more -/
def ztR (r : ZR) (t : Nat) (k a b : Int) : ZR := (fun f => if f = 12 then (t : Int) + 1 else r.1 f, r.2.1, fun f j => if f = 13 ∧ j = t then k else if f = 14 ∧ j = t then a else if f = 15 ∧ j = t then b else r.2.2.1 f j, r.2.2.2)
def ztC (u : ZC) (t : Nat) (k a b : Int) : ZC := (fun f o => if f = 2 ∧ o = 0 then (t : Int) + 1 else u.1 f o, u.2.1, u.2.2.1, fun f o j => if f = 1 ∧ o = 0 ∧ j = t then k else if f = 2 ∧ o = 0 ∧ j = t then a else if f = 3 ∧ o = 0 ∧ j = t then b else u.2.2.2.1 f o j, u.2.2.2.2)
theorem ztR_A (r : ZR) (t : Nat) (k a b c : Int) : tA (ztR r t k a b) 15 t c = ztR r t k a c := by
  refine Prod.ext rfl (Prod.ext rfl (Prod.ext ?_ rfl))
  funext f j
  show (if f = 15 ∧ j = t then c else if f = 13 ∧ j = t then k else if f = 14 ∧ j = t then a else if f = 15 ∧ j = t then b else r.2.2.1 f j) = if f = 13 ∧ j = t then k else if f = 14 ∧ j = t then a else if f = 15 ∧ j = t then c else r.2.2.1 f j
  by_cases h : f = 15 ∧ j = t
  · rw [if_pos h, if_neg (by omega), if_neg (by omega), if_pos h]
  · rw [if_neg h, if_neg h, if_neg h]
theorem token_is (F : Nat) (r : ZR) (t : Nat) (h : rI r 12 = (t : Int)) (ht : t < 64) (k a : Int) : r_token F r k a = some (ztR r t k a a) := by
  have hz : zix (rI r 12) 64 := ⟨by omega, by omega, by omega⟩
  unfold r_token
  rw [if_pos hz]
  show (if zix (rI r 12) 64 then if zix (rI r 12) 64 then some _ else none else none) = _
  rw [if_pos hz, if_pos hz]
  refine congrArg some (Prod.ext ?_ (Prod.ext rfl (Prod.ext ?_ rfl)))
  · funext f
    show (if f = 12 then rI r 12 + 1 else r.1 f) = if f = 12 then (t : Int) + 1 else r.1 f
    rw [h]
  · funext f j
    show (if f = 15 ∧ j = (rI r 12).toNat then a else if f = 14 ∧ j = (rI r 12).toNat then a else if f = 13 ∧ j = (rI r 12).toNat then k else r.2.2.1 f j) = if f = 13 ∧ j = t then k else if f = 14 ∧ j = t then a else if f = 15 ∧ j = t then a else r.2.2.1 f j
    rw [h, Int.toNat_natCast]
    by_cases h1 : f = 15 ∧ j = t
    · rw [if_pos h1, if_neg (by omega), if_neg (by omega), if_pos h1]
    · rw [if_neg h1, if_neg h1]
      by_cases h2 : f = 14 ∧ j = t
      · rw [if_pos h2, if_neg (by omega), if_pos h2]
      · rw [if_neg h2, if_neg h2]
/-- the reference inside a word -/
theorem rword_is (F : Nat) {L : Nat → Int} {n t : Nat} {r : ZR} {k a : Int} (ht : t < 64) (H : ∀ b, zLr (ztR r t k a b) L n) : ∀ (f p : Nat) (q : Bool) (m : Nat), p ≤ n → n ≤ p + f → f < m →
    ∃ m2 : Nat, m ≤ m2 + f ∧ 0 < m2 ∧ m ≤ m2 + ((zwe L n f p q).1 - p) ∧ r_cut_11 F m (ztR r t k a (p : Int)) 1 (zB q) (p : Int) = r_cut_11 F m2 (ztR r t k a ((zwe L n f p q).1 : Int)) 1 (zB (zwe L n f p q).2) ((zwe L n f p q).1 : Int) := by
  intro f
  induction f with
  | zero =>
    intro p q m hp hf hm
    exact ⟨m, by omega, hm, by omega, rfl⟩
  | succ f ih =>
    intro p q m hp hf hm
    by_cases hpn : n ≤ p
    · simp only [zwe, hpn, if_true]
      exact ⟨m, by omega, by omega, by omega, rfl⟩
    · obtain ⟨m, rfl⟩ : ∃ m', m = m' + 1 := ⟨m - 1, by omega⟩
      obtain ⟨h1, h2, h3⟩ := H (p : Int)
      have hL := (h3 p (by omega)).2
      have hA := (h3 p (by omega)).1
      have hz : zix (p : Int) 64 := ⟨by omega, by omega, by omega⟩
      have e1 : (p : Int) + 1 = ((p + 1 : Nat) : Int) := by omega
      have hk := zkd_in L n p
      have h12 : rI (ztR r t k a (p : Int)) 12 - 1 = (t : Int) := by show (t : Int) + 1 - 1 = t; omega
      have hzt : zix (rI (ztR r t k a (p : Int)) 12 - 1) 64 := by rw [h12]; exact ⟨by omega, by omega, by omega⟩
      have key : ∀ (q2 : Bool), zwe L n (f + 1) p q = zwe L n f (p + 1) q2 → r_cut_11 F (m + 1) (ztR r t k a (p : Int)) 1 (zB q) (p : Int) = r_cut_11 F m (ztR r t k a ((p + 1 : Nat) : Int)) 1 (zB q2) ((p + 1 : Nat) : Int) → ∃ m2 : Nat, m + 1 ≤ m2 + (f + 1) ∧ 0 < m2 ∧ m + 1 ≤ m2 + ((zwe L n (f + 1) p q).1 - p) ∧ r_cut_11 F (m + 1) (ztR r t k a (p : Int)) 1 (zB q) (p : Int) = r_cut_11 F m2 (ztR r t k a ((zwe L n (f + 1) p q).1 : Int)) 1 (zB (zwe L n (f + 1) p q).2) ((zwe L n (f + 1) p q).1 : Int) := by
        intro q2 ez ec
        obtain ⟨m2, a1, a2, a3, a4⟩ := ih (p + 1) q2 m (by omega) (by omega) (by omega)
        have hin := (zwe_in L n f (p + 1) q2 (by omega) (by omega)).1
        exact ⟨m2, by omega, a2, by rw [ez]; omega, by rw [ez, ec, a4]⟩
      have c0 : ¬ zI (rI (ztR r t k a (p : Int)) 10) ≤ zI (p : Int) := by rw [h1, zI_le (by omega) (by omega) (by omega) (by omega)]; omega
      have cq : ∀ x : Int, zI (rA (ztR r t k a (p : Int)) 11 (p : Int).toNat) = zI x ↔ zI (L p) = zI x := by intro x; rw [Int.toNat_natCast, hA]
      cases q
      · by_cases c32 : L p = 32
        · have ez : zwe L n (f + 1) p false = (p, false) := by simp only [zwe, hpn, c32, if_false, Int.reduceEq, reduceCtorEq, true_or, if_true]
          rw [ez]
          exact ⟨m + 1, by omega, by omega, by omega, rfl⟩
        · by_cases ck : zkd L n p = 10
          · have hop : r_operator F (ztR r t k a (p : Int)) (p : Int) = some 0 := by rw [operator_is F (H (p : Int)) p (by omega), ck]; rfl
            have w0 : (if ¬ zI (L p) = zI 39 then some (0 : Int) else some 1) = some (zB (decide (L p = 39))) := by
              by_cases c39 : L p = 39
              · simp [c39, zB]
              · have hne : ¬ zI (L p) = zI 39 := by rw [zI_eq (by omega) (by omega) (by omega) (by omega)]; exact c39
                simp [hne, c39, zB]
            refine key (decide (L p = 39)) ?_ ?_
            · by_cases c39 : L p = 39
              · simp [zwe, hpn, c39]
              · simp [zwe, hpn, c39, c32, ck]
            · rw [r_cut_11, if_neg c0, if_pos hz, hop]
              simp only [zB_f, z00, if_true, Option.bind_some, cq]
              rw [if_pos (by rw [zI_eq (by omega) (by omega) (by omega) (by omega)]; exact c32), if_pos (by decide)]
              simp only [z10, not_false_iff, if_true, zb2_some, w0, Option.bind_some, if_pos hzt, zb4_some, r_cut_178]
              rw [h12, e1, Int.toNat_natCast, ztR_A]
          · have ez : zwe L n (f + 1) p false = (p, false) := by
              by_cases c39 : L p = 39
              · exact absurd (by simp [zkd, c39]) ck
              · simp [zwe, hpn, c32, c39, ck]
            rw [ez]
            exact ⟨m + 1, by omega, by omega, by omega, rfl⟩
      · have w0 : (if zI (L p) = zI 39 then some (0 : Int) else some 1) = some (zB (!decide (L p = 39))) := by
          by_cases c39 : L p = 39
          · simp [c39, zB]
          · have hne : ¬ zI (L p) = zI 39 := by rw [zI_eq (by omega) (by omega) (by omega) (by omega)]; exact c39
            simp [hne, c39, zB]
        refine key (!decide (L p = 39)) ?_ ?_
        · by_cases c39 : L p = 39
          · simp [zwe, hpn, c39]
          · simp [zwe, hpn, c39]
        · rw [r_cut_11, if_neg c0, if_pos hz]
          simp only [zB_t, z10, if_false, Option.bind_some, cq, w0, if_pos hzt, r_cut_178]
          rw [h12, e1, Int.toNat_natCast, ztR_A]
