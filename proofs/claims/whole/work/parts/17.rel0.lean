/-! the new objects stand in the relation -/
theorem rel_0 (mn mc pp : Int) (h1 : 1 ≤ mn ∧ mn ≤ 12) (h2 : 0 ≤ mc ∧ mc ≤ 160) (h3 : 8 ≤ pp ∧ pp ≤ 96) : zRel (zu0 mn mc pp) (zr0 mn mc pp) := by
  have e4 : cI (zu0 mn mc pp) 4 0 = mn := rfl
  have e5 : cI (zu0 mn mc pp) 5 0 = mc := rfl
  have eT : ∀ o : Nat, cI (zu0 mn mc pp) 0 o = 0 := fun o => by
    show (if o = 0 then (if 0 = 4 then mn else if 0 = 5 then mc else 0) else 0) = (0 : Int)
    split <;> rfl
  have eN : ∀ k : Nat, k < 5 → cN (zu0 mn mc pp) (3 + 4 * k) = pp.toNat ∧ cN (zu0 mn mc pp) (4 + 4 * k) = pp.toNat ∧ cN (zu0 mn mc pp) (5 + 4 * k) = pp.toNat ∧ cN (zu0 mn mc pp) (6 + 4 * k) = mc.toNat := fun k hk => by
    rcases (show k = 0 ∨ k = 1 ∨ k = 2 ∨ k = 3 ∨ k = 4 by omega) with rfl | rfl | rfl | rfl | rfl <;> exact ⟨rfl, rfl, rfl, rfl⟩
  refine ⟨⟨⟨by rw [eT]; decide, by rw [eT]; decide⟩, rfl, rfl, fun i hi => ?_⟩, ⟨⟨h1.1, h1.2, rfl⟩, ⟨h2.1, h2.2, rfl⟩, h3, rfl, rfl, fun k hk => ?_⟩, ⟨0, 0, ⟨by decide, rfl, rfl, rfl, rfl, by decide, rfl, fun n hn => ?_, ⟨rfl, rfl, rfl, rfl, rfl, rfl⟩, fun n h1 h2 => ?_, Nat.le_refl 0, fun x y h1 h2 h3 => absurd (Nat.lt_of_lt_of_le h2 h3) (Nat.not_lt_zero x), fun i hi => (by cases hi), fun n hn => ⟨(show (if n = 0 then _ else none) = none by rw [if_neg (by omega)]), (show (if n = 0 then _ else none) = none by rw [if_neg (by omega)]), (show (if n = 0 then _ else none) = none by rw [if_neg (by omega)])⟩⟩, ?_⟩, ⟨⟨by rw [eT]; decide, by rw [eT]; decide, by rw [eT]; omega⟩, rfl, fun i hi => ?_⟩, ?_, ?_, rfl, ⟨show (0 : Int) ≤ 0 by decide, show (0 : Int) ≤ 127 by decide⟩, rfl⟩
  · rw [eT] at hi
    omega
  · obtain ⟨a, b, c, d⟩ := eN k hk
    rw [a, b, c, d]
    have e2 : rI (zr0 mn mc pp) 2 = pp := rfl
    rw [e2, e5]
    exact ⟨by omega, by omega, by omega, by omega⟩
  · show (if n = 0 then (1 : Int) else 0) = if n ≤ 0 then 1 else 0
    by_cases h : n = 0
    · rw [if_pos h, if_pos (by omega)]
    · rw [if_neg h, if_neg (by omega)]
  · omega
  · rw [e4]
    omega
  · rw [eT] at hi
    omega
  · rfl
  · rw [e5]
    exact h2.1
