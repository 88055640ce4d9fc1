/-! type: the bytes of a long -/
/-- the bytes k, k + 1 .. (j of them) are good; how many are not 0 -/
def zok (v : Int64) : Nat → Nat → Bool
  | _, 0 => true
  | k, j + 1 => (decide (zby v (56 - 8 * k) = 0) || (decide (32 ≤ zby v (56 - 8 * k)) && decide (zby v (56 - 8 * k) ≤ 126))) && zok v (k + 1) j
def zct (v : Int64) : Nat → Nat → Int
  | _, 0 => 0
  | k, j + 1 => (if zby v (56 - 8 * k) = 0 then 0 else 1) + zct v (k + 1) j
theorem zct_in (v : Int64) : ∀ j k, 0 ≤ zct v k j ∧ zct v k j ≤ j := by
  intro j
  induction j with
  | zero => intro k; exact ⟨Int.le_refl _, Int.le_refl _⟩
  | succ j ih =>
    intro k
    have h := ih (k + 1)
    show 0 ≤ (if zby v (56 - 8 * k) = 0 then (0 : Int) else 1) + zct v (k + 1) j ∧ (if zby v (56 - 8 * k) = 0 then (0 : Int) else 1) + zct v (k + 1) j ≤ ((j + 1 : Nat) : Int)
    split <;> omega
theorem type_loop (F : Nat) (u : ZC) (v : Int64) (h0 : 0 ≤ cI u 0 0) (h1 : cI u 0 0 ≤ 64) : ∀ (j n k : Nat) (a : Int), j + k = 8 → j < n → 0 ≤ a → a ≤ k →
    cShell_type_6 F n u v a (56 - 8 * k) = if zok v k j = true then (if cI u 0 0 + (a + zct v k j) ≤ 64 then (cText_addPacked F u 0 v).bind (fun u1 => some (1, u1)) else some (0, u)) else some (0, u) := by
  intro j
  induction j with
  | zero =>
    intro n k a hk hn ha hak
    obtain ⟨n, rfl⟩ : ∃ n', n = n' + 1 := ⟨n - 1, by omega⟩
    have hk8 : k = 8 := by omega
    subst hk8
    rw [cShell_type_6]
    rw [if_pos (by rw [zI_lt0 (by omega) (by omega)]; omega)]
    simp only [zok, zct, if_true, Int.add_zero]
    by_cases h : cI u 0 0 + a ≤ 64
    · rw [if_pos h, if_pos (by rw [zI_le (by omega) (by omega) (by omega) (by omega)]; exact h)]
    · rw [if_neg h, if_neg (by rw [zI_le (by omega) (by omega) (by omega) (by omega)]; exact h)]
  | succ j ih =>
    intro n k a hk hn ha hak
    obtain ⟨n, rfl⟩ : ∃ n', n = n' + 1 := ⟨n - 1, by omega⟩
    have hb := zby_in v (56 - 8 * k)
    have e8 : (56 - 8 * (k : Int)) + (-8) = 56 - 8 * ((k + 1 : Nat) : Int) := by omega
    have ih0 := ih n (k + 1) (a + 0) (by omega) (by omega) (by omega) (by omega)
    have ih1 := ih n (k + 1) (a + 1) (by omega) (by omega) (by omega) (by omega)
    rw [cShell_type_6]
    rw [if_neg (by rw [zI_lt0 (by omega) (by omega)]; omega), e8]
    show Option.bind (if zI (zby v (56 - 8 * k)) = 0 then some true else if zI (zby v (56 - 8 * k)) < zI 32 then some false else if zI (zby v (56 - 8 * k)) ≤ zI 126 then some true else some false) (fun (b2 : Bool) => if b2 = true then Option.bind (if ¬ zI (zby v (56 - 8 * k)) = 0 then some 1 else some 0) (fun (x3 : Int) => cShell_type_6 F n u v (a + x3) (56 - 8 * ((k + 1 : Nat) : Int))) else some (0, u)) = _
    simp (disch := omega) only [zI_eq0, zI_lt, zI_le]
    simp only [zok, zct]
    by_cases h : zby v (56 - 8 * k) = 0
    · simp only [h, if_true, not_true, if_false, Option.bind_some, decide_true, Bool.true_or, Bool.true_and]
      rw [ih0]
      simp only [Int.add_zero, Int.zero_add]
    · by_cases h2 : zby v (56 - 8 * k) < 32
      · have h3 : ¬ 32 ≤ zby v (56 - 8 * k) := by omega
        simp [h, h2, h3]
      · by_cases h4 : zby v (56 - 8 * k) ≤ 126
        · have h3 : 32 ≤ zby v (56 - 8 * k) := by omega
          simp only [h, h2, h4, h3, if_false, if_true, not_false_iff, Option.bind_some, decide_true, decide_false, Bool.false_or, Bool.true_and, Bool.and_self]
          rw [ih1]
          simp only [Int.add_assoc]
        · simp [h, h2, h4]
/-- one letter more behind text 0 -/
def zad1 (u : ZC) (b : Int) : ZC := sI (sA u 0 0 (cI u 0 0).toNat b) 0 0 (cI u 0 0 + 1)
def zapp (v : Int64) : Nat → Nat → ZC → ZC
  | _, 0, u => u
  | k, j + 1, u => zapp v (k + 1) j (if zby v (56 - 8 * k) = 0 then u else zad1 u (zby v (56 - 8 * k)))
theorem add_line (F : Nat) (u : ZC) (b : Int) (h0 : 0 ≤ cI u 0 0) (h1 : cI u 0 0 < 64) (hN : cN u 0 = 64) (hb : zch b) : cText_add F u 0 b = some (zad1 u b) := by
  have h2 : zix (cI u 0 0) (cN u 0) := ⟨h0, by omega, by omega⟩
  unfold cText_add
  rw [if_pos (Or.inl (by decide)), if_neg (by rw [zI_le (by omega) (by omega) (by omega) (by omega)]; omega), if_pos h2, if_pos hb]
  rfl
theorem packed_loop (F : Nat) (v : Int64) : ∀ (j n k : Nat) (u : ZC), j + k = 8 → j < n → 0 ≤ cI u 0 0 → cI u 0 0 + zct v k j ≤ 64 → cN u 0 = 64 → cText_addPacked_3 F n u 0 v (56 - 8 * k) = some (zapp v k j u) := by
  intro j
  induction j with
  | zero =>
    intro n k u hk hn h0 h1 hN
    obtain ⟨n, rfl⟩ : ∃ n', n = n' + 1 := ⟨n - 1, by omega⟩
    have hk8 : k = 8 := by omega
    subst hk8
    rw [cText_addPacked_3, if_pos (by rw [zI_lt0 (by omega) (by omega)]; omega)]
    rfl
  | succ j ih =>
    intro n k u hk hn h0 h1 hN
    obtain ⟨n, rfl⟩ : ∃ n', n = n' + 1 := ⟨n - 1, by omega⟩
    have hb := zby_in v (56 - 8 * k)
    have hc := zct_in v j (k + 1)
    have e8 : (56 - 8 * (k : Int)) + (-8) = 56 - 8 * ((k + 1 : Nat) : Int) := by omega
    have h1' : cI u 0 0 + ((if zby v (56 - 8 * k) = 0 then (0 : Int) else 1) + zct v (k + 1) j) ≤ 64 := h1
    rw [cText_addPacked_3, if_neg (by rw [zI_lt0 (by omega) (by omega)]; omega), e8, zby_chr]
    by_cases h : zby v (56 - 8 * k) = 0
    · rw [if_pos (by rw [zI_eq0 (by omega) (by omega)]; exact h)]
      rw [if_pos h] at h1'
      show cText_addPacked_3 F n u 0 v (56 - 8 * ((k + 1 : Nat) : Int)) = some (zapp v (k + 1) j (if zby v (56 - 8 * k) = 0 then u else zad1 u (zby v (56 - 8 * k))))
      rw [if_pos h]
      exact ih n (k + 1) u (by omega) (by omega) h0 (by omega) hN
    · rw [if_neg h] at h1'
      rw [if_neg (by rw [zI_eq0 (by omega) (by omega)]; exact h), if_pos (Or.inl (by decide)), add_line F u _ h0 (by omega) hN ⟨hb.1, by omega⟩]
      show cText_addPacked_3 F n (zad1 u (zby v (56 - 8 * k))) 0 v (56 - 8 * ((k + 1 : Nat) : Int)) = some (zapp v (k + 1) j (if zby v (56 - 8 * k) = 0 then u else zad1 u (zby v (56 - 8 * k))))
      rw [if_neg h]
      have e : cI (zad1 u (zby v (56 - 8 * k))) 0 0 = cI u 0 0 + 1 := rfl
      exact ih n (k + 1) _ (by omega) (by omega) (by rw [e]; omega) (by rw [e]; omega) hN
