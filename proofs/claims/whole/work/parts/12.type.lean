/-! type: the bytes of a long -/
/-- the bytes k, k + 1 .. (j of them) are good; how many are not 0 -/
def zok (v : Int64) : Nat → Nat → Bool
  | _, 0 => true
  | k, j + 1 => (decide (zby v (56 - 8 * k) = 0) || (decide (32 ≤ zby v (56 - 8 * k)) && decide (zby v (56 - 8 * k) ≤ 126))) && zok v (k + 1) j
def zct (v : Int64) : Nat → Nat → Int
  | _, 0 => 0
  | k, j + 1 => (if zby v (56 - 8 * k) = 0 then 0 else 1) + zct v (k + 1) j
theorem zct_in (v : Int64) : ∀ j k, 0 ≤ zct v k j ∧ zct v k j ≤ j := by
  intro j
  induction j with
  | zero => intro k; exact ⟨Int.le_refl _, Int.le_refl _⟩
  | succ j ih =>
    intro k
    have h := ih (k + 1)
    show 0 ≤ (if zby v (56 - 8 * k) = 0 then (0 : Int) else 1) + zct v (k + 1) j ∧ (if zby v (56 - 8 * k) = 0 then (0 : Int) else 1) + zct v (k + 1) j ≤ ((j + 1 : Nat) : Int)
    split <;> omega
theorem type_loop (F : Nat) (u : ZC) (v : Int64) (h0 : 0 ≤ cI u 0 0) (h1 : cI u 0 0 ≤ 64) : ∀ (j n k : Nat) (a : Int), j + k = 8 → j < n → 0 ≤ a → a ≤ k →
    cShell_type_6 F n u v a (56 - 8 * k) = if zok v k j = true then (if cI u 0 0 + (a + zct v k j) ≤ 64 then (cText_addPacked F u 0 v).bind (fun u1 => some (1, u1)) else some (0, u)) else some (0, u) := by
  intro j
  induction j with
  | zero =>
    intro n k a hk hn ha hak
    obtain ⟨n, rfl⟩ : ∃ n', n = n' + 1 := ⟨n - 1, by omega⟩
    have hk8 : k = 8 := by omega
    subst hk8
    rw [cShell_type_6]
    rw [if_pos (by rw [zI_lt0 (by omega) (by omega)]; omega)]
    simp only [zok, zct, if_true, Int.add_zero]
    by_cases h : cI u 0 0 + a ≤ 64
    · rw [if_pos h, if_pos (by rw [zI_le (by omega) (by omega) (by omega) (by omega)]; exact h)]
    · rw [if_neg h, if_neg (by rw [zI_le (by omega) (by omega) (by omega) (by omega)]; exact h)]
  | succ j ih =>
    intro n k a hk hn ha hak
    obtain ⟨n, rfl⟩ : ∃ n', n = n' + 1 := ⟨n - 1, by omega⟩
    have hb := zby_in v (56 - 8 * k)
    have e8 : (56 - 8 * (k : Int)) + (-8) = 56 - 8 * ((k + 1 : Nat) : Int) := by omega
    have ih0 := ih n (k + 1) (a + 0) (by omega) (by omega) (by omega) (by omega)
    have ih1 := ih n (k + 1) (a + 1) (by omega) (by omega) (by omega) (by omega)
    rw [cShell_type_6]
    rw [if_neg (by rw [zI_lt0 (by omega) (by omega)]; omega), e8]
    show Option.bind (if zI (zby v (56 - 8 * k)) = 0 then some true else if zI (zby v (56 - 8 * k)) < zI 32 then some false else if zI (zby v (56 - 8 * k)) ≤ zI 126 then some true else some false) (fun (b2 : Bool) => if b2 = true then Option.bind (if ¬ zI (zby v (56 - 8 * k)) = 0 then some 1 else some 0) (fun (x3 : Int) => cShell_type_6 F n u v (a + x3) (56 - 8 * ((k + 1 : Nat) : Int))) else some (0, u)) = _
    simp (disch := omega) only [zI_eq0, zI_lt, zI_le]
    simp only [zok, zct]
    by_cases h : zby v (56 - 8 * k) = 0
    · simp only [h, if_true, not_true, if_false, Option.bind_some, decide_true, Bool.true_or, Bool.true_and]
      rw [ih0]
      simp only [Int.add_zero, Int.zero_add]
    · by_cases h2 : zby v (56 - 8 * k) < 32
      · have h3 : ¬ 32 ≤ zby v (56 - 8 * k) := by omega
        simp [h, h2, h3]
      · by_cases h4 : zby v (56 - 8 * k) ≤ 126
        · have h3 : 32 ≤ zby v (56 - 8 * k) := by omega
          simp only [h, h2, h4, h3, if_false, if_true, not_false_iff, Option.bind_some, decide_true, decide_false, Bool.false_or, Bool.true_and, Bool.and_self]
          rw [ih1]
          simp only [Int.add_assoc]
        · simp [h, h2, h4]
/-- one letter more behind text 0 -/
def zad1 (u : ZC) (b : Int) : ZC := sI (sA u 0 0 (cI u 0 0).toNat b) 0 0 (cI u 0 0 + 1)
def zapp (v : Int64) : Nat → Nat → ZC → ZC
  | _, 0, u => u
  | k, j + 1, u => zapp v (k + 1) j (if zby v (56 - 8 * k) = 0 then u else zad1 u (zby v (56 - 8 * k)))
theorem add_line (F : Nat) (u : ZC) (b : Int) (h0 : 0 ≤ cI u 0 0) (h1 : cI u 0 0 < 64) (hN : cN u 0 = 64) (hb : zch b) : cText_add F u 0 b = some (zad1 u b) := by
  have h2 : zix (cI u 0 0) (cN u 0) := ⟨h0, by omega, by omega⟩
  unfold cText_add
  rw [if_pos (Or.inl (by decide)), if_neg (by rw [zI_le (by omega) (by omega) (by omega) (by omega)]; omega), if_pos h2, if_pos hb]
  rfl
theorem packed_loop (F : Nat) (v : Int64) : ∀ (j n k : Nat) (u : ZC), j + k = 8 → j < n → 0 ≤ cI u 0 0 → cI u 0 0 + zct v k j ≤ 64 → cN u 0 = 64 → cText_addPacked_3 F n u 0 v (56 - 8 * k) = some (zapp v k j u) := by
  intro j
  induction j with
  | zero =>
    intro n k u hk hn h0 h1 hN
    obtain ⟨n, rfl⟩ : ∃ n', n = n' + 1 := ⟨n - 1, by omega⟩
    have hk8 : k = 8 := by omega
    subst hk8
    rw [cText_addPacked_3, if_pos (by rw [zI_lt0 (by omega) (by omega)]; omega)]
    rfl
  | succ j ih =>
    intro n k u hk hn h0 h1 hN
    obtain ⟨n, rfl⟩ : ∃ n', n = n' + 1 := ⟨n - 1, by omega⟩
    have hb := zby_in v (56 - 8 * k)
    have hc := zct_in v j (k + 1)
    have e8 : (56 - 8 * (k : Int)) + (-8) = 56 - 8 * ((k + 1 : Nat) : Int) := by omega
    have h1' : cI u 0 0 + ((if zby v (56 - 8 * k) = 0 then (0 : Int) else 1) + zct v (k + 1) j) ≤ 64 := h1
    rw [cText_addPacked_3, if_neg (by rw [zI_lt0 (by omega) (by omega)]; omega), e8, zby_chr]
    by_cases h : zby v (56 - 8 * k) = 0
    · rw [if_pos (by rw [zI_eq0 (by omega) (by omega)]; exact h)]
      rw [if_pos h] at h1'
      show cText_addPacked_3 F n u 0 v (56 - 8 * ((k + 1 : Nat) : Int)) = some (zapp v (k + 1) j (if zby v (56 - 8 * k) = 0 then u else zad1 u (zby v (56 - 8 * k))))
      rw [if_pos h]
      exact ih n (k + 1) u (by omega) (by omega) h0 (by omega) hN
    · rw [if_neg h] at h1'
      rw [if_neg (by rw [zI_eq0 (by omega) (by omega)]; exact h), if_pos (Or.inl (by decide)), add_line F u _ h0 (by omega) hN ⟨hb.1, by omega⟩]
      show cText_addPacked_3 F n (zad1 u (zby v (56 - 8 * k))) 0 v (56 - 8 * ((k + 1 : Nat) : Int)) = some (zapp v (k + 1) j (if zby v (56 - 8 * k) = 0 then u else zad1 u (zby v (56 - 8 * k))))
      rw [if_neg h]
      have e : cI (zad1 u (zby v (56 - 8 * k))) 0 0 = cI u 0 0 + 1 := rfl
      exact ih n (k + 1) _ (by omega) (by omega) (by rw [e]; omega) (by rw [e]; omega) hN
/-- the reference's loop: the letters that it writes, and whether it comes to its end -/
def zrty (v : Int64) : Nat → Nat → ZR → Int → Bool × ZR
  | _, 0, r, _ => (true, r)
  | k, j + 1, r, m =>
    if zby v (56 - 8 * k) = 0 then zrty v (k + 1) j r m
    else if zby v (56 - 8 * k) < 32 ∨ 126 < zby v (56 - 8 * k) ∨ m = 64 then (false, r)
    else zrty v (k + 1) j (tA r 11 m.toNat (zby v (56 - 8 * k))) (m + 1)
theorem rtype_loop (F : Nat) (v : Int64) : ∀ (j n k : Nat) (r : ZR) (m : Int), j + k = 8 → j < n → 0 ≤ m → m ≤ 64 →
    r_type_8 F n r v m k = if (zrty v k j r m).1 = true then some (1, tI (zrty v k j r m).2 10 (m + zct v k j)) else some (0, (zrty v k j r m).2) := by
  intro j
  induction j with
  | zero =>
    intro n k r m hk hn h0 h1
    obtain ⟨n, rfl⟩ : ∃ n', n = n' + 1 := ⟨n - 1, by omega⟩
    have hk8 : k = 8 := by omega
    subst hk8
    rw [r_type_8, if_pos (by rw [zI_le (by omega) (by omega) (by omega) (by omega)]; omega)]
    simp only [zrty, zct, if_true, Int.add_zero]
  | succ j ih =>
    intro n k r m hk hn h0 h1
    obtain ⟨n, rfl⟩ : ∃ n', n = n' + 1 := ⟨n - 1, by omega⟩
    have hb := zby_in v (56 - 8 * k)
    have e1 : ((k : Int) + 1) = ((k + 1 : Nat) : Int) := by omega
    rw [r_type_8, if_neg (by rw [zI_le (by omega) (by omega) (by omega) (by omega)]; omega), e1]
    have ih0 := ih n (k + 1) r m (by omega) (by omega) h0 h1
    show Option.bind (if zI (zby v (56 - 8 * k)) = 0 then some true else if zI (zby v (56 - 8 * k)) < zI 32 then some false else if zI 126 < zI (zby v (56 - 8 * k)) then some false else if ¬ zI m = zI 64 then some true else some false) (fun (b1 : Bool) => if b1 = true then zb2 (if zI (zby v (56 - 8 * k)) = 0 then some (m, r) else if zix m 64 then Option.bind (some (tA r 11 m.toNat (zby v (56 - 8 * k)))) (fun (u2 : ZR) => some (m + 1, u2)) else none) (fun (x3 : Int) (u4 : ZR) => r_type_8 F n u4 v x3 ((k + 1 : Nat) : Int)) else some (0, r)) = _
    simp (disch := omega) only [zI_eq0, zI_lt, zI_le, zI_eq]
    simp only [zrty, zct]
    by_cases h : zby v (56 - 8 * k) = 0
    · simp only [h, if_true, Option.bind_some, zb2_some, Int.zero_add]
      rw [ih0]
    · by_cases h2 : zby v (56 - 8 * k) < 32
      · simp [h, h2]
      · by_cases h3 : 126 < zby v (56 - 8 * k)
        · simp [h, h2, h3]
        · by_cases h4 : m = 64
          · simp [h, h2, h3, h4]
          · have hz : zix m 64 := ⟨h0, by omega, by omega⟩
            have hn : ¬ (zby v (56 - 8 * k) < 32 ∨ 126 < zby v (56 - 8 * k) ∨ m = 64) := by omega
            simp only [h, h2, h3, h4, hn, if_false, if_true, not_false_iff, Option.bind_some, if_pos hz, zb2_some]
            rw [ih n (k + 1) (tA r 11 m.toNat (zby v (56 - 8 * k))) (m + 1) (by omega) (by omega) (by omega) (by omega)]
            simp only [Int.add_assoc, or_self, if_false]
/-- it comes to its end just where the bytes are good and there is room -/
theorem zrty_ok (v : Int64) : ∀ (j k : Nat) (r : ZR) (m : Int), m ≤ 64 → ((zrty v k j r m).1 = true ↔ zok v k j = true ∧ m + zct v k j ≤ 64) := by
  intro j
  induction j with
  | zero =>
    intro k r m h
    simp only [zrty, zok, zct, true_and, true_iff]
    omega
  | succ j ih =>
    intro k r m h
    have hc := zct_in v j (k + 1)
    simp only [zrty, zok, zct]
    by_cases h0 : zby v (56 - 8 * k) = 0
    · simp only [h0, if_true, decide_true, Bool.true_or, Bool.true_and, Int.zero_add]
      exact ih (k + 1) r m h
    · by_cases h1 : zby v (56 - 8 * k) < 32 ∨ 126 < zby v (56 - 8 * k) ∨ m = 64
      · simp only [h0, h1, if_false, if_true, decide_false, Bool.false_or, Bool.and_eq_true, decide_eq_true_eq, Bool.false_eq_true, false_iff]
        omega
      · simp only [h0, h1, if_false, decide_false, Bool.false_or, Bool.and_eq_true, decide_eq_true_eq]
        rw [ih (k + 1) _ (m + 1) (by omega)]
        constructor
        · intro q
          exact ⟨⟨⟨by omega, by omega⟩, q.1⟩, by omega⟩
        · intro q
          exact ⟨q.1.2, by omega⟩
/-- the typed line is one on both sides -/
def zln (u : ZC) (r : ZR) : Prop := (0 ≤ cI u 0 0 ∧ cI u 0 0 ≤ 64) ∧ rI r 10 = cI u 0 0 ∧ cN u 0 = 64 ∧ ∀ i : Nat, (i : Int) < cI u 0 0 → cA u 0 0 i = rA r 11 i ∧ 32 ≤ cA u 0 0 i ∧ cA u 0 0 i ≤ 126
/-- both sides write the same letters -/
theorem app_alike (v : Int64) : ∀ (j k : Nat) (u : ZC) (r : ZR), zok v k j = true → 0 ≤ cI u 0 0 → cI u 0 0 + zct v k j ≤ 64 → (∀ i : Nat, (i : Int) < cI u 0 0 → cA u 0 0 i = rA r 11 i ∧ 32 ≤ cA u 0 0 i ∧ cA u 0 0 i ≤ 126) →
    cI (zapp v k j u) 0 0 = cI u 0 0 + zct v k j ∧ ∀ i : Nat, (i : Int) < cI u 0 0 + zct v k j → cA (zapp v k j u) 0 0 i = rA (zrty v k j r (cI u 0 0)).2 11 i ∧ 32 ≤ cA (zapp v k j u) 0 0 i ∧ cA (zapp v k j u) 0 0 i ≤ 126 := by
  intro j
  induction j with
  | zero =>
    intro k u r hok h0 h1 hA
    simp only [zapp, zct, zrty, Int.add_zero]
    exact ⟨trivial, hA⟩
  | succ j ih =>
    intro k u r hok h0 h1 hA
    have hc := zct_in v j (k + 1)
    simp only [zok, Bool.and_eq_true, Bool.or_eq_true, decide_eq_true_eq] at hok
    simp only [zct] at h1
    simp only [zapp, zct, zrty]
    by_cases h : zby v (56 - 8 * k) = 0
    · simp only [h, if_true, Int.zero_add] at h1 ⊢
      exact ih (k + 1) u r hok.2 h0 h1 hA
    · have hg : 32 ≤ zby v (56 - 8 * k) ∧ zby v (56 - 8 * k) ≤ 126 := hok.1.resolve_left h
      have hn : ¬ (zby v (56 - 8 * k) < 32 ∨ 126 < zby v (56 - 8 * k) ∨ cI u 0 0 = 64) := by
        rw [if_neg h] at h1
        omega
      simp only [if_neg h, if_neg hn] at h1 ⊢
      have e : cI (zad1 u (zby v (56 - 8 * k))) 0 0 = cI u 0 0 + 1 := rfl
      have q := ih (k + 1) (zad1 u (zby v (56 - 8 * k))) (tA r 11 (cI u 0 0).toNat (zby v (56 - 8 * k))) hok.2 (by rw [e]; omega) (by rw [e]; omega) (fun i hi => by
        rw [e] at hi
        show (if 0 = 0 ∧ 0 = 0 ∧ i = (cI u 0 0).toNat then zby v (56 - 8 * k) else cA u 0 0 i) = (if 11 = 11 ∧ i = (cI u 0 0).toNat then zby v (56 - 8 * k) else rA r 11 i) ∧ 32 ≤ (if 0 = 0 ∧ 0 = 0 ∧ i = (cI u 0 0).toNat then zby v (56 - 8 * k) else cA u 0 0 i) ∧ (if 0 = 0 ∧ 0 = 0 ∧ i = (cI u 0 0).toNat then zby v (56 - 8 * k) else cA u 0 0 i) ≤ 126
        by_cases hi2 : i = (cI u 0 0).toNat
        · simp only [hi2, and_self, if_true]
          exact ⟨trivial, hg⟩
        · simp only [hi2, and_false, if_false]
          exact hA i (by omega))
      rw [e, Int.add_assoc] at q
      exact q
theorem zapp_keep (v : Int64) : ∀ (j k : Nat) (u : ZC), cN (zapp v k j u) = cN u := by
  intro j
  induction j with
  | zero => intro k u; rfl
  | succ j ih =>
    intro k u
    show cN (zapp v (k + 1) j (if zby v (56 - 8 * k) = 0 then u else zad1 u (zby v (56 - 8 * k)))) = cN u
    rw [ih]
    split <;> rfl
theorem zrty_keep (v : Int64) : ∀ (j k : Nat) (r : ZR) (m : Int), 0 ≤ m → (∀ f, rI (zrty v k j r m).2 f = rI r f) ∧ ∀ i : Nat, (i : Int) < m → rA (zrty v k j r m).2 11 i = rA r 11 i := by
  intro j
  induction j with
  | zero => intro k r m h; exact ⟨fun _ => rfl, fun _ _ => rfl⟩
  | succ j ih =>
    intro k r m h
    simp only [zrty]
    split
    · exact ih (k + 1) r m h
    · split
      · exact ⟨fun _ => rfl, fun _ _ => rfl⟩
      · obtain ⟨a, b⟩ := ih (k + 1) (tA r 11 m.toNat (zby v (56 - 8 * k))) (m + 1) (by omega)
        refine ⟨fun f => (a f).trans rfl, fun i hi => (b i (by omega)).trans ?_⟩
        show (if 11 = 11 ∧ i = m.toNat then zby v (56 - 8 * k) else rA r 11 i) = rA r 11 i
        rw [if_neg (by omega)]
