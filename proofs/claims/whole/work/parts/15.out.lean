/-! out, length: the last output on both sides -/
def zout (u : ZC) (r : ZR) : Prop := (0 ≤ cI u 0 3 ∧ cI u 0 3 ≤ 96 ∧ cI u 0 3 ≤ (cN u 3 : Int)) ∧ rI r 46 = cI u 0 3 ∧ ∀ i : Nat, (i : Int) < cI u 0 3 → cA u 0 3 i = rA r 47 i
def zpk (u : ZC) : Nat → Nat → Int64 → Int64
  | _, 0, a => a
  | m, j + 1, a => zpk u (m + 1) j ((zlshl a 8) ||| (zi2l (if (m : Int) < cI u 0 3 then cA u 0 3 m else 0)))
theorem zdiv8 : ∀ n : Nat, n ≤ 96 → zdiv (n : Int) 8 = ((n / 8 : Nat) : Int) := by decide +kernel
theorem zpk_0 (u : ZC) : ∀ (j m : Nat), cI u 0 3 ≤ (m : Int) → zpk u m j 0 = 0 := by
  intro j
  induction j with
  | zero => intro m h; rfl
  | succ j ih =>
    intro m h
    simp only [zpk]
    rw [if_neg (by omega), show (zlshl 0 8) ||| (zi2l 0) = 0 by decide]
    exact ih (m + 1) (by omega)
theorem out_c (F : Nat) {u : ZC} {r : ZR} (H : zout u r) (k : Nat) (hk : k ≤ 12) : ∀ (j n m : Nat) (a : Int64), m + j = 8 * k + 8 → j < n → cShell_out_33 F n u k (some 3) a m = some (zpk u m j a) := by
  obtain ⟨⟨h0, h1, h2⟩, h3, h4⟩ := H
  intro j
  induction j with
  | zero =>
    intro n m a hm hn
    obtain ⟨n, rfl⟩ : ∃ n', n = n' + 1 := ⟨n - 1, by omega⟩
    rw [cShell_out_33, if_pos (by rw [zI_le (by omega) (by omega) (by omega) (by omega)]; omega)]
    rfl
  | succ j ih =>
    intro n m a hm hn
    obtain ⟨n, rfl⟩ : ∃ n', n = n' + 1 := ⟨n - 1, by omega⟩
    have e1 : (m : Int) + 1 = ((m + 1 : Nat) : Int) := by omega
    rw [cShell_out_33, if_neg (by rw [zI_le (by omega) (by omega) (by omega) (by omega)]; omega), e1]
    have hT : zlT u 3 := Or.inl (by decide)
    show (if zlT u 3 then Option.bind (if zI (cI u 0 3) ≤ zI (m : Int) then some 0 else if zix (m : Int) (cN u 3) then some (cA u 0 3 ((m : Int)).toNat) else none) (fun (x5 : Int) => cShell_out_33 F n u k (some 3) ((zlshl a 8) ||| (zi2l x5)) ((m + 1 : Nat) : Int)) else none) = _
    rw [if_pos hT]
    by_cases h : (m : Int) < cI u 0 3
    · have hz : zix (m : Int) (cN u 3) := ⟨by omega, by omega, by omega⟩
      rw [if_neg (by rw [zI_le (by omega) (by omega) (by omega) (by omega)]; omega), if_pos hz, show ((m : Int)).toNat = m by omega]
      show cShell_out_33 F n u k (some 3) ((zlshl a 8) ||| (zi2l (cA u 0 3 m))) ((m + 1 : Nat) : Int) = _
      rw [ih n (m + 1) _ (by omega) (by omega)]
      simp only [zpk, if_pos h]
    · rw [if_pos (by rw [zI_le (by omega) (by omega) (by omega) (by omega)]; omega)]
      show cShell_out_33 F n u k (some 3) ((zlshl a 8) ||| (zi2l 0)) ((m + 1 : Nat) : Int) = _
      rw [ih n (m + 1) _ (by omega) (by omega)]
      simp only [zpk, if_neg h]
theorem out_r (F : Nat) {u : ZC} {r : ZR} (H : zout u r) (k : Nat) (hk : k ≤ 11) : ∀ (j n m : Nat) (a : Int64), m + j = 8 * k + 8 → j < n → r_out_20 F n r k a m = some (zpk u m j a) := by
  obtain ⟨⟨h0, h1, h2⟩, h3, h4⟩ := H
  intro j
  induction j with
  | zero =>
    intro n m a hm hn
    obtain ⟨n, rfl⟩ : ∃ n', n = n' + 1 := ⟨n - 1, by omega⟩
    rw [r_out_20, if_pos (by rw [zI_le (by omega) (by omega) (by omega) (by omega)]; omega)]
    rfl
  | succ j ih =>
    intro n m a hm hn
    obtain ⟨n, rfl⟩ : ∃ n', n = n' + 1 := ⟨n - 1, by omega⟩
    have e1 : (m : Int) + 1 = ((m + 1 : Nat) : Int) := by omega
    rw [r_out_20, if_neg (by rw [zI_le (by omega) (by omega) (by omega) (by omega)]; omega), e1, h3]
    by_cases h : (m : Int) < cI u 0 3
    · have hz : zix (m : Int) 96 := ⟨by omega, by omega, by omega⟩
      rw [if_neg (by rw [zI_le (by omega) (by omega) (by omega) (by omega)]; omega), if_pos hz, show ((m : Int)).toNat = m by omega, ← h4 m h]
      show r_out_20 F n r k ((zlshl a 8) ||| (zi2l (cA u 0 3 m))) ((m + 1 : Nat) : Int) = _
      rw [ih n (m + 1) _ (by omega) (by omega)]
      simp only [zpk, if_pos h]
    · rw [if_pos (by rw [zI_le (by omega) (by omega) (by omega) (by omega)]; omega)]
      show r_out_20 F n r k ((zlshl a 8) ||| (zi2l 0)) ((m + 1 : Nat) : Int) = _
      rw [ih n (m + 1) _ (by omega) (by omega)]
      simp only [zpk, if_neg h]
theorem out_alike (F : Nat) (hF : 9 ≤ F) {u : ZC} {r : ZR} (H : zout u r) (v : Int) (hv : -2147483648 ≤ v) (hv2 : v < 2147483648) : ∃ a : Int64, cShell_out F u v = some a ∧ r_out F r v = some a := by
  obtain ⟨s, hs⟩ : ∃ s : Nat, cI u 0 3 = (s : Int) := ⟨(cI u 0 3).toNat, by have := H.1.1; omega⟩
  have hs2 : s ≤ 96 := by have := H.1.2.1; omega
  have hd := zdiv8 s hs2
  have ec : cShell_out F u v = Option.bind (if zI v < 0 then some true else if zlT u 3 then (if zI v ≤ zI (zdiv (cI u 0 3) 8) then some false else some true) else none) (fun (b3 : Bool) => if b3 = true then some (0 : Int64) else cShell_out_33 F F u v (some 3) (0 : Int64) (8 * v)) := rfl
  have er : r_out F r v = Option.bind (if zI v < 0 then some true else if zI v ≤ zI 11 then some false else some true) (fun (b1 : Bool) => if b1 = true then some (0 : Int64) else r_out_20 F F r v (0 : Int64) (8 * v)) := rfl
  rw [hs, hd] at ec
  by_cases h0 : v < 0
  · have g : zI v < 0 := by rw [zI_lt0 hv hv2]; exact h0
    refine ⟨0, ?_, ?_⟩
    · rw [ec, if_pos g]; rfl
    · rw [er, if_pos g]; rfl
  · have g : ¬ zI v < 0 := by rw [zI_lt0 hv hv2]; exact h0
    obtain ⟨k, rfl⟩ : ∃ k : Nat, v = (k : Int) := ⟨v.toNat, by omega⟩
    rw [if_neg g, if_pos (show zlT u 3 from Or.inl (by decide))] at ec
    rw [if_neg g] at er
    have e8 : (8 * (k : Int)) = ((8 * k : Nat) : Int) := by omega
    have c1 : zI (k : Int) ≤ zI ((s / 8 : Nat) : Int) ↔ k ≤ s / 8 := by rw [zI_le (by omega) (by omega) (by omega) (by omega)]; omega
    have c2 : zI (k : Int) ≤ zI 11 ↔ k ≤ 11 := by rw [zI_le (by omega) (by omega) (by omega) (by omega)]; omega
    have qc : cShell_out F u k = some (if k ≤ s / 8 then zpk u (8 * k) 8 0 else 0) := by
      rw [ec]
      by_cases q : k ≤ s / 8
      · rw [if_pos (c1.mpr q), if_pos q]
        show cShell_out_33 F F u k (some 3) 0 (8 * (k : Int)) = _
        rw [e8]
        exact out_c F H k (by omega) 8 F (8 * k) 0 rfl (by omega)
      · rw [if_neg (fun z => q (c1.mp z)), if_neg q]
        rfl
    have qr : r_out F r k = some (if k ≤ 11 then zpk u (8 * k) 8 0 else 0) := by
      rw [er]
      by_cases q : k ≤ 11
      · rw [if_pos (c2.mpr q), if_pos q]
        show r_out_20 F F r k 0 (8 * (k : Int)) = _
        rw [e8]
        exact out_r F H k q 8 F (8 * k) 0 rfl (by omega)
      · rw [if_neg (fun z => q (c2.mp z)), if_neg q]
        rfl
    refine ⟨_, qc, ?_⟩
    rw [qr]
    congr 1
    by_cases q1 : k ≤ s / 8
    · by_cases q2 : k ≤ 11
      · rw [if_pos q1, if_pos q2]
      · rw [if_pos q1, if_neg q2, zpk_0 u 8 (8 * k) (by omega)]
    · by_cases q2 : k ≤ 11
      · rw [if_neg q1, if_pos q2, zpk_0 u 8 (8 * k) (by omega)]
      · rw [if_neg q1, if_neg q2]
theorem length_alike (F : Nat) {u : ZC} {r : ZR} (H : zout u r) : ∃ a : Int, cShell_length F u = some a ∧ r_length F r = some a := by
  refine ⟨cI u 0 3, ?_, ?_⟩
  · show (if zlT u 3 then some (cI u 0 3) else none) = some (cI u 0 3)
    exact if_pos (Or.inl (by decide))
  · show some (rI r 46) = _
    rw [H.2.1]
