/-! numbers and names in a text of the class -/
theorem zdiv_is (a b : Nat) (ha : a < 2147483648) (hb : 0 < b) (hb2 : b < 2147483648) : zdiv (a : Int) (b : Int) = ((a / b : Nat) : Int) := by
  have hq : a / b < 2147483648 := Nat.lt_of_le_of_lt (Nat.div_le_self a b) ha
  unfold zdiv
  rw [Int32.toInt_div, zI_toInt (by omega) (by omega), zI_toInt (by omega) (by omega)]
  rw [show (a : Int).tdiv (b : Int) = ((a / b : Nat) : Int) from (Int.ofNat_tdiv a b).symm]
  generalize a / b = q at hq ⊢
  rw [Int.bmod_eq_of_le (by omega) (by omega)]
theorem zrem_is (a b : Nat) (ha : a < 2147483648) (hb : 0 < b) (hb2 : b < 2147483648) : zrem (a : Int) (b : Int) = ((a % b : Nat) : Int) := by
  have h1 : zI (a : Int) / zI (b : Int) = zI ((a / b : Nat) : Int) := by
    rw [← zdiv_is a b ha hb hb2]
    unfold zdiv
    rw [zI_of]
  have hd := Nat.div_add_mod a b
  have hm : a % b ≤ a := Nat.mod_le a b
  unfold zrem
  rw [h1, zI_mul, zI_sub]
  have e : (a : Int) - ((a / b : Nat) : Int) * (b : Int) = ((a % b : Nat) : Int) := by
    have : ((b * (a / b) + a % b : Nat) : Int) = (a : Int) := by rw [hd]
    rw [Int.natCast_add, Int.natCast_mul, Int.mul_comm] at this
    omega
  rw [e, zI_toInt (by omega) (by omega)]
/-- the digits of a number under 1000 -/
def zdg (v : Nat) : List Int := if v < 10 then [48 + (v : Int)] else if v < 100 then [48 + ((v / 10 : Nat) : Int), 48 + ((v % 10 : Nat) : Int)] else [48 + ((v / 100 : Nat) : Int), 48 + ((v / 10 % 10 : Nat) : Int), 48 + ((v % 10 : Nat) : Int)]
theorem zdg_ok (v : Nat) (h : v < 1000) : ∀ x ∈ zdg v, 48 ≤ x ∧ x ≤ 57 := by
  unfold zdg
  split
  · intro x hx
    rw [List.mem_singleton.1 hx]
    omega
  · split
    · intro x hx
      simp only [List.mem_cons, List.not_mem_nil, or_false] at hx
      omega
    · intro x hx
      simp only [List.mem_cons, List.not_mem_nil, or_false] at hx
      omega
theorem zdg_len (v : Nat) : 1 ≤ (zdg v).length ∧ (zdg v).length ≤ 3 := by
  unfold zdg
  split
  · simp
  · split <;> simp
theorem zchr_is (n : Nat) (h : n < 65536) : zchr (n : Int) = (n : Int) := by
  unfold zchr
  have h1 : (zI (n : Int)).toInt = (n : Int) := zI_toInt (by omega) (by omega)
  have h2 : (zI (n : Int)).toUInt32.toNat = n := by
    have : (zI (n : Int)).toBitVec.toNat = n := by
      show (Int32.ofInt (n : Int)).toBitVec.toNat = n
      have : Int32.ofInt (n : Int) = Int32.ofNat n := rfl
      rw [this]
      show (BitVec.ofNat 32 n).toNat = n
      rw [BitVec.toNat_ofNat]
      omega
    exact this
  have h3 : ((zI (n : Int)).toUInt32 % 65536).toNat = n := by
    rw [UInt32.toNat_mod, h2]
    exact Nat.mod_eq_of_lt h
  have h4 : ((zI (n : Int)).toUInt32 % 65536).toInt32 = zI (n : Int) := by
    have : (zI (n : Int)).toUInt32 % 65536 = (zI (n : Int)).toUInt32 := by
      apply UInt32.toNat_inj.1
      rw [h3, h2]
    rw [this]
    rfl
  rw [h4, h1]
theorem digit_is (v d : Nat) (hv : v < 1000) (hd : d = 1 ∨ d = 10 ∨ d = 100) : zchr (48 + zrem (zdiv (v : Int) (d : Int)) 10) = 48 + ((v / d % 10 : Nat) : Int) ∧ (48 + zrem (zdiv (v : Int) (d : Int)) 10) = 48 + ((v / d % 10 : Nat) : Int) := by
  have h1 := zdiv_is v d (by omega) (by omega) (by omega)
  have h2 := zrem_is (v / d) 10 (Nat.lt_of_le_of_lt (Nat.div_le_self v d) (by omega)) (by omega) (by omega)
  have h3 := Nat.mod_lt (v / d) (show 10 > 0 by omega)
  have e : (48 : Int) + ((v / d % 10 : Nat) : Int) = ((48 + v / d % 10 : Nat) : Int) := by omega
  have h2' : zrem ((v / d : Nat) : Int) 10 = ((v / d % 10 : Nat) : Int) := h2
  rw [h1, h2']
  refine ⟨?_, rfl⟩
  rw [e, zchr_is _ (by omega)]
theorem zdiv10_1 : zdiv 1 10 = 0 := by decide
theorem zdiv10_10 : zdiv 10 10 = 1 := by decide
theorem zdiv10_100 : zdiv 100 10 = 10 := by decide
/-- one digit -/
theorem addNum_step (F n : Nat) {u : ZC} {t : Nat} {w : List Int} (hl : zlT u t) (hc : cN u t ≤ 200) (H : zH u t w) (v d : Nat) (hv : v < 1000) (hd : d = 1 ∨ d = 10 ∨ d = 100) : ∃ u2, cText_addNumber_20 F (n + 1) u t (v : Int) (d : Int) = cText_addNumber_20 F n u2 t (v : Int) (zdiv (d : Int) 10) ∧ zH u2 t (w ++ [48 + ((v / d % 10 : Nat) : Int)]) ∧ zFr t t 0 0 u u2 := by
  have h3 := Nat.mod_lt (v / d) (show 10 > 0 by omega)
  obtain ⟨u2, c1, c2, c3⟩ := add_is F hl hc H (48 + ((v / d % 10 : Nat) : Int)) (Or.inr (by omega))
  refine ⟨u2, ?_, c2, c3⟩
  rw [cText_addNumber_20, if_neg (by rw [zI_le0 (by omega) (by omega)]; omega), if_pos (by rw [zI_eq0 (by omega) (by omega)]; omega), if_pos hl, (digit_is v d hv hd).1, c1]
  rfl
theorem addNum_end (F n : Nat) (u : ZC) (t : Nat) (v : Int) : cText_addNumber_20 F (n + 1) u t v 0 = some u := by
  rw [cText_addNumber_20, if_pos (by decide)]
theorem addNumber_is (F : Nat) (hF : 10 ≤ F) {u : ZC} {t : Nat} {w : List Int} (hl : zlT u t) (hc : cN u t ≤ 200) (H : zH u t w) (v : Nat) (hv : v < 1000) : ∃ u2, cText_addNumber F u t (v : Int) = some u2 ∧ zH u2 t (w ++ zdg v) ∧ zFr t t 0 0 u u2 := by
  obtain ⟨F, rfl⟩ : ∃ n, F = n + 10 := ⟨F - 10, by omega⟩
  have hdv : zdiv (v : Int) 10 = ((v / 10 : Nat) : Int) := zdiv_is v 10 (by omega) (by omega) (by omega)
  have d1 : ∀ n u, cText_addNumber_2 (F + 10) (n + 1) u t (v : Int) 1 = if v < 10 then cText_addNumber_20 (F + 10) (F + 10) u t (v : Int) 1 else cText_addNumber_2 (F + 10) n u t (v : Int) 10 := by
    intro n u
    rw [cText_addNumber_2, hdv]
    by_cases h : v < 10
    · rw [if_pos h, if_pos (by rw [zI_lt (by omega) (by omega) (by omega) (by omega)]; omega)]
    · rw [if_neg h, if_neg (by rw [zI_lt (by omega) (by omega) (by omega) (by omega)]; omega)]
      rfl
  have d2 : ∀ n u, cText_addNumber_2 (F + 10) (n + 1) u t (v : Int) 10 = if v < 100 then cText_addNumber_20 (F + 10) (F + 10) u t (v : Int) 10 else cText_addNumber_2 (F + 10) n u t (v : Int) 100 := by
    intro n u
    rw [cText_addNumber_2, hdv]
    by_cases h : v < 100
    · rw [if_pos h, if_pos (by rw [zI_lt (by omega) (by omega) (by omega) (by omega)]; omega)]
    · rw [if_neg h, if_neg (by rw [zI_lt (by omega) (by omega) (by omega) (by omega)]; omega)]
      rfl
  have d3 : ∀ n u, cText_addNumber_2 (F + 10) (n + 1) u t (v : Int) 100 = cText_addNumber_20 (F + 10) (F + 10) u t (v : Int) 100 := by
    intro n u
    rw [cText_addNumber_2, hdv, if_pos (by rw [zI_lt (by omega) (by omega) (by omega) (by omega)]; omega)]
  have e : cText_addNumber (F + 10) u t (v : Int) = cText_addNumber_2 (F + 10) (F + 10) u t (v : Int) 1 := rfl
  rw [e, d1 (F + 9)]
  unfold zdg
  by_cases h1 : v < 10
  · rw [if_pos h1, if_pos h1]
    obtain ⟨u2, c1, c2, c3⟩ := addNum_step (F + 10) (F + 9) hl hc H v 1 hv (Or.inl rfl)
    refine ⟨u2, ?_, ?_, c3⟩
    · have c1' : cText_addNumber_20 (F + 10) (F + 10) u t (v : Int) 1 = cText_addNumber_20 (F + 10) (F + 9) u2 t (v : Int) (zdiv 1 10) := c1
      rw [c1', zdiv10_1, addNum_end]
    · rw [show v / 1 % 10 = v by omega] at c2
      exact c2
  · rw [if_neg h1, if_neg h1, d2 (F + 8)]
    by_cases h2 : v < 100
    · rw [if_pos h2, if_pos h2]
      obtain ⟨u2, c1, c2, c3⟩ := addNum_step (F + 10) (F + 9) hl hc H v 10 hv (Or.inr (Or.inl rfl))
      obtain ⟨u3, g1, g2, g3⟩ := addNum_step (F + 10) (F + 8) (zlT_keep c3.2.2.2.2.2 hl) (by rw [c3.2.2.2.2.1]; exact hc) c2 v 1 hv (Or.inl rfl)
      refine ⟨u3, ?_, ?_, zFr_tr c3 g3⟩
      · have c1' : cText_addNumber_20 (F + 10) (F + 10) u t (v : Int) 10 = cText_addNumber_20 (F + 10) (F + 9) u2 t (v : Int) (zdiv 10 10) := c1
        have g1' : cText_addNumber_20 (F + 10) (F + 9) u2 t (v : Int) 1 = cText_addNumber_20 (F + 10) (F + 8) u3 t (v : Int) (zdiv 1 10) := g1
        rw [c1', zdiv10_10, g1', zdiv10_1, addNum_end]
      · rw [List.append_assoc, show v / 10 % 10 = v / 10 by omega, show v / 1 % 10 = v % 10 by omega] at g2
        exact g2
    · rw [if_neg h2, if_neg h2, d3 (F + 7)]
      obtain ⟨u2, c1, c2, c3⟩ := addNum_step (F + 10) (F + 9) hl hc H v 100 hv (Or.inr (Or.inr rfl))
      obtain ⟨u3, g1, g2, g3⟩ := addNum_step (F + 10) (F + 8) (zlT_keep c3.2.2.2.2.2 hl) (by rw [c3.2.2.2.2.1]; exact hc) c2 v 10 hv (Or.inr (Or.inl rfl))
      have c4 := zFr_tr c3 g3
      obtain ⟨u4, k1, k2, k3⟩ := addNum_step (F + 10) (F + 7) (zlT_keep c4.2.2.2.2.2 hl) (by rw [c4.2.2.2.2.1]; exact hc) g2 v 1 hv (Or.inl rfl)
      refine ⟨u4, ?_, ?_, zFr_tr c4 k3⟩
      · have c1' : cText_addNumber_20 (F + 10) (F + 10) u t (v : Int) 100 = cText_addNumber_20 (F + 10) (F + 9) u2 t (v : Int) (zdiv 100 10) := c1
        have g1' : cText_addNumber_20 (F + 10) (F + 9) u2 t (v : Int) 10 = cText_addNumber_20 (F + 10) (F + 8) u3 t (v : Int) (zdiv 10 10) := g1
        have k1' : cText_addNumber_20 (F + 10) (F + 8) u3 t (v : Int) 1 = cText_addNumber_20 (F + 10) (F + 7) u4 t (v : Int) (zdiv 1 10) := k1
        rw [c1', zdiv10_100, g1', zdiv10_10, k1', zdiv10_1, addNum_end]
      · rw [List.append_assoc, List.append_assoc, show v / 100 % 10 = v / 100 by omega, show v / 1 % 10 = v % 10 by omega] at k2
        exact k2
