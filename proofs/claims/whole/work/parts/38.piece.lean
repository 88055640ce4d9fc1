/-! one piece of a path -/
def zNb (x : Int) : Bool := decide (97 ≤ x ∧ x ≤ 122) || (decide (48 ≤ x ∧ x ≤ 57) || (decide (x = 95) || decide (x = 46)))
theorem zNb_iff (x : Int) : zNb x = true ↔ zNl x := by
  unfold zNb zNl
  simp only [Bool.or_eq_true, decide_eq_true_eq]
theorem zNb_cases (x : Int) (hx : 32 ≤ x ∧ x ≤ 126) (y : Option Bool) (a b : Bool) (ha : zNb x = true → y = some a) (hb : zNb x = false → y = some b) : y = some (if zNb x = true then a else b) := by
  cases h : zNb x
  · rw [hb h]; rfl
  · rw [ha h]; rfl
theorem nameLetter_is (F : Nat) (u : ZC) (x : Int) (hx : 32 ≤ x ∧ x ≤ 126) : cTree_isNameLetter F u x = some (zB (zNb x)) := by
  unfold cTree_isNameLetter zNb zB
  simp (disch := omega) only [zI_lt, zI_le, zI_eq, zI_eq0, zI_lt0, zI_0lt, zI_le0, zI_0le, zI_eq33, zI_eq38, zI_eq40, zI_eq41, zI_eq59, zI_eq60, zI_eq62, zI_eq124]
  by_cases h1 : x < 97
  · have h1' : ¬ 97 ≤ x := by omega
    by_cases h2 : x < 48
    · have h2' : ¬ 48 ≤ x := by omega
      by_cases h3 : x = 95
      · omega
      · by_cases h4 : x = 46
        · simp [h4]
        · simp [h1, h1', h2, h2', h3, h4]
    · have h2' : 48 ≤ x := by omega
      by_cases h5 : x ≤ 57
      · simp [h1, h1', h2, h2', h5]
      · by_cases h3 : x = 95
        · simp [h3]
        · by_cases h4 : x = 46
          · omega
          · simp [h1, h1', h2, h2', h3, h4, h5]
  · have h1' : 97 ≤ x := by omega
    by_cases h6 : x ≤ 122
    · simp [h1, h1', h6]
    · have h2 : ¬ x < 48 := by omega
      have h5 : ¬ x ≤ 57 := by omega
      have h3 : ¬ x = 95 := by omega
      have h4 : ¬ x = 46 := by omega
      simp [h1, h1', h6, h2, h3, h4, h5]
theorem rName_step (x : Int) (hx : 32 ≤ x ∧ x ≤ 126) : (if zI x < zI 97 then if zI x < zI 48 then if zI x = zI 95 then some true else if zI x = zI 46 then some true else some false else if zI x ≤ zI 57 then some true else if zI x = zI 95 then some true else if zI x = zI 46 then some true else some false else if zI x ≤ zI 122 then some true else if zI x < zI 48 then if zI x = zI 95 then some true else if zI x = zI 46 then some true else some false else if zI x ≤ zI 57 then some true else if zI x = zI 95 then some true else if zI x = zI 46 then some true else some false) = some (zNb x) := by
  unfold zNb
  simp (disch := omega) only [zI_lt, zI_le, zI_eq, zI_eq0, zI_lt0, zI_0lt, zI_le0, zI_0le, zI_eq33, zI_eq38, zI_eq40, zI_eq41, zI_eq59, zI_eq60, zI_eq62, zI_eq124]
  by_cases h1 : x < 97
  · have h1' : ¬ 97 ≤ x := by omega
    by_cases h2 : x < 48
    · have h2' : ¬ 48 ≤ x := by omega
      by_cases h3 : x = 95
      · omega
      · by_cases h4 : x = 46
        · simp [h4]
        · simp [h1, h1', h2, h2', h3, h4]
    · have h2' : 48 ≤ x := by omega
      by_cases h5 : x ≤ 57
      · simp [h1, h1', h2, h2', h5]
      · by_cases h3 : x = 95
        · simp [h3]
        · by_cases h4 : x = 46
          · omega
          · simp [h1, h1', h2, h2', h3, h4, h5]
  · have h1' : 97 ≤ x := by omega
    by_cases h6 : x ≤ 122
    · simp [h1, h1', h6]
    · have h2 : ¬ x < 48 := by omega
      have h5 : ¬ x ≤ 57 := by omega
      have h3 : ¬ x = 95 := by omega
      have h4 : ¬ x = 46 := by omega
      simp [h1, h1', h6, h2, h3, h4, h5]
theorem zsl_snoc (v : List Int) (a b : Nat) (h : a ≤ b) (hb : b < v.length) : zsl v a (b + 1) = zsl v a b ++ [v.getD b 0] := by
  apply zext
  · rw [List.length_append, zsl_len v a (b + 1) (by omega), zsl_len v a b (by omega), List.length_singleton]
    omega
  · intro i hi
    rw [zsl_len v a (b + 1) (by omega)] at hi
    rw [zsl_get v a (b + 1) i (by omega), zgA, zgs, zsl_len v a b (by omega)]
    by_cases h2 : i < b - a
    · rw [if_pos h2, zsl_get v a b i h2]
    · rw [if_neg h2, if_pos (by omega), show a + i = b by omega]
/-- the two words of dots -/
theorem zdots1 (w : List Int) : w = [46] ↔ w.length = 1 ∧ w.getD 0 0 = 46 := by
  constructor
  · intro h; rw [h]; exact ⟨rfl, rfl⟩
  · rintro ⟨h1, h2⟩
    refine zext h1 (fun i hi => ?_)
    rw [show i = 0 by omega, h2]
    rfl
theorem zdots2 (w : List Int) : w = [46, 46] ↔ w.length = 2 ∧ w.getD 0 0 = 46 ∧ w.getD 1 0 = 46 := by
  constructor
  · intro h; rw [h]; exact ⟨rfl, rfl, rfl⟩
  · rintro ⟨h1, h2, h3⟩
    refine zext h1 (fun i hi => ?_)
    have : i = 0 ∨ i = 1 := by omega
    rcases this with h | h
    · rw [h, h2]; rfl
    · rw [h, h3]; rfl
theorem isDots_is (F : Nat) {r : ZR} {fl : List Int} (hfl : fl.length ≤ 96) (hL : zlw fl) (H : zRA r 20 0 fl) (a b : Nat) (hab : a ≤ b) (hb : b ≤ fl.length) : r_isDots F r (a : Int) (b : Int) = some (zB (decide (zsl fl a b = [46] ∨ zsl fl a b = [46, 46]))) := by
  have hlen := zsl_len fl a b hb
  have g : ∀ i, i < b - a → rA r 20 (a + i) = fl.getD (a + i) 0 ∧ 32 ≤ fl.getD (a + i) 0 ∧ fl.getD (a + i) 0 ≤ 126 := by
    intro i hi
    have e := H (a + i) (by omega)
    rw [Nat.zero_add] at e
    exact ⟨e, zlw_get hL _ (by omega)⟩
  simp only [zdots1, zdots2, hlen]
  unfold r_isDots
  simp only [zI_eq (a := (b : Int) - (a : Int)) (b := 1) (by omega) (by omega) (by omega) (by omega), zI_eq (a := (b : Int) - (a : Int)) (b := 2) (by omega) (by omega) (by omega) (by omega)]
  by_cases h1 : b - a = 1
  · have k1 : (b : Int) - (a : Int) = 1 := by omega
    obtain ⟨e, e2⟩ := g 0 (by omega)
    rw [Nat.add_zero] at e e2
    rw [zsl_get fl a b 0 (by omega), Nat.add_zero, if_neg (not_not_intro k1), if_pos (show zix (a : Int) 200 from ⟨by omega, by omega, by omega⟩)]
    simp only [Int.toNat_natCast, e, zI_eq (a := fl.getD a 0) (b := 46) (by omega) (by omega) (by omega) (by omega)]
    by_cases hd : fl.getD a 0 = 46
    · simp only [hd, h1, if_true, Option.bind_some, true_and, true_or, and_self, decide_true]
      rfl
    · have k2 : ¬ (b : Int) - (a : Int) = 2 := by omega
      have k3 : ¬ b - a = 2 := by omega
      simp only [hd, h1, k2, if_true, if_false, not_false_iff, Option.bind_some, and_false, false_and, or_self, decide_false, reduceCtorEq]
      rfl
  · have k1 : ¬ (b : Int) - (a : Int) = 1 := by omega
    rw [if_pos k1]
    by_cases h2 : b - a = 2
    · have k2 : (b : Int) - (a : Int) = 2 := by omega
      obtain ⟨e, e2⟩ := g 0 (by omega)
      obtain ⟨e3, e4⟩ := g 1 (by omega)
      rw [Nat.add_zero] at e e2
      rw [zsl_get fl a b 0 (by omega), zsl_get fl a b 1 (by omega), Nat.add_zero, if_neg (not_not_intro k2), if_pos (show zix (a : Int) 200 from ⟨by omega, by omega, by omega⟩), if_pos (show zix ((a : Int) + 1) 200 from ⟨by omega, by omega, by omega⟩)]
      simp only [Int.toNat_natCast, e, show ((a : Int) + 1).toNat = a + 1 by omega, e3, zI_eq (a := fl.getD a 0) (b := 46) (by omega) (by omega) (by omega) (by omega), zI_eq (a := fl.getD (a + 1) 0) (b := 46) (by omega) (by omega) (by omega) (by omega)]
      by_cases hd : fl.getD a 0 = 46
      · by_cases hd2 : fl.getD (a + 1) 0 = 46
        · simp only [hd, hd2, h1, h2, not_true, if_false, Option.bind_some, if_true, true_and, and_self, false_and, or_true, decide_true]
          rfl
        · simp only [hd, hd2, h1, h2, not_true, not_false_iff, if_false, if_true, Option.bind_some, and_false, false_and, or_self, decide_false, reduceCtorEq]
          rfl
      · simp only [hd, h1, h2, not_false_iff, if_false, if_true, Option.bind_some, and_false, false_and, or_self, decide_false, reduceCtorEq]
        rfl
    · have k2 : ¬ (b : Int) - (a : Int) = 2 := by omega
      rw [if_pos k2]
      simp only [h1, h2, Option.bind_some, false_and, or_self, decide_false, reduceCtorEq, if_false]
      rfl
theorem isName_loop (F : Nat) {r : ZR} {fl : List Int} (hfl : fl.length ≤ 96) (hL : zlw fl) (H : zRA r 20 0 fl) (b : Nat) (hb : b ≤ fl.length) : ∀ (j k n : Nat), k + j = b → j < n → r_isName_28 F n r (b : Int) (k : Int) = some (zB ((zsl fl k b).all zNb)) := by
  intro j
  induction j with
  | zero =>
    intro k n hk hn
    obtain ⟨n, rfl⟩ : ∃ n', n = n' + 1 := ⟨n - 1, by omega⟩
    have : zsl fl k b = [] := List.eq_nil_of_length_eq_zero (by rw [zsl_len fl k b hb]; omega)
    rw [r_isName_28, if_pos (by rw [zI_le (by omega) (by omega) (by omega) (by omega)]; omega), this]
    rfl
  | succ j ih =>
    intro k n hk hn
    obtain ⟨n, rfl⟩ : ∃ n', n = n' + 1 := ⟨n - 1, by omega⟩
    have e := H k (by omega)
    rw [Nat.zero_add] at e
    have hx := zlw_get hL k (by omega)
    have hs : zsl fl k b = fl.getD k 0 :: zsl fl (k + 1) b := by
      apply zext
      · rw [List.length_cons, zsl_len fl k b hb, zsl_len fl (k + 1) b hb]
        omega
      · intro i hi
        rw [zsl_len fl k b hb] at hi
        rw [zsl_get fl k b i hi]
        cases i with
        | zero => rfl
        | succ i =>
          show fl.getD (k + (i + 1)) 0 = (zsl fl (k + 1) b).getD i 0
          rw [zsl_get fl (k + 1) b i (by omega), show k + (i + 1) = k + 1 + i by omega]
    rw [r_isName_28, if_neg (by rw [zI_le (by omega) (by omega) (by omega) (by omega)]; omega), if_pos (show zix (k : Int) 200 from ⟨by omega, by omega, by omega⟩), Int.toNat_natCast, e, rName_step _ hx, hs, List.all_cons]
    simp only [Option.bind_some]
    cases hb2 : zNb (fl.getD k 0)
    · rfl
    · simp only [if_true, Bool.true_and]
      rw [show (k : Int) + 1 = ((k + 1 : Nat) : Int) by omega]
      exact ih (k + 1) n (by omega) (by omega)
theorem isName_is (F : Nat) (hF : 20 ≤ F) {r : ZR} {fl : List Int} (hfl : fl.length ≤ 96) (hL : zlw fl) (H : zRA r 20 0 fl) (a b : Nat) (hab : a ≤ b) (hb : b ≤ fl.length) : r_isName F r (a : Int) (b : Int) = some (zB (decide ((1 ≤ b - a ∧ b - a ≤ 7) ∧ ¬ (zsl fl a b = [46] ∨ zsl fl a b = [46, 46])) && (zsl fl a b).all zNb)) := by
  unfold r_isName
  simp only [zI_lt (a := (b : Int) - (a : Int)) (b := 1) (by omega) (by omega) (by omega) (by omega), zI_lt (a := 7) (b := (b : Int) - (a : Int)) (by omega) (by omega) (by omega) (by omega)]
  by_cases h1 : b - a < 1
  · rw [if_pos (show (b : Int) - (a : Int) < 1 by omega)]
    have : ¬ 1 ≤ b - a := by omega
    simp only [Option.bind_some, if_true, this, false_and, decide_false, Bool.false_and]
    rfl
  · rw [if_neg (show ¬ (b : Int) - (a : Int) < 1 by omega)]
    by_cases h7 : 7 < b - a
    · rw [if_pos (show 7 < (b : Int) - (a : Int) by omega)]
      have : ¬ b - a ≤ 7 := by omega
      simp only [Option.bind_some, if_true, this, and_false, false_and, decide_false, Bool.false_and]
      rfl
    · rw [if_neg (show ¬ 7 < (b : Int) - (a : Int) by omega), isDots_is F hfl hL H a b hab hb]
      have k1 : 1 ≤ b - a := by omega
      have k7 : b - a ≤ 7 := by omega
      by_cases hd : zsl fl a b = [46] ∨ zsl fl a b = [46, 46]
      · simp only [hd, decide_true, zB_t, Option.bind_some, z10, if_false, if_true, not_true, and_false, decide_false, Bool.false_and]
        rfl
      · simp only [hd, decide_false, zB_f, Option.bind_some, z00, if_true, reduceCtorEq, if_false, not_false_iff, k1, k7, and_self, decide_true, Bool.true_and]
        exact isName_loop F hfl hL H b hb (b - a) a F (by omega) (by omega)
