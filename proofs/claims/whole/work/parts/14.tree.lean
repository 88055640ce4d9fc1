/-! the tree on both sides -/
/-- c nodes beside the root; node n's parent, its name, its kind, its content, as class and reference keep them -/
def zNode (u : ZC) (r : ZR) (c n : Nat) : Prop :=
  (∃ p : Nat, p < n ∧ cP u 5 n = some p ∧ rA r 5 n = (p : Int) ∧ cP u 6 p = none) ∧ cP u 7 n = some (n - 1) ∧ cJ u 0 n = rL r 6 n ∧ (3, n) ∈ cL u ∧ zNm (cJ u 0 n) ∧
  ((cP u 6 n = none ∧ rA r 4 n = 1 ∧ rA r 7 n = 0) ∨
   (cP u 6 n = some (n + 23) ∧ rA r 4 n = 0 ∧ (1, n + 23) ∈ cL u ∧ (2, n + 23) ∈ cL u ∧ (cN u (n + 23) : Int) = cI u 5 0 ∧ 0 ≤ cI u 0 (n + 23) ∧ cI u 0 (n + 23) ≤ cI u 5 0 ∧ rA r 7 n = cI u 0 (n + 23) ∧
    ∀ i : Nat, (i : Int) < cI u 0 (n + 23) → cA u 0 (n + 23) i = rA r 8 (160 * n + i) ∧ (cA u 0 (n + 23) i = 10 ∨ (32 ≤ cA u 0 (n + 23) i ∧ cA u 0 (n + 23) i ≤ 126))))
def zTree (u : ZC) (r : ZR) (c h : Nat) : Prop :=
  c ≤ 12 ∧ cI u 6 0 = (c : Int) ∧ cP u 0 0 = some c ∧ cP u 1 0 = some h ∧ rI r 9 = (h : Int) ∧ h ≤ c ∧ cP u 6 h = none ∧
  (∀ n : Nat, n ≤ 12 → rA r 3 n = if n ≤ c then 1 else 0) ∧
  (cP u 5 0 = none ∧ cP u 6 0 = none ∧ cP u 7 0 = none ∧ rA r 4 0 = 1 ∧ rA r 5 0 = 0 ∧ rA r 7 0 = 0) ∧
  (∀ n : Nat, 1 ≤ n → n ≤ c → zNode u r c n) ∧ (cL u).length ≤ 3 * c ∧ (∀ x y : Nat, 1 ≤ x → x < y → y ≤ c → ¬ (cP u 5 x = cP u 5 y ∧ cJ u 0 x = cJ u 0 y)) ∧ (∀ i : Nat × Nat, i ∈ cL u → (i.1 = 3 ∧ 1 ≤ i.2 ∧ i.2 ≤ c) ∨ ((i.1 = 1 ∨ i.1 = 2) ∧ 24 ≤ i.2 ∧ i.2 ≤ c + 23)) ∧ ∀ n : Nat, c < n → cP u 5 n = none ∧ cP u 6 n = none ∧ cP u 7 n = none
theorem zlN_of {u : ZC} {r : ZR} {c h n : Nat} (H : zTree u r c h) (hn : n ≤ c) : zlN u n := by
  by_cases h0 : n = 0
  · exact Or.inl h0
  · exact Or.inr (H.2.2.2.2.2.2.2.2.2.1 n (by omega) hn).2.2.2.1
theorem depth_loop (F : Nat) {u : ZC} {r : ZR} {c h : Nat} (H : zTree u r c h) : ∀ (x n m : Nat) (a : Int), x ≤ c → x < n → x < m → 0 ≤ a → a + x ≤ 12 →
    ∃ b : Int, cShell_depth_10 F n u a (some x) = some b ∧ r_depth_7 F m r a x = some b := by
  intro x
  induction x using Nat.strongRecOn with
  | _ x ih =>
    intro n m a hx hn hm ha hax
    obtain ⟨n, rfl⟩ : ∃ n', n = n' + 1 := ⟨n - 1, by omega⟩
    obtain ⟨m, rfl⟩ : ∃ m', m = m' + 1 := ⟨m - 1, by omega⟩
    have hc12 := H.1
    have hl := zlN_of H hx
    rw [cShell_depth_10, r_depth_7]
    simp (disch := omega) only [zI_eq0, zI_le]
    show ∃ b, (if zlN u x then _ else none) = some b ∧ _
    rw [if_pos hl]
    by_cases h0 : x = 0
    · subst h0
      refine ⟨a, ?_, ?_⟩
      · show Option.elim (cP u 5 0) (some a) _ = some a
        rw [H.2.2.2.2.2.2.2.2.1.1]
        rfl
      · rfl
    · obtain ⟨⟨p, hp, e1, e2, -⟩, -⟩ := H.2.2.2.2.2.2.2.2.2.1 x (by omega) hx
      obtain ⟨b, q1, q2⟩ := ih p hp n m (a + 1) (by omega) (by omega) (by omega) (by omega) (by omega)
      refine ⟨b, ?_, ?_⟩
      · show Option.elim (cP u 5 x) (some a) (fun _ => cShell_depth_10 F n u (a + 1) (cP u 5 x)) = some b
        rw [e1]
        exact q1
      · have hxi : ¬ ((x : Int) = 0) := by omega
        have ha13 : ¬ ((13 : Int) ≤ a) := by omega
        have hz : zix (x : Int) 13 := ⟨by omega, by omega, by omega⟩
        simp only [hxi, ha13, if_false, Option.bind_some, Bool.false_eq_true, if_pos hz]
        rw [show ((x : Int)).toNat = x by omega, e2]
        exact q2
theorem depth_alike (F : Nat) (hF : 14 ≤ F) {u : ZC} {r : ZR} {c h : Nat} (H : zTree u r c h) : ∃ a : Int, cShell_depth F u = some a ∧ r_depth F r = some a := by
  have hc := H.1
  have hh := H.2.2.2.2.2.1
  obtain ⟨b, q1, q2⟩ := depth_loop F H h F F 0 (by omega) (by omega) (by omega) (by omega) (by omega)
  refine ⟨b, ?_, ?_⟩
  · show cShell_depth_10 F F u 0 (cP u 1 0) = some b
    rw [H.2.2.2.1]
    exact q1
  · show r_depth_7 F F r 0 (rI r 9) = some b
    rw [H.2.2.2.2.1]
    exact q2
theorem nodes_loop (F : Nat) {u : ZC} {r : ZR} {c h : Nat} (H : zTree u r c h) : ∀ (j n k : Nat) (a : Int), j + k = 13 → j < n → r_nodes_4 F n r a k = some (a + if k ≤ c then ((c + 1 - k : Nat) : Int) else 0) := by
  intro j
  induction j with
  | zero =>
    intro n k a hk hn
    obtain ⟨n, rfl⟩ : ∃ n', n = n' + 1 := ⟨n - 1, by omega⟩
    have hc := H.1
    have hk13 : k = 13 := by omega
    subst hk13
    rw [r_nodes_4, if_pos (by rw [zI_le (by omega) (by omega) (by omega) (by omega)]; omega), if_neg (by omega), Int.add_zero]
  | succ j ih =>
    intro n k a hk hn
    obtain ⟨n, rfl⟩ : ∃ n', n = n' + 1 := ⟨n - 1, by omega⟩
    have hc := H.1
    have hu := H.2.2.2.2.2.2.2.1 k (by omega)
    have hz : zix (k : Int) 13 := ⟨by omega, by omega, by omega⟩
    have e1 : (k : Int) + 1 = ((k + 1 : Nat) : Int) := by omega
    have ek : ((k : Int)).toNat = k := by omega
    rw [r_nodes_4, if_neg (by rw [zI_le (by omega) (by omega) (by omega) (by omega)]; omega), if_pos hz, ek, hu, e1]
    by_cases hkc : k ≤ c
    · rw [if_pos hkc, if_pos hkc, if_neg (by decide)]
      show r_nodes_4 F n r (a + 1) ((k + 1 : Nat) : Int) = _
      rw [ih n (k + 1) (a + 1) (by omega) (by omega)]
      congr 1
      split <;> omega
    · rw [if_neg hkc, if_neg hkc, if_pos (by decide)]
      show r_nodes_4 F n r a ((k + 1 : Nat) : Int) = _
      rw [ih n (k + 1) a (by omega) (by omega), if_neg (by omega)]
theorem nodes_alike (F : Nat) (hF : 14 ≤ F) {u : ZC} {r : ZR} {c h : Nat} (H : zTree u r c h) : ∃ a : Int, cShell_nodes F u = some a ∧ r_nodes F r = some a := by
  have hc := H.1
  refine ⟨cI u 6 0, rfl, ?_⟩
  show r_nodes_4 F F r 0 ((1 : Nat) : Int) = _
  rw [nodes_loop F H 12 F 1 0 rfl (by omega), H.2.1]
  congr 1
  split <;> omega
/-- the letters of all files from node k on, j nodes -/
def zsum (r : ZR) : Nat → Nat → Int
  | _, 0 => 0
  | k, j + 1 => (if zI (rA r 3 k) = 0 then 0 else rA r 7 k) + zsum r (k + 1) j
theorem chars_loop (F : Nat) (r : ZR) : ∀ (j n k : Nat) (a : Int), j + k = 13 → j < n → r_chars_4 F n r a k = some (a + zsum r k j) := by
  intro j
  induction j with
  | zero =>
    intro n k a hk hn
    obtain ⟨n, rfl⟩ : ∃ n', n = n' + 1 := ⟨n - 1, by omega⟩
    have hk13 : k = 13 := by omega
    subst hk13
    rw [r_chars_4, if_pos (by rw [zI_le (by omega) (by omega) (by omega) (by omega)]; omega)]
    simp only [zsum, Int.add_zero]
  | succ j ih =>
    intro n k a hk hn
    obtain ⟨n, rfl⟩ : ∃ n', n = n' + 1 := ⟨n - 1, by omega⟩
    have hz : zix (k : Int) 13 := ⟨by omega, by omega, by omega⟩
    have e1 : (k : Int) + 1 = ((k + 1 : Nat) : Int) := by omega
    have ek : ((k : Int)).toNat = k := by omega
    rw [r_chars_4, if_neg (by rw [zI_le (by omega) (by omega) (by omega) (by omega)]; omega), if_pos hz, ek, e1]
    simp only [zsum]
    by_cases h : zI (rA r 3 k) = 0
    · rw [if_pos h, if_pos h]
      show r_chars_4 F n r a ((k + 1 : Nat) : Int) = _
      rw [ih n (k + 1) a (by omega) (by omega), Int.zero_add]
    · rw [if_neg h, if_neg h]
      show r_chars_4 F n r (a + rA r 7 k) ((k + 1 : Nat) : Int) = _
      rw [ih n (k + 1) (a + rA r 7 k) (by omega) (by omega), Int.add_assoc]
theorem chars_is (F : Nat) (hF : 14 ≤ F) (r : ZR) : r_chars F r = some (zsum r 0 13) := by
  show r_chars_4 F F r 0 ((0 : Nat) : Int) = _
  rw [chars_loop F r 13 F 0 0 rfl (by omega), Int.zero_add]
