/-! words: quotes taken off, the status put in -/
def zexp (L : Nat → Int) (b : Nat) (D : List Int) : Nat → Nat → Bool → List Int
  | 0, _, _ => []
  | f + 1, i, q => if b ≤ i then [] else if L i = 39 then zexp L b D f (i + 1) (!q) else if L i = 36 ∧ q = false ∧ i + 1 < b ∧ L (i + 1) = 63 then D ++ zexp L b D f (i + 2) q else L i :: zexp L b D f (i + 1) q
theorem zexp_len (L : Nat → Int) (b : Nat) (D : List Int) (hD : D.length ≤ 3) : ∀ (f i : Nat) (q : Bool), 2 * (zexp L b D f i q).length ≤ 3 * (b - i) := by
  intro f
  induction f with
  | zero => intro i q; exact Nat.zero_le _
  | succ f ih =>
    intro i q
    have h1 := ih (i + 1) (!q)
    have h2 := ih (i + 2) q
    have h3 := ih (i + 1) q
    rw [zexp]
    split
    · exact Nat.zero_le _
    · split
      · omega
      · split
        · rename_i h
          rw [List.length_append]
          omega
        · rw [List.length_cons]
          omega
theorem zexp_ok (L : Nat → Int) (b : Nat) (D : List Int) (hD : ∀ x ∈ D, 48 ≤ x ∧ x ≤ 57) (hL : ∀ i, i < b → 32 ≤ L i ∧ L i ≤ 126) : ∀ (f i : Nat) (q : Bool), ∀ x ∈ zexp L b D f i q, 32 ≤ x ∧ x ≤ 126 := by
  intro f
  induction f with
  | zero => intro i q x hx; cases hx
  | succ f ih =>
    intro i q x
    rw [zexp]
    split
    · intro hx; cases hx
    · split
      · exact ih (i + 1) (!q) x
      · split
        · intro hx
          rcases List.mem_append.1 hx with hx | hx
          · have := hD x hx
            omega
          · exact ih (i + 2) q x hx
        · intro hx
          rcases List.mem_cons.1 hx with hx | hx
          · rw [hx]
            exact hL i (by omega)
          · exact ih (i + 1) q x hx
/-- where word k begins -/
def zst (ws : List (List Int)) (k : Nat) : Nat := (ws.take k).flatten.length
/-- the words of the class; of the reference -/
def zW (u : ZC) (ws : List (List Int)) : Prop := cI u 10 0 = (ws.length : Int) ∧ ws.length ≤ 64 ∧ cN u 1 = 96 ∧ (ws.flatten.length ≤ 96 ∧ zH u 1 ws.flatten) ∧ ∀ k : Nat, k < ws.length → cA u 4 0 k = (zst ws (k + 1) : Int)
def zWr (r : ZR) (ws : List (List Int)) : Prop := rI r 16 = (ws.length : Int) ∧ rI r 19 = (ws.flatten.length : Int) ∧ ws.flatten.length ≤ 96 ∧ zRA r 20 0 ws.flatten ∧ ∀ k : Nat, k < ws.length → rA r 17 k = (zst ws k : Int) ∧ rA r 18 k = (zst ws (k + 1) : Int)
theorem zst_all (ws : List (List Int)) : zst ws ws.length = ws.flatten.length := by
  unfold zst
  rw [List.take_length]
theorem zst_snoc (ws : List (List Int)) (w : List Int) (k : Nat) (h : k ≤ ws.length) : zst (ws ++ [w]) k = zst ws k := by
  unfold zst
  rw [List.take_append_of_le_length h]
theorem zst_succ (ws : List (List Int)) (k : Nat) (h : k < ws.length) : zst ws (k + 1) = zst ws k + (ws.getD k []).length := by
  unfold zst
  rw [List.take_succ, List.flatten_append, List.length_append, List.getElem?_eq_getElem h, List.getD_eq_getElem?_getD, List.getElem?_eq_getElem h]
  simp
theorem zst_le (ws : List (List Int)) (k : Nat) : zst ws k ≤ ws.flatten.length := by
  have h : ws.flatten.length = zst ws k + (ws.drop k).flatten.length := by
    unfold zst
    rw [← List.length_append, ← List.flatten_append, List.take_append_drop]
  omega
/-- letter i of word k -/
theorem zst_get (ws : List (List Int)) (k i : Nat) (h : k < ws.length) (hi : i < (ws.getD k []).length) : ws.flatten.getD (zst ws k + i) 0 = (ws.getD k []).getD i 0 := by
  have e : ws.flatten = (ws.take k).flatten ++ (ws.getD k [] ++ (ws.drop (k + 1)).flatten) := by
    have : ws = ws.take k ++ (ws.getD k [] :: ws.drop (k + 1)) := by
      rw [List.getD_eq_getElem?_getD, List.getElem?_eq_getElem h, Option.getD_some, List.getElem_cons_drop, List.take_append_drop]
    conv => lhs; rw [this]
    rw [List.flatten_append, List.flatten_cons]
  rw [e, zgA, if_neg (by unfold zst; omega), zgA]
  have : zst ws k + i - (ws.take k).flatten.length = i := by unfold zst; omega
  rw [this, if_pos hi]
theorem wclear_is (F : Nat) {u : ZC} (hN : cN u 1 = 96) : ∃ u2, cWords_clear F u = some u2 ∧ zW u2 [] ∧ zFr 1 1 1 0 u u2 := by
  obtain ⟨u1, c1, c2, c3⟩ := clear_is F (u := u) (t := 1) (Or.inl (by decide))
  have hN1 : cN u1 1 = 96 := by rw [c3.2.2.2.2.1]; exact hN
  refine ⟨sI u1 10 0 0, ?_, ⟨rfl, Nat.zero_le _, hN1, ?_, fun k hk => absurd hk (Nat.not_lt_zero k)⟩, zFr_tr (zFr_mono c3 (by omega) (by omega) (by omega) (by omega)) ?_⟩
  · unfold cWords_clear
    rw [c1]
    rfl
  · exact ⟨Nat.zero_le _, c2⟩
  · refine ⟨fun f o h k => ?_, fun _ _ _ => rfl, fun _ _ _ => rfl, fun _ _ _ _ _ => rfl, rfl, rfl⟩
    show (if f = 10 ∧ o = 0 then 0 else cI u1 f o) = cI u1 f o
    rw [if_neg (by omega)]
theorem wadd_loop (F : Nat) (hF : 70 ≤ F) (L : Nat → Int) (b st k : Nat) (hb : b ≤ 64) (hst : st < 1000) (hk : k < 64) (hL : ∀ i, i < b → 32 ≤ L i ∧ L i ≤ 126) : ∀ (f i n : Nat) (q : Bool) (u : ZC) (w : List Int), b - i ≤ f → f < n → zH u 1 w → cN u 1 = 96 → cN u 0 = 64 → (∀ j, j < b → cA u 0 0 j = L j) → cI u 10 0 = (k : Int) → 2 * w.length + 3 * (b - i) ≤ 192 →
    i ≤ 64 → ∃ u2, cWords_add_51 F n u (st : Int) (b : Int) (zB q) (i : Int) = some u2 ∧ zH u2 1 (w ++ zexp L b (zdg st) f i q) ∧ cI u2 10 0 = (k : Int) + 1 ∧ cA u2 4 0 k = ((w ++ zexp L b (zdg st) f i q).length : Int) ∧ (∀ j, j ≠ k → cA u2 4 0 j = cA u 4 0 j) ∧ zFr 1 1 1 0 u u2 := by
  have hend : ∀ (n i : Nat) (q : Bool) (u : ZC) (w : List Int), b ≤ i → i ≤ 64 → zH u 1 w → cN u 1 = 96 → cI u 10 0 = (k : Int) → 2 * w.length ≤ 192 → ∃ u2, cWords_add_51 F (n + 1) u (st : Int) (b : Int) (zB q) (i : Int) = some u2 ∧ zH u2 1 (w ++ []) ∧ cI u2 10 0 = (k : Int) + 1 ∧ cA u2 4 0 k = ((w ++ []).length : Int) ∧ (∀ j, j ≠ k → cA u2 4 0 j = cA u 4 0 j) ∧ zFr 1 1 1 0 u u2 := by
    intro n i q u w hbi hi64 hH hN hk0 hw
    have hT := (hH.2.1 (by omega)).2
    rw [List.append_nil]
    have hz : zix (cI u 10 0) 64 := ⟨by omega, by omega, by omega⟩
    rw [cWords_add_51, if_pos (by rw [zI_le (by omega) (by omega) (by omega) (by omega)]; omega), if_pos hz]
    refine ⟨sI (sA u 4 0 (cI u 10 0).toNat (cI u 0 1)) 10 0 (cI u 10 0 + 1), rfl, hH, ?_, ?_, fun j hj => ?_, ?_⟩
    · show cI u 10 0 + 1 = _
      omega
    · show (if 4 = 4 ∧ 0 = 0 ∧ k = (cI u 10 0).toNat then cI u 0 1 else cA u 4 0 k) = _
      rw [if_pos ⟨rfl, rfl, by omega⟩]
      exact hT.1
    · show (if 4 = 4 ∧ 0 = 0 ∧ j = (cI u 10 0).toNat then cI u 0 1 else cA u 4 0 j) = _
      rw [if_neg (by omega)]
    · refine ⟨fun f o h k => ?_, fun _ _ _ => rfl, fun _ _ _ => rfl, fun f o j h k => ?_, rfl, rfl⟩
      · show (if f = 10 ∧ o = 0 then cI u 10 0 + 1 else cI u f o) = cI u f o
        rw [if_neg (by omega)]
      · show (if f = 4 ∧ o = 0 ∧ j = (cI u 10 0).toNat then cI u 0 1 else cA u f o j) = cA u f o j
        rw [if_neg (by omega)]
  intro f
  induction f with
  | zero =>
    intro i n q u w hf hn hH hN hN0 hLu hk0 hw hi
    obtain ⟨n, rfl⟩ : ∃ n', n = n' + 1 := ⟨n - 1, by omega⟩
    exact hend n i q u w (by omega) hi hH hN hk0 (by omega)
  | succ f ih =>
    intro i n q u w hf hn hH hN hN0 hLu hk0 hw hi
    obtain ⟨n, rfl⟩ : ∃ n', n = n' + 1 := ⟨n - 1, by omega⟩
    by_cases hbi : b ≤ i
    · rw [zexp, if_pos hbi]
      exact hend n i q u w hbi hi hH hN hk0 (by omega)
    · have hLi := hL i (by omega)
      have hLe := hLu i (by omega)
      have hz : zix (i : Int) (cN u 0) := ⟨by omega, by omega, by omega⟩
      have e1 : (i : Int) + 1 = ((i + 1 : Nat) : Int) := by omega
      rw [cWords_add_51, if_neg (by rw [zI_le (by omega) (by omega) (by omega) (by omega)]; omega), if_pos hz, zexp, if_neg hbi]
      simp only [Int.toNat_natCast, hLe, zI_eq (a := L i) (b := 39) (by omega) (by omega) (by omega) (by omega), zI_eq (a := L i) (b := 36) (by omega) (by omega) (by omega) (by omega)]
      -- what goes on with a longer text
      have hgo : ∀ (u1 : ZC) (w1 : List Int) (i1 : Nat) (q1 : Bool), zH u1 1 w1 → zFr 1 1 1 0 u u1 → cI u1 10 0 = cI u 10 0 → (∀ j, cA u1 4 0 j = cA u 4 0 j) → i < i1 → i1 ≤ b → 2 * w1.length + 3 * (b - i1) ≤ 192 → ∃ u2, cWords_add_51 F n u1 (st : Int) (b : Int) (zB q1) (i1 : Int) = some u2 ∧ zH u2 1 (w1 ++ zexp L b (zdg st) f i1 q1) ∧ cI u2 10 0 = (k : Int) + 1 ∧ cA u2 4 0 k = ((w1 ++ zexp L b (zdg st) f i1 q1).length : Int) ∧ (∀ j, j ≠ k → cA u2 4 0 j = cA u 4 0 j) ∧ zFr 1 1 1 0 u u2 := by
        intro u1 w1 i1 q1 hH1 hf1 hk1 hA1 hi1 hi1b hw1
        obtain ⟨u2, g1, g2, g3, g4, g5, g6⟩ := ih i1 n q1 u1 w1 (by omega) (by omega) hH1 (by rw [hf1.2.2.2.2.1]; exact hN) (by rw [hf1.2.2.2.2.1]; exact hN0) (fun j hj => by rw [hf1.2.2.2.1 0 0 j (by omega) (by omega)]; exact hLu j hj) (by rw [hk1]; exact hk0) hw1 (by omega)
        exact ⟨u2, g1, g2, g3, g4, fun j hj => (g5 j hj).trans (hA1 j), zFr_tr hf1 g6⟩
      by_cases c39 : L i = 39
      · simp only [c39, not_true, if_false, if_true]
        have hb2 : (Option.bind (if ¬ zI (zB q) = 0 then some (0 : Int) else some 1) fun (x7 : Int) => some (x7, (i : Int), u)) = some (zB (!q), (i : Int), u) := by
          cases q
          · rfl
          · rfl
        rw [hb2]
        simp only [zb3_some]
        rw [e1]
        exact hgo u w (i + 1) (!q) hH (zFr_rf _ _ _ _ u) rfl (fun _ => rfl) (by omega) (by omega) (by omega)
      · by_cases c36 : L i = 36 ∧ q = false ∧ i + 1 < b ∧ L (i + 1) = 63
        · obtain ⟨d1, d2, d3, d4⟩ := c36
          subst d2
          have hz1 : zix ((i : Int) + 1) (cN u 0) := ⟨by omega, by omega, by omega⟩
          have hn1 : ¬ zI (b : Int) ≤ zI ((i : Int) + 1) := by rw [zI_le (by omega) (by omega) (by omega) (by omega)]; omega
          have e63 : cA u 0 0 ((i : Int) + 1).toNat = 63 := by
            rw [show ((i : Int) + 1).toNat = i + 1 by omega, hLu (i + 1) d3]
            exact d4
          obtain ⟨u1, g1, g2, g3⟩ := addNumber_is F (by omega) (u := u) (t := 1) (Or.inl (by decide)) (by omega) hH st hst
          have hdl := zdg_len st
          simp only [d1, d3, d4, Int.reduceEq, not_true, not_false_iff, if_false, if_true, zB_f, z00, hn1, if_pos hz1, e63, Option.bind_some, reduceCtorEq, and_self, g1, zb3_some]
          have hgo' := hgo u1 (w ++ zdg st) (i + 2) false g2 (zFr_mono g3 (by omega) (by omega) (by omega) (by omega)) (g3.1 10 0 (by omega) (by omega)) (fun j => g3.2.2.2.1 4 0 j (by omega) (by omega)) (by omega) (by omega) (by rw [List.length_append]; omega)
          rw [List.append_assoc] at hgo'
          have e2 : (i : Int) + 1 + 1 = ((i + 2 : Nat) : Int) := by omega
          rw [e2]
          exact hgo'
        · have hb4 : (if ¬ L i = 36 then some true else if ¬ zI (zB q) = 0 then some true else if zI (b : Int) ≤ zI ((i : Int) + 1) then some true else if zix ((i : Int) + 1) (cN u 0) then (if ¬ zI (cA u 0 0 ((i : Int) + 1).toNat) = zI 63 then some true else some false) else none) = some true := by
            by_cases d1 : L i = 36
            · rw [if_neg (not_not_intro d1)]
              cases q
              · rw [zB_f, if_neg (not_not_intro z00)]
                by_cases d3 : i + 1 < b
                · have hL1 := hL (i + 1) d3
                  have d4 : ¬ L (i + 1) = 63 := fun h => c36 ⟨d1, rfl, d3, h⟩
                  rw [if_neg (show ¬ zI (b : Int) ≤ zI ((i : Int) + 1) by rw [zI_le (by omega) (by omega) (by omega) (by omega)]; omega), if_pos (show zix ((i : Int) + 1) (cN u 0) from ⟨by omega, by omega, by omega⟩), show ((i : Int) + 1).toNat = i + 1 by omega, hLu (i + 1) d3]
                  rw [if_pos (show ¬ zI (L (i + 1)) = zI 63 by rw [zI_eq (by omega) (by omega) (by omega) (by omega)]; exact d4)]
                · rw [if_pos (show zI (b : Int) ≤ zI ((i : Int) + 1) by rw [zI_le (by omega) (by omega) (by omega) (by omega)]; omega)]
              · rw [zB_t, if_pos z10]
            · rw [if_pos d1]
          obtain ⟨u1, g1, g2, g3⟩ := add_is F (u := u) (t := 1) (Or.inl (by decide)) (by omega) hH (L i) (Or.inr hLi)
          simp only [c39, c36, not_false_iff, if_false, if_true]
          rw [hb4]
          simp only [Option.bind_some, if_true, g1, zb3_some]
          have hgo' := hgo u1 (w ++ [L i]) (i + 1) q g2 (zFr_mono g3 (by omega) (by omega) (by omega) (by omega)) (g3.1 10 0 (by omega) (by omega)) (fun j => g3.2.2.2.1 4 0 j (by omega) (by omega)) (by omega) (by omega) (by rw [List.length_append, List.length_singleton]; omega)
          rw [List.append_assoc] at hgo'
          rw [e1]
          exact hgo'
theorem zW_T {u : ZC} {ws : List (List Int)} (H : zW u ws) : zT u 1 ws.flatten := (H.2.2.2.1.2.2.1 (by rw [H.2.2.1]; exact H.2.2.2.1.1)).2
theorem wadd_is (F : Nat) (hF : 70 ≤ F) {u : ZC} {ws : List (List Int)} (H : zW u ws) (m a b st : Nat) (j : Nat) (hj : j < m) (hm : m ≤ 64) (h2 : cI u 2 0 = (m : Int)) (hk : cA u 1 0 j = 10) (ha : cA u 2 0 j = (a : Int)) (hb : cA u 3 0 j = (b : Int)) (hab : a ≤ b) (hb64 : b ≤ 64) (hst : st < 1000) (hN0 : cN u 0 = 64) (hL : ∀ i, i < b → 32 ≤ cA u 0 0 i ∧ cA u 0 0 i ≤ 126) (hlen : 2 * ws.flatten.length + 3 * (b - a) ≤ 192) (hws : ws.length < 64) :
    ∃ u2, cWords_add F u (j : Int) (st : Int) = some u2 ∧ zW u2 (ws ++ [zexp (cA u 0 0) b (zdg st) (b - a) a false]) ∧ zFr 1 1 1 0 u u2 := by
  obtain ⟨w1, w2, w3, w4, w5⟩ := H
  obtain ⟨u2, c1, c2, c3, c4, c5, c6⟩ := wadd_loop F hF (cA u 0 0) b st ws.length hb64 hst hws hL (b - a) a F false u ws.flatten (Nat.le_refl _) (by omega) w4.2 w3 hN0 (fun _ _ => rfl) w1 hlen (by omega)
  have hl2 := zexp_len (cA u 0 0) b (zdg st) (zdg_len st).2 (b - a) a false
  have ef : (ws ++ [zexp (cA u 0 0) b (zdg st) (b - a) a false]).flatten = ws.flatten ++ zexp (cA u 0 0) b (zdg st) (b - a) a false := by
    rw [List.flatten_append]
    simp
  refine ⟨u2, ?_, ⟨?_, ?_, ?_, ⟨?_, ?_⟩, fun k hk2 => ?_⟩, c6⟩
  · unfold cWords_add cTokens_kindAt
    rw [h2, w1]
    rw [if_neg (show ¬ zI (j : Int) < 0 by rw [zI_lt0 (by omega) (by omega)]; omega), if_neg (show ¬ zI (m : Int) ≤ zI (j : Int) by rw [zI_le (by omega) (by omega) (by omega) (by omega)]; omega)]
    simp only [Option.bind_some, reduceCtorEq, if_false, if_pos (show zix (j : Int) 64 from ⟨by omega, by omega, by omega⟩), Int.toNat_natCast, hk, not_true]
    rw [if_pos (show zI (ws.length : Int) < zI 64 by rw [zI_lt (by omega) (by omega) (by omega) (by omega)]; omega)]
    simp only [Option.bind_some, reduceCtorEq, if_false, ha, hb]
    exact c1
  · rw [c3, List.length_append, List.length_singleton]
    omega
  · rw [List.length_append, List.length_singleton]
    omega
  · rw [c6.2.2.2.2.1]
    exact w3
  · rw [ef, List.length_append]
    omega
  · rw [ef]
    exact c2
  · rw [List.length_append, List.length_singleton] at hk2
    by_cases hkk : k = ws.length
    · rw [hkk, c4]
      unfold zst
      rw [List.take_of_length_le (by rw [List.length_append, List.length_singleton]; omega), ef]
    · rw [c5 k hkk, w5 k (by omega), zst_snoc _ _ _ (by omega)]
