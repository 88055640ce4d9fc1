/-! words of the reference -/
def zLl (r : ZR) (w : List Int) : Prop := rI r 19 = (w.length : Int) ∧ zRA r 20 0 w
theorem letter_is (F : Nat) {r : ZR} {w : List Int} (H : zLl r w) (h : w.length < 200) (c : Int) : ∃ r2, r_letterOf F r c = some r2 ∧ zLl r2 (w ++ [c]) ∧ zq [19] [20] r r2 := by
  obtain ⟨h1, h2⟩ := H
  unfold r_letterOf
  rw [if_pos (show zix (rI r 19) 200 from ⟨by omega, by omega, by omega⟩)]
  refine ⟨tI (tA r 20 (rI r 19).toNat c) 19 (rI r 19 + 1), rfl, ⟨?_, fun i hi => ?_⟩, zq_tr (zq_A _ _ r 20 _ c (by decide)) (zq_I _ _ _ 19 _ (by decide))⟩
  · rw [List.length_append, List.length_singleton]
    show rI r 19 + 1 = _
    omega
  · rw [List.length_append, List.length_singleton] at hi
    show (if 20 = 20 ∧ 0 + i = (rI r 19).toNat then c else rA r 20 (0 + i)) = _
    rw [zgA, zgs]
    by_cases hi2 : i < w.length
    · rw [if_neg (by omega), if_pos hi2]
      exact h2 i hi2
    · rw [if_pos ⟨rfl, by omega⟩, if_neg hi2, if_pos (by omega)]
theorem digs_step (F n : Nat) (K : ZR → Int → Int → Int → Option ZR) {r : ZR} {w : List Int} (H : zLl r w) (h : w.length < 200) (v d : Nat) (hv : v < 1000) (hst : rI r 45 = (v : Int)) (hd : d = 1 ∨ d = 10 ∨ d = 100) (t q i : Int) : ∃ r2, r_expand_130 F K (n + 1) r t q i (d : Int) = r_expand_130 F K n r2 t q i (zdiv (d : Int) 10) ∧ zLl r2 (w ++ [48 + ((v / d % 10 : Nat) : Int)]) ∧ zq [19] [20] r r2 := by
  obtain ⟨u2, c1, c2, c3⟩ := letter_is F H h (48 + ((v / d % 10 : Nat) : Int))
  refine ⟨u2, ?_, c2, c3⟩
  rw [r_expand_130, if_neg (by rw [zI_le0 (by omega) (by omega)]; omega), if_pos (by rw [zI_eq0 (by omega) (by omega)]; omega), hst, (digit_is v d hv hd).2, c1]
  rfl
theorem digs_is (F : Nat) (hF : 10 ≤ F) (K : ZR → Int → Int → Int → Option ZR) {r : ZR} {w : List Int} (H : zLl r w) (h : w.length + 3 ≤ 200) (v : Nat) (hv : v < 1000) (hst : rI r 45 = (v : Int)) (t q i : Int) : ∃ r2, (Option.bind (r_scale F r (rI r 45)) fun (p4 : Int) => r_expand_130 F K F r t q i p4) = K r2 t q (i + 1 + 1) ∧ zLl r2 (w ++ zdg v) ∧ zq [19] [20] r r2 := by
  obtain ⟨F, rfl⟩ : ∃ n, F = n + 10 := ⟨F - 10, by omega⟩
  have hend : ∀ n (r2 : ZR), r_expand_130 (F + 10) K (n + 1) r2 t q i 0 = K r2 t q (i + 1 + 1) := by
    intro n r2
    rw [r_expand_130, if_pos (by decide)]
    rfl
  rw [hst, scale_is (F + 10) r v hv]
  simp only [Option.bind_some]
  unfold zdg
  by_cases h1 : v < 10
  · rw [if_pos h1, if_pos h1]
    obtain ⟨u2, c1, c2, c3⟩ := digs_step (F + 10) (F + 9) K H (by omega) v 1 hv hst (Or.inl rfl) t q i
    refine ⟨u2, ?_, ?_, c3⟩
    · have c1' : r_expand_130 (F + 10) K (F + 10) r t q i 1 = r_expand_130 (F + 10) K (F + 9) u2 t q i (zdiv 1 10) := c1
      rw [c1', zdiv10_1, hend]
    · rw [show v / 1 % 10 = v by omega] at c2
      exact c2
  · rw [if_neg h1, if_neg h1]
    by_cases h2 : v < 100
    · rw [if_pos h2, if_pos h2]
      obtain ⟨u2, c1, c2, c3⟩ := digs_step (F + 10) (F + 9) K H (by omega) v 10 hv hst (Or.inr (Or.inl rfl)) t q i
      obtain ⟨u3, g1, g2, g3⟩ := digs_step (F + 10) (F + 8) K c2 (by rw [List.length_append, List.length_singleton]; omega) v 1 hv (by rw [c3.1 45 (by decide)]; exact hst) (Or.inl rfl) t q i
      refine ⟨u3, ?_, ?_, zq_tr c3 g3⟩
      · have c1' : r_expand_130 (F + 10) K (F + 10) r t q i 10 = r_expand_130 (F + 10) K (F + 9) u2 t q i (zdiv 10 10) := c1
        have g1' : r_expand_130 (F + 10) K (F + 9) u2 t q i 1 = r_expand_130 (F + 10) K (F + 8) u3 t q i (zdiv 1 10) := g1
        rw [c1', zdiv10_10, g1', zdiv10_1, hend]
      · rw [List.append_assoc, show v / 10 % 10 = v / 10 by omega, show v / 1 % 10 = v % 10 by omega] at g2
        exact g2
    · rw [if_neg h2, if_neg h2]
      obtain ⟨u2, c1, c2, c3⟩ := digs_step (F + 10) (F + 9) K H (by omega) v 100 hv hst (Or.inr (Or.inr rfl)) t q i
      obtain ⟨u3, g1, g2, g3⟩ := digs_step (F + 10) (F + 8) K c2 (by rw [List.length_append, List.length_singleton]; omega) v 10 hv (by rw [c3.1 45 (by decide)]; exact hst) (Or.inr (Or.inl rfl)) t q i
      obtain ⟨u4, k1, k2, k3⟩ := digs_step (F + 10) (F + 7) K g2 (by rw [List.length_append, List.length_append, List.length_singleton, List.length_singleton]; omega) v 1 hv (by rw [g3.1 45 (by decide), c3.1 45 (by decide)]; exact hst) (Or.inl rfl) t q i
      refine ⟨u4, ?_, ?_, zq_tr (zq_tr c3 g3) k3⟩
      · have c1' : r_expand_130 (F + 10) K (F + 10) r t q i 100 = r_expand_130 (F + 10) K (F + 9) u2 t q i (zdiv 100 10) := c1
        have g1' : r_expand_130 (F + 10) K (F + 9) u2 t q i 10 = r_expand_130 (F + 10) K (F + 8) u3 t q i (zdiv 10 10) := g1
        have k1' : r_expand_130 (F + 10) K (F + 8) u3 t q i 1 = r_expand_130 (F + 10) K (F + 7) u4 t q i (zdiv 1 10) := k1
        rw [c1', zdiv10_100, g1', zdiv10_10, k1', zdiv10_1, hend]
      · rw [List.append_assoc, List.append_assoc, show v / 100 % 10 = v / 100 by omega, show v / 1 % 10 = v % 10 by omega] at k2
        exact k2
theorem expand_loop (F : Nat) (hF : 70 ≤ F) (L : Nat → Int) (b st k t : Nat) (hb : b ≤ 64) (hst : st < 1000) (hk : k < 65) (ht : t < 64) (hL : ∀ i, i < b → 32 ≤ L i ∧ L i ≤ 126) : ∀ (f i n : Nat) (q : Bool) (r : ZR) (w : List Int), b - i ≤ f → f < n → zLl r w → (∀ j, j < b → rA r 11 j = L j) → rA r 15 t = (b : Int) → rI r 45 = (st : Int) → rI r 16 = (k : Int) → 2 * w.length + 3 * (b - i) ≤ 192 →
    i ≤ 64 → ∃ r2, r_expand_22 F n r (t : Int) (zB q) (i : Int) = some r2 ∧ zLl r2 (w ++ zexp L b (zdg st) f i q) ∧ rI r2 16 = (k : Int) + 1 ∧ rA r2 18 k = ((w ++ zexp L b (zdg st) f i q).length : Int) ∧ (∀ j, j ≠ k → rA r2 18 j = rA r 18 j) ∧ zq [16, 19] [18, 20] r r2 := by
  have hzt : zix (t : Int) 64 := ⟨by omega, by omega, by omega⟩
  have hend : ∀ (n i : Nat) (q : Bool) (r : ZR) (w : List Int), b ≤ i → i ≤ 64 → zLl r w → rA r 15 t = (b : Int) → rI r 16 = (k : Int) → ∃ r2, r_expand_22 F (n + 1) r (t : Int) (zB q) (i : Int) = some r2 ∧ zLl r2 (w ++ []) ∧ rI r2 16 = (k : Int) + 1 ∧ rA r2 18 k = ((w ++ []).length : Int) ∧ (∀ j, j ≠ k → rA r2 18 j = rA r 18 j) ∧ zq [16, 19] [18, 20] r r2 := by
    intro n i q r w hbi hi64 hH h15 hk0
    rw [List.append_nil]
    have hz : zix (rI r 16) 65 := ⟨by omega, by omega, by omega⟩
    rw [r_expand_22, if_pos hzt, Int.toNat_natCast, h15, if_pos (by rw [zI_le (by omega) (by omega) (by omega) (by omega)]; omega), if_pos hz]
    refine ⟨tI (tA r 18 (rI r 16).toNat (rI r 19)) 16 (rI r 16 + 1), rfl, hH, ?_, ?_, fun j hj => ?_, zq_tr (zq_A _ _ r 18 _ _ (by decide)) (zq_I _ _ _ 16 _ (by decide))⟩
    · show rI r 16 + 1 = _
      omega
    · show (if 18 = 18 ∧ k = (rI r 16).toNat then rI r 19 else rA r 18 k) = _
      rw [if_pos ⟨rfl, by omega⟩]
      exact hH.1
    · show (if 18 = 18 ∧ j = (rI r 16).toNat then rI r 19 else rA r 18 j) = _
      rw [if_neg (by omega)]
  intro f
  induction f with
  | zero =>
    intro i n q r w hf hn hH hLr h15 h45 hk0 hw hi
    obtain ⟨n, rfl⟩ : ∃ n', n = n' + 1 := ⟨n - 1, by omega⟩
    exact hend n i q r w (by omega) hi hH h15 hk0
  | succ f ih =>
    intro i n q r w hf hn hH hLr h15 h45 hk0 hw hi
    obtain ⟨n, rfl⟩ : ∃ n', n = n' + 1 := ⟨n - 1, by omega⟩
    by_cases hbi : b ≤ i
    · rw [zexp, if_pos hbi]
      exact hend n i q r w hbi hi hH h15 hk0
    · have hLi := hL i (by omega)
      have hLe := hLr i (by omega)
      have hz : zix (i : Int) 64 := ⟨by omega, by omega, by omega⟩
      have e1 : (i : Int) + 1 = ((i + 1 : Nat) : Int) := by omega
      rw [r_expand_22, if_pos hzt]
      simp only [Int.toNat_natCast, h15]
      rw [if_neg (show ¬ zI (b : Int) ≤ zI (i : Int) by rw [zI_le (by omega) (by omega) (by omega) (by omega)]; omega), if_pos hz, zexp, if_neg hbi]
      simp only [hLe, zI_eq (a := L i) (b := 39) (by omega) (by omega) (by omega) (by omega), zI_eq (a := L i) (b := 36) (by omega) (by omega) (by omega) (by omega)]
      have hgo : ∀ (r1 : ZR) (w1 : List Int) (i1 : Nat) (q1 : Bool), zLl r1 w1 → zq [19] [20] r r1 → i < i1 → i1 ≤ b → 2 * w1.length + 3 * (b - i1) ≤ 192 → ∃ r2, r_expand_22 F n r1 (t : Int) (zB q1) (i1 : Int) = some r2 ∧ zLl r2 (w1 ++ zexp L b (zdg st) f i1 q1) ∧ rI r2 16 = (k : Int) + 1 ∧ rA r2 18 k = ((w1 ++ zexp L b (zdg st) f i1 q1).length : Int) ∧ (∀ j, j ≠ k → rA r2 18 j = rA r 18 j) ∧ zq [16, 19] [18, 20] r r2 := by
        intro r1 w1 i1 q1 hH1 hf1 hi1 hi1b hw1
        obtain ⟨u2, g1, g2, g3, g4, g5, g6⟩ := ih i1 n q1 r1 w1 (by omega) (by omega) hH1 (fun j hj => by rw [hf1.2.2.1 11 j (by decide)]; exact hLr j hj) (by rw [hf1.2.2.1 15 t (by decide)]; exact h15) (by rw [hf1.1 45 (by decide)]; exact h45) (by rw [hf1.1 16 (by decide)]; exact hk0) hw1 (by omega)
        exact ⟨u2, g1, g2, g3, g4, fun j hj => (g5 j hj).trans (hf1.2.2.1 18 j (by decide)), zq_tr (zq_mono hf1 (by decide) (by decide)) g6⟩
      have hx3 : ∀ bb : Bool, (if ¬ L i = 36 then some true else if ¬ zI (zB q) = 0 then some true else if zI (b : Int) ≤ zI ((i : Int) + 1) then some true else if zix ((i : Int) + 1) 64 then (if ¬ zI (rA r 11 ((i : Int) + 1).toNat) = zI 63 then some true else some false) else none) = some bb → True := fun _ _ => trivial
      by_cases c36 : L i = 36 ∧ q = false ∧ i + 1 < b ∧ L (i + 1) = 63
      · obtain ⟨d1, d2, d3, d4⟩ := c36
        subst d2
        have hz1 : zix ((i : Int) + 1) 64 := ⟨by omega, by omega, by omega⟩
        have hn1 : ¬ zI (b : Int) ≤ zI ((i : Int) + 1) := by rw [zI_le (by omega) (by omega) (by omega) (by omega)]; omega
        have e63 : rA r 11 ((i : Int) + 1).toNat = 63 := by
          rw [show ((i : Int) + 1).toNat = i + 1 by omega, hLr (i + 1) d3]
          exact d4
        have hdl := zdg_len st
        obtain ⟨r1, g1, g2, g3⟩ := digs_is F (by omega) (r_expand_22 F n) hH (by omega) st hst h45 (t : Int) 0 (i : Int)
        simp only [d1, d3, d4, Int.reduceEq, not_true, not_false_iff, if_false, if_true, zB_f, z00, hn1, if_pos hz1, e63, Option.bind_some, reduceCtorEq, and_self, z10]
        rw [g1]
        have hgo' := hgo r1 (w ++ zdg st) (i + 2) false g2 g3 (by omega) (by omega) (by rw [List.length_append]; omega)
        rw [List.append_assoc] at hgo'
        have e2 : (i : Int) + 1 + 1 = ((i + 2 : Nat) : Int) := by omega
        rw [e2]
        exact hgo'
      · have hb4 : (if ¬ L i = 36 then some true else if ¬ zI (zB q) = 0 then some true else if zI (b : Int) ≤ zI ((i : Int) + 1) then some true else if zix ((i : Int) + 1) 64 then (if ¬ zI (rA r 11 ((i : Int) + 1).toNat) = zI 63 then some true else some false) else none) = some true := by
          by_cases d1 : L i = 36
          · rw [if_neg (not_not_intro d1)]
            cases q
            · rw [zB_f, if_neg (not_not_intro z00)]
              by_cases d3 : i + 1 < b
              · have hL1 := hL (i + 1) d3
                have d4 : ¬ L (i + 1) = 63 := fun h => c36 ⟨d1, rfl, d3, h⟩
                rw [if_neg (show ¬ zI (b : Int) ≤ zI ((i : Int) + 1) by rw [zI_le (by omega) (by omega) (by omega) (by omega)]; omega), if_pos (show zix ((i : Int) + 1) 64 from ⟨by omega, by omega, by omega⟩), show ((i : Int) + 1).toNat = i + 1 by omega, hLr (i + 1) d3]
                rw [if_pos (show ¬ zI (L (i + 1)) = zI 63 by rw [zI_eq (by omega) (by omega) (by omega) (by omega)]; exact d4)]
              · rw [if_pos (show zI (b : Int) ≤ zI ((i : Int) + 1) by rw [zI_le (by omega) (by omega) (by omega) (by omega)]; omega)]
            · rw [zB_t, if_pos z10]
          · rw [if_pos d1]
        rw [hb4]
        simp only [Option.bind_some, if_true, z00, not_true, if_false]
        by_cases c39 : L i = 39
        · simp only [c39, not_true, if_false, if_true, r_expand_166]
          have hb2 : (Option.bind (if ¬ zI (zB q) = 0 then some (0 : Int) else some 1) fun (x6 : Int) => r_expand_22 F n r (t : Int) x6 ((i : Int) + 1)) = r_expand_22 F n r (t : Int) (zB (!q)) ((i : Int) + 1) := by
            cases q
            · rfl
            · rfl
          rw [hb2, e1]
          exact hgo r w (i + 1) (!q) hH (zq_rf _ _ r) (by omega) (by omega) (by omega)
        · obtain ⟨r1, g1, g2, g3⟩ := letter_is F hH (by omega) (L i)
          simp only [c39, c36, not_false_iff, if_false, if_true, g1, Option.bind_some, r_expand_166]
          have hgo' := hgo r1 (w ++ [L i]) (i + 1) q g2 g3 (by omega) (by omega) (by rw [List.length_append, List.length_singleton]; omega)
          rw [List.append_assoc] at hgo'
          rw [e1]
          exact hgo'
theorem expand_is (F : Nat) (hF : 70 ≤ F) {r : ZR} {ws : List (List Int)} (H : zWr r ws) (L : Nat → Int) (a b st j : Nat) (hj : j < 64) (ha : rA r 14 j = (a : Int)) (hb : rA r 15 j = (b : Int)) (hab : a ≤ b) (hb64 : b ≤ 64) (hst : st < 1000) (h45 : rI r 45 = (st : Int)) (hL : ∀ i, i < b → rA r 11 i = L i ∧ 32 ≤ L i ∧ L i ≤ 126) (hlen : 2 * ws.flatten.length + 3 * (b - a) ≤ 192) (hws : ws.length < 64) :
    ∃ r2, r_expand F r (j : Int) = some r2 ∧ zWr r2 (ws ++ [zexp L b (zdg st) (b - a) a false]) ∧ zq [16, 19] [17, 18, 20] r r2 := by
  obtain ⟨w1, w2, w3, w4, w5⟩ := H
  have e17 : zq [16, 19] [17, 18, 20] r (tA r 17 (rI r 16).toNat (rI r 19)) := zq_A _ _ r 17 _ _ (by decide)
  have hl2 := zexp_len L b (zdg st) (zdg_len st).2 (b - a) a false
  obtain ⟨r2, c1, c2, c3, c4, c5, c6⟩ := expand_loop F hF L b st ws.length j hb64 hst (by omega) hj (fun i hi => (hL i hi).2) (b - a) a F false (tA r 17 (rI r 16).toNat (rI r 19)) ws.flatten (Nat.le_refl _) (by omega) ⟨w2, w4⟩ (fun i hi => (hL i hi).1) hb h45 w1 hlen (by omega)
  have ef : (ws ++ [zexp L b (zdg st) (b - a) a false]).flatten = ws.flatten ++ zexp L b (zdg st) (b - a) a false := by
    rw [List.flatten_append]
    simp
  refine ⟨r2, ?_, ⟨?_, ?_, ?_, ?_, fun k hk2 => ?_⟩, zq_tr e17 (zq_mono c6 (by decide) (by decide))⟩
  · unfold r_expand
    rw [if_pos (show zix (rI r 16) 65 from ⟨by omega, by omega, by omega⟩), if_pos (show zix (j : Int) 64 from ⟨by omega, by omega, by omega⟩)]
    have e14 : rA (tA r 17 (rI r 16).toNat (rI r 19)) 14 (j : Int).toNat = (a : Int) := ha
    rw [e14]
    exact c1
  · rw [c3, List.length_append, List.length_singleton]
    omega
  · rw [ef]
    exact c2.1
  · rw [ef, List.length_append]
    omega
  · rw [ef]
    exact c2.2
  · rw [List.length_append, List.length_singleton] at hk2
    have e : rA r2 17 k = if k = ws.length then (ws.flatten.length : Int) else rA r 17 k := by
      rw [c6.2.2.1 17 k (by decide)]
      show (if 17 = 17 ∧ k = (rI r 16).toNat then rI r 19 else rA r 17 k) = _
      rw [w1, w2, Int.toNat_natCast]
      simp only [true_and]
    by_cases hkk : k = ws.length
    · rw [e, if_pos hkk, hkk, c4, zst_snoc _ _ _ (Nat.le_refl _), zst_all]
      refine ⟨rfl, ?_⟩
      unfold zst
      rw [List.take_of_length_le (by rw [List.length_append, List.length_singleton]; omega), ef]
    · rw [e, if_neg hkk, c5 k hkk, zst_snoc _ _ _ (by omega), zst_snoc _ _ _ (by omega)]
      exact w5 k (by omega)
