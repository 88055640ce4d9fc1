/-! the line is cut alike -/
def zTk (u : ZC) (r : ZR) (m p : Nat) : Prop := cI u 2 0 = (m : Int) ∧ rI r 12 = (m : Int) ∧ m ≤ p ∧
  (∀ j : Nat, j < m → (0 ≤ cA u 1 0 j ∧ cA u 1 0 j ≤ 10) ∧ rA r 13 j = zrk (cA u 1 0 j) ∧ ∃ a b : Nat, cA u 2 0 j = (a : Int) ∧ rA r 14 j = (a : Int) ∧ cA u 3 0 j = (b : Int) ∧ a < b ∧ b ≤ p ∧ (cA u 1 0 j = 10 → rA r 15 j = (b : Int))) ∧
  ∀ i j : Nat, i < j → j < m → cA u 3 0 i ≤ cA u 2 0 j
/-- all but the tokens is as it was -/
def zfT (u w : ZC) : Prop := (∀ f o, ¬ ((f = 2 ∨ f = 3) ∧ o = 0) → cI w f o = cI u f o) ∧ (∀ f o, cJ w f o = cJ u f o) ∧ (∀ f o, cP w f o = cP u f o) ∧ (∀ f o i, ¬ ((f = 1 ∨ f = 2 ∨ f = 3) ∧ o = 0) → cA w f o i = cA u f o i) ∧ cN w = cN u ∧ cL w = cL u
def zfR (r w : ZR) : Prop := (∀ f, f ≠ 12 → rI w f = rI r f) ∧ (∀ f, rJ w f = rJ r f) ∧ (∀ f i, f ≠ 13 ∧ f ≠ 14 ∧ f ≠ 15 → rA w f i = rA r f i) ∧ ∀ f i, rL w f i = rL r f i
theorem zfT_rf (u : ZC) : zfT u u := ⟨fun _ _ _ => rfl, fun _ _ => rfl, fun _ _ => rfl, fun _ _ _ _ => rfl, rfl, rfl⟩
theorem zfT_tr {u v w : ZC} (a : zfT u v) (b : zfT v w) : zfT u w := ⟨fun f o h => (b.1 f o h).trans (a.1 f o h), fun f o => (b.2.1 f o).trans (a.2.1 f o), fun f o => (b.2.2.1 f o).trans (a.2.2.1 f o), fun f o i h => (b.2.2.2.1 f o i h).trans (a.2.2.2.1 f o i h), b.2.2.2.2.1.trans a.2.2.2.2.1, b.2.2.2.2.2.trans a.2.2.2.2.2⟩
theorem zfR_rf (r : ZR) : zfR r r := ⟨fun _ _ => rfl, fun _ => rfl, fun _ _ _ => rfl, fun _ _ => rfl⟩
theorem zfR_tr {u v w : ZR} (a : zfR u v) (b : zfR v w) : zfR u w := ⟨fun f h => (b.1 f h).trans (a.1 f h), fun f => (b.2.1 f).trans (a.2.1 f), fun f i h => (b.2.2.1 f i h).trans (a.2.2.1 f i h), fun f i => (b.2.2.2 f i).trans (a.2.2.2 f i)⟩
theorem zfT_kC {u w : ZC} (a : zfT u w) : zkC u w := ⟨fun f o h => a.1 f o (by omega), a.2.1, a.2.2.1, fun f o i h => a.2.2.2.1 f o i (by omega), a.2.2.2.2.1, a.2.2.2.2.2⟩
theorem zfR_kR {r w : ZR} (a : zfR r w) : zkR r w := ⟨fun f h => a.1 f (by omega), a.2.1, fun f i h => a.2.2.1 f i (by omega), a.2.2.2⟩
theorem zfT_tC (u : ZC) (t : Nat) (k a b : Int) : zfT u (ztC u t k a b) := by
  refine ⟨fun f o h => ?_, fun _ _ => rfl, fun _ _ => rfl, fun f o i h => ?_, rfl, rfl⟩
  · show (if f = 2 ∧ o = 0 then (t : Int) + 1 else cI u f o) = cI u f o
    rw [if_neg (by omega)]
  · show (if f = 1 ∧ o = 0 ∧ i = t then k else if f = 2 ∧ o = 0 ∧ i = t then a else if f = 3 ∧ o = 0 ∧ i = t then b else cA u f o i) = cA u f o i
    rw [if_neg (by omega), if_neg (by omega), if_neg (by omega)]
theorem zfR_tR (r : ZR) (t : Nat) (k a b : Int) : zfR r (ztR r t k a b) := by
  refine ⟨fun f h => ?_, fun _ => rfl, fun f i h => ?_, fun _ _ => rfl⟩
  · show (if f = 12 then (t : Int) + 1 else rI r f) = rI r f
    rw [if_neg h]
  · show (if f = 13 ∧ i = t then k else if f = 14 ∧ i = t then a else if f = 15 ∧ i = t then b else rA r f i) = rA r f i
    rw [if_neg (by omega), if_neg (by omega), if_neg (by omega)]
theorem zLn_keep {u w : ZC} {n : Nat} (a : zfT u w) (H : zLn u n) : zLn w n := by
  obtain ⟨h1, h2, h3, h4⟩ := H
  refine ⟨by rw [a.1 0 0 (by omega)]; exact h1, by rw [a.2.2.2.2.1]; exact h2, h3, fun i hi => ?_⟩
  rw [a.2.2.2.1 0 0 i (by omega)]
  exact h4 i hi
theorem zLr_keep {r w : ZR} {L : Nat → Int} {n : Nat} (a : zfR r w) (H : zLr r L n) : zLr w L n := by
  obtain ⟨h1, h3, h4⟩ := H
  refine ⟨by rw [a.1 10 (by omega)]; exact h1, h3, fun i hi => ?_⟩
  rw [a.2.2.1 11 i (by omega)]
  exact h4 i hi
theorem zfT_L {u w : ZC} (a : zfT u w) : cA w 0 0 = cA u 0 0 := by
  funext i
  exact a.2.2.2.1 0 0 i (by omega)
theorem zTk_add {u : ZC} {r : ZR} {m p : Nat} (H : zTk u r m p) (k : Int) (e : Nat) (b : Int) (hk : 0 ≤ k ∧ k ≤ 10) (he : p < e) (hb : k = 10 → b = (e : Int)) : zTk (ztC u m k (p : Int) (e : Int)) (ztR r m (zrk k) (p : Int) b) (m + 1) e := by
  obtain ⟨h1, h2, h3, h4, h5⟩ := H
  have q1 : ∀ j, cA (ztC u m k (p : Int) (e : Int)) 1 0 j = if j = m then k else cA u 1 0 j := by
    intro j
    show (if 1 = 1 ∧ 0 = 0 ∧ j = m then k else if 1 = 2 ∧ 0 = 0 ∧ j = m then (p : Int) else if 1 = 3 ∧ 0 = 0 ∧ j = m then (e : Int) else cA u 1 0 j) = _
    simp
  have q2 : ∀ j, cA (ztC u m k (p : Int) (e : Int)) 2 0 j = if j = m then (p : Int) else cA u 2 0 j := by
    intro j
    show (if 2 = 1 ∧ 0 = 0 ∧ j = m then k else if 2 = 2 ∧ 0 = 0 ∧ j = m then (p : Int) else if 2 = 3 ∧ 0 = 0 ∧ j = m then (e : Int) else cA u 2 0 j) = _
    simp
  have q3 : ∀ j, cA (ztC u m k (p : Int) (e : Int)) 3 0 j = if j = m then (e : Int) else cA u 3 0 j := by
    intro j
    show (if 3 = 1 ∧ 0 = 0 ∧ j = m then k else if 3 = 2 ∧ 0 = 0 ∧ j = m then (p : Int) else if 3 = 3 ∧ 0 = 0 ∧ j = m then (e : Int) else cA u 3 0 j) = _
    simp
  have q4 : ∀ j, rA (ztR r m (zrk k) (p : Int) b) 13 j = if j = m then zrk k else rA r 13 j := by
    intro j
    show (if 13 = 13 ∧ j = m then zrk k else if 13 = 14 ∧ j = m then (p : Int) else if 13 = 15 ∧ j = m then b else rA r 13 j) = _
    simp
  have q5 : ∀ j, rA (ztR r m (zrk k) (p : Int) b) 14 j = if j = m then (p : Int) else rA r 14 j := by
    intro j
    show (if 14 = 13 ∧ j = m then zrk k else if 14 = 14 ∧ j = m then (p : Int) else if 14 = 15 ∧ j = m then b else rA r 14 j) = _
    simp
  have q6 : ∀ j, rA (ztR r m (zrk k) (p : Int) b) 15 j = if j = m then b else rA r 15 j := by
    intro j
    show (if 15 = 13 ∧ j = m then zrk k else if 15 = 14 ∧ j = m then (p : Int) else if 15 = 15 ∧ j = m then b else rA r 15 j) = _
    simp
  refine ⟨rfl, rfl, by omega, fun j hj => ?_, fun i j hij hj => ?_⟩
  · rw [q1, q2, q3, q4, q5, q6]
    by_cases hjm : j = m
    · simp only [hjm, if_true]
      exact ⟨hk, trivial, p, e, rfl, rfl, rfl, he, Nat.le_refl _, hb⟩
    · simp only [hjm, if_false]
      obtain ⟨g1, g2, a, b2, g3, g4, g5, g6, g7, g8⟩ := h4 j (by omega)
      exact ⟨g1, g2, a, b2, g3, g4, g5, g6, by omega, g8⟩
  · rw [q2, q3, if_neg (by omega)]
    obtain ⟨g1, g2, a, b2, g3, g4, g5, g6, g7, g8⟩ := h4 i (by omega)
    by_cases hjm : j = m
    · rw [if_pos hjm]
      omega
    · rw [if_neg hjm]
      exact h5 i j hij (by omega)
theorem zTk_le {u : ZC} {r : ZR} {m p q : Nat} (H : zTk u r m p) (h : p ≤ q) : zTk u r m q := by
  obtain ⟨h1, h2, h3, h4, h5⟩ := H
  refine ⟨h1, h2, by omega, fun j hj => ?_, h5⟩
  obtain ⟨g1, g2, a, b2, g3, g4, g5, g6, g7, g8⟩ := h4 j hj
  exact ⟨g1, g2, a, b2, g3, g4, g5, g6, by omega, g8⟩
theorem widthOf_is (F : Nat) (u : ZC) (k : Int) (hk : 0 ≤ k ∧ k ≤ 11) : cTokens_widthOf F u k = some (zwd k : Int) := by
  unfold cTokens_widthOf zwd
  simp (disch := omega) only [zI_lt, zI_le, zI_eq, zI_eq0, zI_lt0, zI_0lt, zI_le0, zI_0le, zI_eq33, zI_eq38, zI_eq40, zI_eq41, zI_eq59, zI_eq60, zI_eq62, zI_eq124]
  by_cases h1 : k = 1
  · simp [h1]
  · by_cases h2 : k = 2
    · simp [h2]
    · by_cases h9 : k = 9
      · simp [h9]
      · simp [h1, h2, h9]
theorem zwd_in (k : Int) : 1 ≤ zwd k ∧ zwd k ≤ 2 := by
  unfold zwd
  split <;> omega
/-- a token of two letters lies in the line -/
theorem zwd_le (L : Nat → Int) (n i : Nat) (hi : i < n) : i + zwd (zkd L n i) ≤ n := by
  unfold zwd
  split
  · rename_i h
    have h2 : i + 1 < n := by
      apply Classical.byContradiction
      intro hc
      unfold zkd at h
      simp only [hc, false_and, if_false] at h
      revert h
      repeat' split
      all_goals omega
    omega
  · omega
/-- behind the end of a word the reference's mark 'in a word' is worth nothing -/
theorem rcut_out (F : Nat) {r : ZR} {L : Nat → Int} {n p : Nat} (H : zLr r L n) (hp : p ≤ n) (h : p < n → L p = 32 ∨ zkd L n p ≠ 10) (m : Nat) : r_cut_11 F m r 1 0 (p : Int) = r_cut_11 F m r 0 0 (p : Int) := by
  cases m with
  | zero => rfl
  | succ m =>
    obtain ⟨h1, h2, h3⟩ := H
    rw [r_cut_11, r_cut_11]
    by_cases hpn : p < n
    · have c0 : ¬ zI (rI r 10) ≤ zI (p : Int) := by rw [h1, zI_le (by omega) (by omega) (by omega) (by omega)]; omega
      have hz : zix (p : Int) 64 := ⟨by omega, by omega, by omega⟩
      have hA := (h3 p hpn).1
      have hL := (h3 p hpn).2
      have hk := zkd_in L n p
      simp only [if_neg c0, if_pos hz, operator_is F ⟨h1, h2, h3⟩ p hpn, z00, if_true, Option.bind_some, Int.toNat_natCast, hA]
      by_cases c32 : L p = 32
      · simp only [c32, not_true, if_false]
      · have hc : ¬ zI (L p) = zI 32 := by rw [zI_eq (by omega) (by omega) (by omega) (by omega)]; exact c32
        have hk10 := (h hpn).resolve_left c32
        simp only [hc, not_false_iff, if_true]
        by_cases hneg : 0 ≤ zI (zrk (zkd L n p))
        · simp only [hneg, if_true]
          have hne : ¬ zI (zrk (zkd L n p)) = 0 := by
            have hr : zrk (zkd L n p) ≠ 0 ∧ -1 ≤ zrk (zkd L n p) ∧ zrk (zkd L n p) ≤ 10 := by
              unfold zrk
              repeat' split
              all_goals first | omega | simp_all
            rw [zI_eq0 (by omega) (by omega)]
            exact hr.1
          simp only [hne, if_false]
        · simp only [hneg, if_false]
    · have c0 : zI (rI r 10) ≤ zI (p : Int) := by rw [h1, zI_le (by omega) (by omega) (by omega) (by omega)]; omega
      simp only [if_pos c0]
