/-! texts of the class as lists -/
def zOk (x : Int) : Prop := x = 10 ∨ (32 ≤ x ∧ x ≤ 126)
theorem zOk_ch {x : Int} (h : zOk x) : zch x := by
  rcases h with h | h
  · exact ⟨by omega, by omega⟩
  · exact ⟨by omega, by omega⟩
/-- only the texts t and t2, with W = 1 the words, with P = 1 the path may have changed -/
def zFr (t t2 W P : Nat) (u w : ZC) : Prop :=
  (∀ f o, ¬ ((f = 0 ∨ f = 1) ∧ (o = t ∨ o = t2 ∨ (W = 1 ∧ o = 1))) → ¬ (W = 1 ∧ f = 10 ∧ o = 0) → cI w f o = cI u f o) ∧
  (∀ f o, ¬ (P = 1 ∧ f = 1 ∧ o = 0) → cJ w f o = cJ u f o) ∧
  (∀ f o, ¬ (P = 1 ∧ (f = 2 ∨ f = 3) ∧ o = 0) → cP w f o = cP u f o) ∧
  (∀ f o i, ¬ (f = 0 ∧ (o = t ∨ o = t2 ∨ (W = 1 ∧ o = 1))) → ¬ (W = 1 ∧ f = 4 ∧ o = 0) → cA w f o i = cA u f o i) ∧ cN w = cN u ∧ cL w = cL u
theorem zFr_rf (t t2 W P : Nat) (u : ZC) : zFr t t2 W P u u := ⟨fun _ _ _ _ => rfl, fun _ _ _ => rfl, fun _ _ _ => rfl, fun _ _ _ _ _ => rfl, rfl, rfl⟩
theorem zFr_tr {t t2 W P : Nat} {u v w : ZC} (a : zFr t t2 W P u v) (b : zFr t t2 W P v w) : zFr t t2 W P u w := ⟨fun f o h k => (b.1 f o h k).trans (a.1 f o h k), fun f o h => (b.2.1 f o h).trans (a.2.1 f o h), fun f o h => (b.2.2.1 f o h).trans (a.2.2.1 f o h), fun f o i h k => (b.2.2.2.1 f o i h k).trans (a.2.2.2.1 f o i h k), b.2.2.2.2.1.trans a.2.2.2.2.1, b.2.2.2.2.2.trans a.2.2.2.2.2⟩
theorem zFr_mono {t t2 W P s s2 W2 P2 : Nat} {u w : ZC} (a : zFr t t2 W P u w) (h1 : t = s ∨ t = s2 ∨ (W2 = 1 ∧ t = 1)) (h2 : t2 = s ∨ t2 = s2 ∨ (W2 = 1 ∧ t2 = 1)) (h3 : W = 1 → W2 = 1) (h4 : P = 1 → P2 = 1) : zFr s s2 W2 P2 u w :=
  ⟨fun f o h k => a.1 f o (by omega) (by omega), fun f o h => a.2.1 f o (by omega), fun f o h => a.2.2.1 f o (by omega), fun f o i h k => a.2.2.2.1 f o i (by omega) (by omega), a.2.2.2.2.1, a.2.2.2.2.2⟩
/-- text t is just w -/
def zT (u : ZC) (t : Nat) (w : List Int) : Prop := cI u 0 t = (w.length : Int) ∧ w.length ≤ cN u t ∧ (∀ i : Nat, i < w.length → cA u 0 t i = w.getD i 0) ∧ ∀ x ∈ w, zOk x
/-- w was put into text t: it is there, or its mark says that it did not fit -/
def zH (u : ZC) (t : Nat) (w : List Int) : Prop := (0 ≤ cI u 0 t ∧ cI u 0 t ≤ (cN u t : Int)) ∧ (w.length ≤ cN u t → cI u 1 t = 0 ∧ zT u t w) ∧ (cN u t < w.length → cI u 1 t = 1) ∧ ∀ x ∈ w, zOk x
theorem zgA (w v : List Int) (i : Nat) : (w ++ v).getD i 0 = if i < w.length then w.getD i 0 else v.getD (i - w.length) 0 := by
  rw [List.getD_eq_getElem?_getD, List.getElem?_append, List.getD_eq_getElem?_getD, List.getD_eq_getElem?_getD]
  split <;> rfl
theorem zgs (b : Int) (i : Nat) : [b].getD i 0 = if i = 0 then b else 0 := by
  cases i with
  | zero => rfl
  | succ i => rfl
theorem zT_keep {t : Nat} {u w : ZC} {l : List Int} (e1 : cI w 0 t = cI u 0 t) (e2 : cN w t = cN u t) (e3 : ∀ i, cA w 0 t i = cA u 0 t i) (H : zT u t l) : zT w t l := by
  obtain ⟨h1, h2, h3, h4⟩ := H
  exact ⟨e1.trans h1, by rw [e2]; exact h2, fun i hi => (e3 i).trans (h3 i hi), h4⟩
theorem zH_keep {t : Nat} {u w : ZC} {l : List Int} (e1 : cI w 0 t = cI u 0 t) (e1b : cI w 1 t = cI u 1 t) (e2 : cN w t = cN u t) (e3 : ∀ i, cA w 0 t i = cA u 0 t i) (H : zH u t l) : zH w t l := by
  obtain ⟨h1, h2, h3, h4⟩ := H
  exact ⟨by rw [e1, e2]; exact h1, fun h => ⟨e1b.trans (h2 (by rw [← e2]; exact h)).1, zT_keep e1 e2 e3 (h2 (by rw [← e2]; exact h)).2⟩, fun h => e1b.trans (h3 (by rw [← e2]; exact h)), h4⟩
theorem zFr_T {t t2 W P o : Nat} {u w : ZC} {l : List Int} (a : zFr t t2 W P u w) (h : o ≠ t ∧ o ≠ t2 ∧ (W = 1 → o ≠ 1)) (H : zT u o l) : zT w o l :=
  zT_keep (a.1 0 o (by omega) (by omega)) (by rw [a.2.2.2.2.1]) (fun i => a.2.2.2.1 0 o i (by omega) (by omega)) H
theorem zFr_H {t t2 W P o : Nat} {u w : ZC} {l : List Int} (a : zFr t t2 W P u w) (h : o ≠ t ∧ o ≠ t2 ∧ (W = 1 → o ≠ 1)) (H : zH u o l) : zH w o l :=
  zH_keep (a.1 0 o (by omega) (by omega)) (a.1 1 o (by omega) (by omega)) (by rw [a.2.2.2.2.1]) (fun i => a.2.2.2.1 0 o i (by omega) (by omega)) H
theorem zlT_keep {u w : ZC} {t : Nat} (e : cL w = cL u) (h : zlT u t) : zlT w t := by
  show t < 23 ∨ ((1, t) ∈ cL w ∧ (2, t) ∈ cL w)
  rw [e]
  exact h
theorem zFr_I (u : ZC) (t f : Nat) (v : Int) (hf : f = 0 ∨ f = 1) : zFr t t 0 0 u (sI u f t v) := by
  refine ⟨fun g o h _ => ?_, fun _ _ _ => rfl, fun _ _ _ => rfl, fun _ _ _ _ _ => rfl, rfl, rfl⟩
  show (if g = f ∧ o = t then v else cI u g o) = cI u g o
  rw [if_neg (by omega)]
theorem zFr_A (u : ZC) (t i : Nat) (v : Int) : zFr t t 0 0 u (sA u 0 t i v) := by
  refine ⟨fun _ _ _ _ => rfl, fun _ _ _ => rfl, fun _ _ _ => rfl, fun f o j h _ => ?_, rfl, rfl⟩
  show (if f = 0 ∧ o = t ∧ j = i then v else cA u f o j) = cA u f o j
  rw [if_neg (by omega)]
theorem zH_len {u : ZC} {t : Nat} {w : List Int} (H : zH u t w) (h : w.length ≤ cN u t) : cI u 0 t = (w.length : Int) := (H.2.1 h).2.1
theorem add_is (F : Nat) {u : ZC} {t : Nat} {w : List Int} (hl : zlT u t) (hc : cN u t ≤ 200) (H : zH u t w) (b : Int) (hb : zOk b) : ∃ u2, cText_add F u t b = some u2 ∧ zH u2 t (w ++ [b]) ∧ zFr t t 0 0 u u2 := by
  have H0 := H
  obtain ⟨⟨h1, h2⟩, h3, h4, h5⟩ := H
  have hok : ∀ x ∈ w ++ [b], zOk x := by
    intro x hx
    rcases List.mem_append.1 hx with hx | hx
    · exact h5 x hx
    · rw [List.mem_singleton.1 hx]; exact hb
  unfold cText_add
  rw [if_pos hl]
  by_cases hfull : (cN u t : Int) ≤ cI u 0 t
  · rw [if_pos (by rw [zI_le (by omega) (by omega) (by omega) (by omega)]; exact hfull)]
    refine ⟨sI u 1 t 1, rfl, ⟨⟨h1, h2⟩, fun hw => ?_, fun _ => ?_, hok⟩, zFr_I u t 1 1 (Or.inr rfl)⟩
    · rw [List.length_append, List.length_singleton] at hw
      have hw : w.length + 1 ≤ cN u t := hw
      have := zH_len H0 (by omega)
      omega
    · show (if 1 = 1 ∧ t = t then (1 : Int) else cI u 1 t) = 1
      rw [if_pos ⟨rfl, rfl⟩]
  · rw [if_neg (by rw [zI_le (by omega) (by omega) (by omega) (by omega)]; exact hfull), if_pos (show zix (cI u 0 t) (cN u t) from ⟨h1, by omega, by omega⟩), if_pos (zOk_ch hb)]
    refine ⟨sI (sA u 0 t (cI u 0 t).toNat b) 0 t (cI u 0 t + 1), rfl, ?_, zFr_tr (zFr_A u t _ b) (zFr_I _ t 0 _ (Or.inl rfl))⟩
    have e1 : cI (sI (sA u 0 t (cI u 0 t).toNat b) 0 t (cI u 0 t + 1)) 0 t = cI u 0 t + 1 := by
      show (if 0 = 0 ∧ t = t then cI u 0 t + 1 else cI u 0 t) = _
      rw [if_pos ⟨rfl, rfl⟩]
    have e2 : cI (sI (sA u 0 t (cI u 0 t).toNat b) 0 t (cI u 0 t + 1)) 1 t = cI u 1 t := by
      show (if 1 = 0 ∧ t = t then cI u 0 t + 1 else cI u 1 t) = _
      rw [if_neg (by omega)]
    have e3 : ∀ i, cA (sI (sA u 0 t (cI u 0 t).toNat b) 0 t (cI u 0 t + 1)) 0 t i = if i = (cI u 0 t).toNat then b else cA u 0 t i := by
      intro i
      show (if 0 = 0 ∧ t = t ∧ i = (cI u 0 t).toNat then b else cA u 0 t i) = _
      simp only [true_and]
    have e4 : cN (sI (sA u 0 t (cI u 0 t).toNat b) 0 t (cI u 0 t + 1)) t = cN u t := rfl
    refine ⟨⟨by rw [e1]; omega, by rw [e1, e4]; omega⟩, fun hw => ?_, fun hw => ?_, hok⟩
    · rw [e4, List.length_append, List.length_singleton] at hw
      obtain ⟨g1, g2, g3, g4, g5⟩ := h3 (by omega)
      refine ⟨e2.trans g1, ?_, ?_, fun i hi => ?_, hok⟩
      · rw [e1, List.length_append, List.length_singleton]
        omega
      · rw [e4, List.length_append, List.length_singleton]
        exact hw
      · rw [List.length_append, List.length_singleton] at hi
        rw [e3, zgA, zgs]
        by_cases hi2 : i < w.length
        · rw [if_neg (by omega), if_pos hi2]
          exact g4 i hi2
        · rw [if_pos (by omega), if_neg hi2, if_pos (by omega)]
    · rw [e4, List.length_append, List.length_singleton] at hw
      rw [e2]
      apply h4
      apply Classical.byContradiction
      intro hcon
      have := zH_len H0 (by omega)
      omega
/-- a piece of a list -/
def zsl (v : List Int) (a b : Nat) : List Int := (v.drop a).take (b - a)
theorem zsl_len (v : List Int) (a b : Nat) (h : b ≤ v.length) : (zsl v a b).length = b - a := by
  unfold zsl
  rw [List.length_take, List.length_drop]
  omega
theorem zsl_get (v : List Int) (a b i : Nat) (h : i < b - a) : (zsl v a b).getD i 0 = v.getD (a + i) 0 := by
  unfold zsl
  rw [List.getD_eq_getElem?_getD, List.getElem?_take, if_pos h, List.getElem?_drop, List.getD_eq_getElem?_getD]
theorem zsl_mem {v : List Int} {a b : Nat} {x : Int} (h : x ∈ zsl v a b) : x ∈ v := List.mem_of_mem_drop (List.mem_of_mem_take h)
theorem zsl_all (v : List Int) : zsl v 0 v.length = v := by
  unfold zsl
  rw [Nat.sub_zero, List.drop_zero, List.take_length]
theorem addPiece_is (F : Nat) {u : ZC} {t o : Nat} {w v : List Int} (hl : zlT u t) (hlo : zlT u o) (hc : cN u t ≤ 200) (hco : cN u o ≤ 200) (hne : o ≠ t) (H : zH u t w) (G : zT u o v) (a b : Nat) (hab : a ≤ b) (hb : b ≤ v.length) :
    ∃ (x : Int) (u2 : ZC), cText_addPiece F u t o (a : Int) (b : Int) = some (x, u2) ∧ zH u2 t (w ++ zsl v a b) ∧ zFr t t 0 0 u u2 ∧ (x = 0 ∨ x = 1) ∧ (w.length ≤ cN u t → (x = 1 ↔ w.length + (b - a) ≤ cN u t)) ∧ (x = 0 → cI u2 0 t = cI u 0 t ∧ ∀ i, cA u2 0 t i = cA u 0 t i) := by
  have H0 := H
  obtain ⟨⟨h1, h2⟩, h3, h4, h5⟩ := H
  obtain ⟨g1, g2, g3, g4⟩ := G
  have hlen := zsl_len v a b hb
  have hok : ∀ x ∈ w ++ zsl v a b, zOk x := by
    intro x hx
    rcases List.mem_append.1 hx with hx | hx
    · exact h5 x hx
    · exact g4 x (zsl_mem hx)
  unfold cText_addPiece
  rw [if_neg (by rw [zI_lt0 (by omega) (by omega)]; omega), if_neg (by rw [zI_lt0 (by omega) (by omega)]; omega), if_pos hlo, if_neg (by rw [zI_lt (by omega) (by omega) (by omega) (by omega)]; omega), if_pos hl]
  by_cases hfit : ((b : Int) - a) ≤ (cN u t : Int) - cI u 0 t
  · have hzc : zcp u o (a : Int) t (cI u 0 t) ((b : Int) - a) := by
      refine ⟨⟨by omega, by omega, by omega⟩, ⟨by omega, by omega, by omega, by omega⟩, fun i hi => ?_⟩
      rw [Int.toNat_natCast, g3 _ (by omega)]
      apply zOk_ch
      apply g4
      rw [List.getD_eq_getElem?_getD, List.getElem?_eq_getElem (by omega)]
      exact List.getElem_mem _
    rw [if_pos (by rw [zI_le (by omega) (by omega) (by omega) (by omega)]; exact hfit)]
    simp only [Option.bind_some, reduceCtorEq, if_false, if_pos hlo, if_pos hl, if_pos hzc]
    have en : ((b : Int) - a).toNat = b - a := by omega
    rw [en, Int.toNat_natCast]
    have e1 : cI (sI (sCopy u o a t (cI u 0 t).toNat (b - a)) 0 t ((cI (sCopy u o a t (cI u 0 t).toNat (b - a)) 0 t) + ((b : Int) - a))) 0 t = cI u 0 t + ((b : Int) - a) := by
      show (if 0 = 0 ∧ t = t then cI u 0 t + ((b : Int) - a) else cI u 0 t) = _
      rw [if_pos ⟨rfl, rfl⟩]
    have e2 : cI (sI (sCopy u o a t (cI u 0 t).toNat (b - a)) 0 t ((cI (sCopy u o a t (cI u 0 t).toNat (b - a)) 0 t) + ((b : Int) - a))) 1 t = cI u 1 t := by
      show (if 1 = 0 ∧ t = t then cI u 0 t + ((b : Int) - a) else cI u 1 t) = _
      rw [if_neg (by omega)]
    have e3 : ∀ i, cA (sI (sCopy u o a t (cI u 0 t).toNat (b - a)) 0 t ((cI (sCopy u o a t (cI u 0 t).toNat (b - a)) 0 t) + ((b : Int) - a))) 0 t i = if (cI u 0 t).toNat ≤ i ∧ i < (cI u 0 t).toNat + (b - a) then cA u 0 o (a + (i - (cI u 0 t).toNat)) else cA u 0 t i := by
      intro i
      show (if 0 = 0 ∧ t = t ∧ (cI u 0 t).toNat ≤ i ∧ i < (cI u 0 t).toNat + (b - a) then cA u 0 o (a + (i - (cI u 0 t).toNat)) else cA u 0 t i) = _
      simp only [true_and]
    have e4 : cN (sI (sCopy u o a t (cI u 0 t).toNat (b - a)) 0 t ((cI (sCopy u o a t (cI u 0 t).toNat (b - a)) 0 t) + ((b : Int) - a))) t = cN u t := rfl
    refine ⟨1, _, rfl, ⟨⟨by rw [e1]; omega, by rw [e1, e4]; omega⟩, fun hw => ?_, fun hw => ?_, hok⟩, ?_, Or.inr rfl, fun hw => ⟨fun _ => ?_, fun _ => rfl⟩, fun h => absurd h (by decide)⟩
    · rw [e4, List.length_append, hlen] at hw
      obtain ⟨k1, k2, k3, k4, k5⟩ := h3 (by omega)
      refine ⟨e2.trans k1, ?_, ?_, fun i hi => ?_, hok⟩
      · rw [e1, List.length_append, hlen]
        omega
      · rw [e4, List.length_append, hlen]
        exact hw
      · rw [List.length_append, hlen] at hi
        rw [e3, zgA]
        by_cases hi2 : i < w.length
        · rw [if_neg (by omega), if_pos hi2]
          exact k4 i hi2
        · rw [if_pos (by omega), if_neg hi2, zsl_get v a b _ (by omega), g3 _ (by omega), show (cI u 0 t).toNat = w.length by omega]
    · rw [e4, List.length_append, hlen] at hw
      rw [e2]
      apply h4
      apply Classical.byContradiction
      intro hcon
      have := zH_len H0 (by omega)
      omega
    · refine ⟨fun f x h _ => ?_, fun _ _ _ => rfl, fun _ _ _ => rfl, fun f x j h _ => ?_, rfl, rfl⟩
      · show (if f = 0 ∧ x = t then cI u 0 t + ((b : Int) - a) else cI u f x) = cI u f x
        rw [if_neg (by omega)]
      · show (if f = 0 ∧ x = t ∧ (cI u 0 t).toNat ≤ j ∧ j < (cI u 0 t).toNat + (b - a) then cA u 0 o (a + (j - (cI u 0 t).toNat)) else cA u f x j) = cA u f x j
        rw [if_neg (by omega)]
    · have := zH_len H0 hw
      omega
  · rw [if_neg (by rw [zI_le (by omega) (by omega) (by omega) (by omega)]; exact hfit)]
    simp only [Option.bind_some, if_true, if_pos hl]
    refine ⟨0, sI u 1 t 1, rfl, ⟨⟨h1, h2⟩, fun hw => ?_, fun _ => ?_, hok⟩, zFr_I u t 1 1 (Or.inr rfl), Or.inl rfl, fun hw => ⟨fun h => absurd h (by decide), fun h => ?_⟩, fun _ => ⟨?_, fun _ => rfl⟩⟩
    · rw [List.length_append, hlen] at hw
      have hw : w.length + (b - a) ≤ cN u t := hw
      have := zH_len H0 (by omega)
      omega
    · show (if 1 = 1 ∧ t = t then (1 : Int) else cI u 1 t) = 1
      rw [if_pos ⟨rfl, rfl⟩]
    · have := zH_len H0 hw
      omega
    · show (if 0 = 1 ∧ t = t then (1 : Int) else cI u 0 t) = cI u 0 t
      rw [if_neg (by omega)]
theorem addAll_is (F : Nat) {u : ZC} {t o : Nat} {w v : List Int} (hl : zlT u t) (hlo : zlT u o) (hc : cN u t ≤ 200) (hco : cN u o ≤ 200) (hne : o ≠ t) (H : zH u t w) (G : zT u o v) :
    ∃ (x : Int) (u2 : ZC), cText_addAll F u t o = some (x, u2) ∧ zH u2 t (w ++ v) ∧ zFr t t 0 0 u u2 ∧ (x = 0 ∨ x = 1) ∧ (w.length ≤ cN u t → (x = 1 ↔ w.length + v.length ≤ cN u t)) ∧ (x = 0 → cI u2 0 t = cI u 0 t ∧ ∀ i, cA u2 0 t i = cA u 0 t i) := by
  obtain ⟨x, u2, c1, c2, c3, c4, c5, c6⟩ := addPiece_is F hl hlo hc hco hne H G 0 v.length (Nat.zero_le _) (Nat.le_refl _)
  rw [zsl_all] at c2
  refine ⟨x, u2, ?_, c2, c3, c4, c5, c6⟩
  unfold cText_addAll
  have c1' : cText_addPiece F u t o 0 (v.length : Int) = some (x, u2) := c1
  rw [if_pos hlo, if_pos hl, G.1, c1']
  simp only [zb2_some]
  rw [if_pos (show zbl x from c4)]
theorem clear_is (F : Nat) {u : ZC} {t : Nat} (hl : zlT u t) : ∃ u2, cText_clear F u t = some u2 ∧ zH u2 t [] ∧ zFr t t 0 0 u u2 := by
  refine ⟨sI (sI u 0 t 0) 1 t 0, ?_, ?_, zFr_tr (zFr_I u t 0 0 (Or.inl rfl)) (zFr_I _ t 1 0 (Or.inr rfl))⟩
  · show (if zlT u t then some (sI (sI u 0 t 0) 1 t 0) else none) = _
    rw [if_pos hl]
  · have e1 : cI (sI (sI u 0 t 0) 1 t 0) 0 t = 0 := by
      show (if 0 = 1 ∧ t = t then 0 else if 0 = 0 ∧ t = t then (0 : Int) else cI u 0 t) = _
      rw [if_neg (by omega), if_pos ⟨rfl, rfl⟩]
    have e2 : cI (sI (sI u 0 t 0) 1 t 0) 1 t = 0 := by
      show (if 1 = 1 ∧ t = t then (0 : Int) else _) = _
      rw [if_pos ⟨rfl, rfl⟩]
    refine ⟨⟨by rw [e1]; exact Int.le_refl _, by rw [e1]; omega⟩, fun _ => ⟨e2, e1, Nat.zero_le _, fun i hi => absurd hi (Nat.not_lt_zero i), fun x hx => by cases hx⟩, fun h => absurd h (Nat.not_lt_zero _), fun x hx => by cases hx⟩
