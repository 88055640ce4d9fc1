/-! what the reference puts out, as a list -/
def zq (S A : List Nat) (r w : ZR) : Prop := (∀ k, k ∉ S → rI w k = rI r k) ∧ (∀ k, k ∉ S → rJ w k = rJ r k) ∧ (∀ k i, k ∉ A → rA w k i = rA r k i) ∧ ∀ k i, k ∉ A → rL w k i = rL r k i
theorem zq_rf (S A : List Nat) (r : ZR) : zq S A r r := ⟨fun _ _ => rfl, fun _ _ => rfl, fun _ _ _ => rfl, fun _ _ _ => rfl⟩
theorem zq_tr {S A : List Nat} {u v w : ZR} (a : zq S A u v) (b : zq S A v w) : zq S A u w := ⟨fun k h => (b.1 k h).trans (a.1 k h), fun k h => (b.2.1 k h).trans (a.2.1 k h), fun k i h => (b.2.2.1 k i h).trans (a.2.2.1 k i h), fun k i h => (b.2.2.2 k i h).trans (a.2.2.2 k i h)⟩
theorem zq_mono {S A S2 A2 : List Nat} {r w : ZR} (a : zq S A r w) (h : S.all (fun k => S2.contains k) = true) (h2 : A.all (fun k => A2.contains k) = true) : zq S2 A2 r w := by
  have e : ∀ k, k ∉ S2 → k ∉ S := fun k hk hh => hk (by have := List.all_eq_true.1 h k hh; exact List.contains_iff_mem.1 this)
  have e2 : ∀ k, k ∉ A2 → k ∉ A := fun k hk hh => hk (by have := List.all_eq_true.1 h2 k hh; exact List.contains_iff_mem.1 this)
  exact ⟨fun k h => a.1 k (e k h), fun k h => a.2.1 k (e k h), fun k i h => a.2.2.1 k i (e2 k h), fun k i h => a.2.2.2 k i (e2 k h)⟩
theorem zq_I (S A : List Nat) (r : ZR) (k : Nat) (v : Int) (h : k ∈ S) : zq S A r (tI r k v) := by
  refine ⟨fun f hf => ?_, fun _ _ => rfl, fun _ _ _ => rfl, fun _ _ _ => rfl⟩
  show (if f = k then v else rI r f) = rI r f
  rw [if_neg (show ¬ f = k from fun e => hf (by rw [e]; exact h))]
theorem zq_J (S A : List Nat) (r : ZR) (k : Nat) (v : Int64) (h : k ∈ S) : zq S A r (tJ r k v) := by
  refine ⟨fun _ _ => rfl, fun f hf => ?_, fun _ _ _ => rfl, fun _ _ _ => rfl⟩
  show (if f = k then v else rJ r f) = rJ r f
  rw [if_neg (show ¬ f = k from fun e => hf (by rw [e]; exact h))]
theorem zq_A (S A : List Nat) (r : ZR) (k i : Nat) (v : Int) (h : k ∈ A) : zq S A r (tA r k i v) := by
  refine ⟨fun _ _ => rfl, fun _ _ => rfl, fun f j hf => ?_, fun _ _ _ => rfl⟩
  show (if f = k ∧ j = i then v else rA r f j) = rA r f j
  rw [if_neg (show ¬ (f = k ∧ j = i) from fun e => hf (by rw [e.1]; exact h))]
theorem zq_L (S A : List Nat) (r : ZR) (k i : Nat) (v : Int64) (h : k ∈ A) : zq S A r (tL r k i v) := by
  refine ⟨fun _ _ => rfl, fun _ _ => rfl, fun _ _ _ => rfl, fun f j hf => ?_⟩
  show (if f = k ∧ j = i then v else rL r f j) = rL r f j
  rw [if_neg (show ¬ (f = k ∧ j = i) from fun e => hf (by rw [e.1]; exact h))]
/-- an array of the reference holds w from a place on -/
def zRA (r : ZR) (k off : Nat) (w : List Int) : Prop := ∀ i : Nat, i < w.length → rA r k (off + i) = w.getD i 0
/-- w was put out -/
def zHr (r : ZR) (w : List Int) : Prop := (8 ≤ rI r 2 ∧ rI r 2 ≤ 96) ∧ (0 ≤ rI r 35 ∧ rI r 35 ≤ rI r 2) ∧ ((w.length : Int) ≤ rI r 2 → rI r 36 = 0 ∧ rI r 35 = (w.length : Int) ∧ zRA r 34 0 w) ∧ (rI r 2 < (w.length : Int) → rI r 36 = 1)
theorem zHr_keep {S A : List Nat} {r s : ZR} {w : List Int} (a : zq S A r s) (h1 : 2 ∉ S ∧ 35 ∉ S ∧ 36 ∉ S) (h2 : 34 ∉ A) (H : zHr r w) : zHr s w := by
  unfold zHr zRA at H ⊢
  rw [a.1 2 h1.1, a.1 35 h1.2.1, a.1 36 h1.2.2]
  simp only [a.2.2.1 34 _ h2]
  exact H
theorem emit_is (F : Nat) {r : ZR} {w : List Int} (H : zHr r w) (b : Int) : ∃ r2, r_emit F r b = some r2 ∧ zHr r2 (w ++ [b]) ∧ zq [35, 36] [34] r r2 := by
  obtain ⟨h0, h1, h2, h3⟩ := H
  unfold r_emit
  by_cases hfull : rI r 35 < rI r 2
  · rw [if_pos (by rw [zI_lt (by omega) (by omega) (by omega) (by omega)]; exact hfull), if_pos (show zix (rI r 35) 96 from ⟨by omega, by omega, by omega⟩)]
    refine ⟨tI (tA r 34 (rI r 35).toNat b) 35 (rI r 35 + 1), rfl, ⟨h0, ⟨?_, ?_⟩, fun hw => ?_, fun hw => ?_⟩, zq_tr (zq_A _ _ r 34 _ b (by decide)) (zq_I _ _ _ 35 _ (by decide))⟩
    · show 0 ≤ rI r 35 + 1
      omega
    · show rI r 35 + 1 ≤ rI r 2
      omega
    · rw [List.length_append, List.length_singleton] at hw
      have hw : ((w.length + 1 : Nat) : Int) ≤ rI r 2 := hw
      obtain ⟨g1, g2, g3⟩ := h2 (by omega)
      refine ⟨g1, ?_, fun i hi => ?_⟩
      · rw [List.length_append, List.length_singleton]
        show rI r 35 + 1 = _
        omega
      · rw [List.length_append, List.length_singleton] at hi
        show (if 34 = 34 ∧ 0 + i = (rI r 35).toNat then b else rA r 34 (0 + i)) = _
        rw [zgA, zgs]
        by_cases hi2 : i < w.length
        · rw [if_neg (by omega), if_pos hi2]
          exact g3 i hi2
        · rw [if_pos ⟨rfl, by omega⟩, if_neg hi2, if_pos (by omega)]
    · rw [List.length_append, List.length_singleton] at hw
      have hw : rI r 2 < ((w.length + 1 : Nat) : Int) := hw
      show rI r 36 = 1
      apply h3
      apply Classical.byContradiction
      intro hcon
      obtain ⟨g1, g2, g3⟩ := h2 (by omega)
      omega
  · rw [if_neg (by rw [zI_lt (by omega) (by omega) (by omega) (by omega)]; exact hfull)]
    refine ⟨tI r 36 1, rfl, ⟨h0, h1, fun hw => ?_, fun hw => rfl⟩, zq_I _ _ r 36 1 (by decide)⟩
    rw [List.length_append, List.length_singleton] at hw
    have hw : ((w.length + 1 : Nat) : Int) ≤ rI r 2 := hw
    obtain ⟨g1, g2, g3⟩ := h2 (by omega)
    omega
theorem scale_is (F : Nat) (r : ZR) (v : Nat) (hv : v < 1000) : r_scale F r (v : Int) = some (if v < 10 then 1 else if v < 100 then 10 else 100) := by
  unfold r_scale
  simp (disch := omega) only [zI_lt, zI_le, zI_eq, zI_eq0, zI_lt0, zI_0lt, zI_le0, zI_0le, zI_eq33, zI_eq38, zI_eq40, zI_eq41, zI_eq59, zI_eq60, zI_eq62, zI_eq124]
  by_cases h1 : v < 10
  · rw [if_pos (by omega), if_pos (by omega), if_pos h1]
    rfl
  · by_cases h2 : v < 100
    · rw [if_pos (by omega), if_neg (by omega), if_neg h1, if_pos h2]
      rfl
    · rw [if_neg (by omega), if_neg h1, if_neg h2]
      rfl
theorem emitNum_step (F n : Nat) {r : ZR} {w : List Int} (H : zHr r w) (v d : Nat) (hv : v < 1000) (hd : d = 1 ∨ d = 10 ∨ d = 100) : ∃ r2, r_emitNumber_5 F (n + 1) r (v : Int) (d : Int) = r_emitNumber_5 F n r2 (v : Int) (zdiv (d : Int) 10) ∧ zHr r2 (w ++ [48 + ((v / d % 10 : Nat) : Int)]) ∧ zq [35, 36] [34] r r2 := by
  obtain ⟨u2, c1, c2, c3⟩ := emit_is F H (48 + ((v / d % 10 : Nat) : Int))
  refine ⟨u2, ?_, c2, c3⟩
  rw [r_emitNumber_5, if_neg (by rw [zI_le0 (by omega) (by omega)]; omega), if_pos (by rw [zI_eq0 (by omega) (by omega)]; omega), (digit_is v d hv hd).2, c1]
  rfl
theorem emitNum_end (F n : Nat) (r : ZR) (v : Int) : r_emitNumber_5 F (n + 1) r v 0 = some r := by
  rw [r_emitNumber_5, if_pos (by decide)]
theorem emitNumber_is (F : Nat) (hF : 10 ≤ F) {r : ZR} {w : List Int} (H : zHr r w) (v : Nat) (hv : v < 1000) : ∃ r2, r_emitNumber F r (v : Int) = some r2 ∧ zHr r2 (w ++ zdg v) ∧ zq [35, 36] [34] r r2 := by
  obtain ⟨F, rfl⟩ : ∃ n, F = n + 10 := ⟨F - 10, by omega⟩
  unfold r_emitNumber
  rw [scale_is (F + 10) r v hv]
  simp only [Option.bind_some]
  unfold zdg
  by_cases h1 : v < 10
  · rw [if_pos h1, if_pos h1]
    obtain ⟨u2, c1, c2, c3⟩ := emitNum_step (F + 10) (F + 9) H v 1 hv (Or.inl rfl)
    refine ⟨u2, ?_, ?_, c3⟩
    · have c1' : r_emitNumber_5 (F + 10) (F + 10) r (v : Int) 1 = r_emitNumber_5 (F + 10) (F + 9) u2 (v : Int) (zdiv 1 10) := c1
      rw [c1', zdiv10_1, emitNum_end]
    · rw [show v / 1 % 10 = v by omega] at c2
      exact c2
  · rw [if_neg h1, if_neg h1]
    by_cases h2 : v < 100
    · rw [if_pos h2, if_pos h2]
      obtain ⟨u2, c1, c2, c3⟩ := emitNum_step (F + 10) (F + 9) H v 10 hv (Or.inr (Or.inl rfl))
      obtain ⟨u3, g1, g2, g3⟩ := emitNum_step (F + 10) (F + 8) c2 v 1 hv (Or.inl rfl)
      refine ⟨u3, ?_, ?_, zq_tr c3 g3⟩
      · have c1' : r_emitNumber_5 (F + 10) (F + 10) r (v : Int) 10 = r_emitNumber_5 (F + 10) (F + 9) u2 (v : Int) (zdiv 10 10) := c1
        have g1' : r_emitNumber_5 (F + 10) (F + 9) u2 (v : Int) 1 = r_emitNumber_5 (F + 10) (F + 8) u3 (v : Int) (zdiv 1 10) := g1
        rw [c1', zdiv10_10, g1', zdiv10_1, emitNum_end]
      · rw [List.append_assoc, show v / 10 % 10 = v / 10 by omega, show v / 1 % 10 = v % 10 by omega] at g2
        exact g2
    · rw [if_neg h2, if_neg h2]
      obtain ⟨u2, c1, c2, c3⟩ := emitNum_step (F + 10) (F + 9) H v 100 hv (Or.inr (Or.inr rfl))
      obtain ⟨u3, g1, g2, g3⟩ := emitNum_step (F + 10) (F + 8) c2 v 10 hv (Or.inr (Or.inl rfl))
      obtain ⟨u4, k1, k2, k3⟩ := emitNum_step (F + 10) (F + 7) g2 v 1 hv (Or.inl rfl)
      refine ⟨u4, ?_, ?_, zq_tr (zq_tr c3 g3) k3⟩
      · have c1' : r_emitNumber_5 (F + 10) (F + 10) r (v : Int) 100 = r_emitNumber_5 (F + 10) (F + 9) u2 (v : Int) (zdiv 100 10) := c1
        have g1' : r_emitNumber_5 (F + 10) (F + 9) u2 (v : Int) 10 = r_emitNumber_5 (F + 10) (F + 8) u3 (v : Int) (zdiv 10 10) := g1
        have k1' : r_emitNumber_5 (F + 10) (F + 8) u3 (v : Int) 1 = r_emitNumber_5 (F + 10) (F + 7) u4 (v : Int) (zdiv 1 10) := k1
        rw [c1', zdiv10_100, g1', zdiv10_10, k1', zdiv10_1, emitNum_end]
      · rw [List.append_assoc, List.append_assoc, show v / 100 % 10 = v / 100 by omega, show v / 1 % 10 = v % 10 by omega] at k2
        exact k2
